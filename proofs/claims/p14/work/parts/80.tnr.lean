/-! cells that a closed set of methods can't reach: no field that leads to them is read -/
section NRR
variable {fr lo k pc sz sl : Nat} {L : pm_L} {S : List Value} {h : pm_H} {st' : pm_St} {A : Nat → Bool} {G : Nat → Nat → Bool}
def nrv (A : Nat → Bool) (v : Value) : Prop := ∀ p, v = .ref p → A p = false
def nrL (A : Nat → Bool) (L : pm_L) : Prop := ∀ (i : Nat) (v : Value), L[i]? = some (some v) → nrv A v
def nrS (A : Nat → Bool) (S : List Value) : Prop := ∀ v, v ∈ S → nrv A v
def nrH (A : Nat → Bool) (G : Nat → Nat → Bool) (h : pm_H) : Prop := (∀ i ci fs, i < 198 → h i = .inr (ci, fs) → ∀ (f : Nat) (v : Value), fs[f]? = some v → G ci f = false → nrv A v) ∧ ∀ i kd n f, i < 198 → h i = .inl (kd, n, .inr (.inr (.inr (.inr f)))) → ∀ j, j < n → nrv A (va_rf (f j))
theorem nrv_i (x : Int32) : nrv A (.int x) := fun p e => by cases e
theorem nrv_l (x : Int64) : nrv A (.long x) := fun p e => by cases e
theorem nrv_t (x : Nat) : nrv A (.retAddr x) := fun p e => by cases e
theorem nrS_cons {v : Value} {r : List Value} : nrS A (v :: r) ↔ nrv A v ∧ nrS A r := List.forall_mem_cons
theorem nrL_set {i : Nat} {o : Option Value} (h : nrL A L) (ho : ∀ v, o = some v → nrv A v) : nrL A (L.set i o) := by
  intro j v e
  by_cases z : i = j
  · subst z
    rw [List.getElem?_set] at e
    split at e
    · split at e
      · cases e
        exact ho v rfl
      · cases e
    · exact absurd rfl ‹_›
  · rw [List.getElem?_set_ne z] at e
    exact h j v e
theorem nrL_cut {i : Nat} (h : nrL A L) : nrL A (pm_cut L i) := by
  unfold pm_cut
  split
  · exact h
  · split
    · exact nrL_set h (fun v e => by cases e)
    · exact h
theorem nrL_st1 {i : Nat} {v : Value} (h : nrL A L) (hv : nrv A v) : nrL A (pm_st1 L i v) := nrL_set (nrL_cut h) (fun w e => by cases e; exact hv)
theorem nrL_st2 {i : Nat} {v : Value} (h : nrL A L) (hv : nrv A v) : nrL A (pm_st2 L i v) := nrL_set (nrL_set (nrL_cut h) (fun w e => by cases e; exact hv)) (fun w e => by cases e)
theorem nrL_get {i : Nat} {v : Value} (h : nrL A L) (e : pm_get L i = some v) : nrv A v := by
  unfold pm_get at e
  split at e
  · rename_i w ew
    cases e
    exact h i v ew
  · cases e
theorem nrL_ld {t i : Nat} {v : Value} (h : nrL A L) (e : pm_ld t L i = some v) : nrv A v := by
  unfold pm_ld at e
  split at e
  · rename_i w ew
    split at e
    · cases e
      exact nrL_get h ew
    · cases e
  · cases e
theorem nrL_args : ∀ {vs : List Value}, nrS A vs → nrL A (pm_args vs)
  | [], _ => fun i v e => by simp [pm_args] at e
  | w :: r, hS => by
    obtain ⟨h1, h2⟩ := nrS_cons.mp hS
    have ih := nrL_args h2
    unfold pm_args
    split
    · intro i v e
      match i, e with
      | 0, e => cases e; exact h1
      | 1, e => cases e
      | i + 2, e => exact ih i v e
    · intro i v e
      match i, e with
      | 0, e => cases e; exact h1
      | i + 1, e => exact ih i v e
theorem nrL_l0 {vs : List Value} {n : Nat} (hS : nrS A vs) : nrL A (pm_l0 vs n) := by
  intro i v e
  unfold pm_l0 at e
  by_cases z : i < (pm_args vs).length
  · rw [List.getElem?_append_left z] at e
    exact nrL_args hS i v e
  · rw [List.getElem?_append_right (by omega)] at e
    rw [List.getElem?_replicate] at e
    split at e
    · cases e
    · cases e
def nr_i (G : Nat → Nat → Bool) (k : Nat) (i : Instr) : Bool := match i with
  | .getfield j => (match pm_fld PT (pm_o PT k) j with
    | some (ci, f, _) => !(G ci f)
    | none => true)
  | .aastore | .newarray _ | .anewarray _ | .new _ => false
  | _ => true
def nr_st (A : Nat → Bool) (G : Nat → Nat → Bool) (L : pm_L) (S : List Value) (h : pm_H) : Prop := nrL A L ∧ nrS A S ∧ nrH A G h
theorem nrH_arr {a : Nat} {e : Nat × vp_A} (hH : nrH A G h) (he : ∀ kd n f, e = (kd, n, .inr (.inr (.inr (.inr f)))) → ∀ j, j < n → nrv A (va_rf (f j))) : nrH A G (va_up h a (.inl e)) := by
  refine ⟨fun i ci fs hb hi => ?_, fun i kd n f hb hi => ?_⟩
  · by_cases z : i = a
    · subst z; simp [va_up] at hi
    · simp [va_up, z] at hi; exact hH.1 i ci fs hb hi
  · by_cases z : i = a
    · subst z
      simp [va_up] at hi
      exact he kd n f hi
    · simp [va_up, z] at hi; exact hH.2 i kd n f hb hi
theorem nrH_fld {a ci f : Nat} {fs : List Value} {v : Value} (hH : nrH A G h) (e : h a = .inr (ci, fs)) (hv : nrv A v) : nrH A G (va_up h a (.inr (ci, fs.set f v))) := by
  refine ⟨fun i cj gs hb hi => ?_, fun i kd n g hb hi => ?_⟩
  · by_cases z : i = a
    · subst z
      simp [va_up] at hi
      obtain ⟨rfl, rfl⟩ := hi
      intro g w hw hG
      by_cases zf : f = g
      · subst zf
        rw [List.getElem?_set] at hw
        split at hw
        · split at hw
          · cases hw; exact hv
          · cases hw
        · exact absurd rfl ‹_›
      · rw [List.getElem?_set_ne zf] at hw
        exact hH.1 i ci fs hb e g w hw hG
    · simp [va_up, z] at hi; exact hH.1 i cj gs hb hi
  · by_cases z : i = a
    · subst z; simp [va_up] at hi
    · simp [va_up, z] at hi; exact hH.2 i kd n g hb hi
theorem nr_up {a : Nat} {e : pm_E} (ha : A a = false) : ∀ i, A i = true → va_up h a e i = h i := by
  intro i hi
  have : i ≠ a := fun q => by rw [q, ha] at hi; cases hi
  simp [va_up, this]
set_option maxHeartbeats 8000000 in
theorem nr_simple {i : Instr} (hB : sz ≤ 198) (hi : nr_i G k i = true) (q : nr_st A G L S h) (hh : pm_simple PT fr lo k i pc L S h sz sl = some st') : nr_st A G st'.2.1 st'.2.2.1 st'.2.2.2.1 ∧ ∀ a, A a = true → st'.2.2.2.1 a = h a := by
  obtain ⟨hL, hS, hH⟩ := q
  have lib : ∀ sp j, pm_libW PT sp fr lo k j pc L S h sz sl = some st' → nr_st A G st'.2.1 st'.2.2.1 st'.2.2.2.1 ∧ ∀ a, A a = true → st'.2.2.2.1 a = h a := by
    intro sp j hh
    unfold pm_libW at hh
    split at hh
    · split at hh
      · unfold pm_lib at hh
        split at hh
        · split at hh
          · cases hh
            exact ⟨⟨hL, (nrS_cons.mp hS).2, hH⟩, fun _ _ => rfl⟩
          · cases hh
        · split at hh
          · cases hh
            exact ⟨⟨hL, nrS_cons.mpr ⟨nrv_i _, (nrS_cons.mp (nrS_cons.mp hS).2).2⟩, hH⟩, fun _ _ => rfl⟩
          · cases hh
        · split at hh
          · cases hh
            exact ⟨⟨hL, nrS_cons.mpr ⟨nrv_i _, (nrS_cons.mp (nrS_cons.mp hS).2).2⟩, hH⟩, fun _ _ => rfl⟩
          · cases hh
        · split at hh
          · split at hh
            · cases hh
              simp only [nrS_cons] at hS
              exact ⟨⟨hL, hS.2.2.2.2.2, nrH_arr hH (fun kd n f e => by cases e)⟩, nr_up (hS.2.2.1 _ rfl)⟩
            · cases hh
          · cases hh
        · cases hh
      · cases hh
    · cases hh
  by_cases hq : (∃ j, i = .invokespecial j) ∨ ∃ j, i = .invokestatic j
  · rcases hq with ⟨j, rfl⟩ | ⟨j, rfl⟩
    · exact lib true j hh
    · exact lib false j hh
  · unfold pm_simple at hh
    split at hh
    all_goals (try (cases hi; done))
    all_goals (try (exact absurd (Or.inl ⟨_, rfl⟩) hq))
    all_goals (try (exact absurd (Or.inr ⟨_, rfl⟩) hq))
    all_goals (try simp only [pm_bi, pm_bd, pm_bl, pm_bdL, pm_ui, pm_lo, pm_so, pm_sL, pm_jp, pm_br, pm_ia, pm_la, pm_qa, pm_al, pm_gf, pm_pf, pm_iS, pm_lS, pm_qS, pm_libV] at hh)
    all_goals (repeat' split at hh)
    all_goals (try (cases hh; done))
    all_goals cases hh
    all_goals (try simp only [nrS_cons] at hS)
    all_goals first
      | exact ⟨⟨hL, hS, hH⟩, fun _ _ => rfl⟩
      | exact ⟨⟨hL, hS.2, hH⟩, fun _ _ => rfl⟩
      | exact ⟨⟨hL, hS.2.2, hH⟩, fun _ _ => rfl⟩
      | exact ⟨⟨hL, nrS_cons.mpr ⟨nrv_i _, hS⟩, hH⟩, fun _ _ => rfl⟩
      | exact ⟨⟨hL, nrS_cons.mpr ⟨nrv_l _, hS⟩, hH⟩, fun _ _ => rfl⟩
      | exact ⟨⟨hL, nrS_cons.mpr ⟨nrv_t _, hS⟩, hH⟩, fun _ _ => rfl⟩
      | exact ⟨⟨hL, nrS_cons.mpr ⟨nrv_i _, hS.2⟩, hH⟩, fun _ _ => rfl⟩
      | exact ⟨⟨hL, nrS_cons.mpr ⟨nrv_l _, hS.2⟩, hH⟩, fun _ _ => rfl⟩
      | exact ⟨⟨hL, nrS_cons.mpr ⟨nrv_i _, hS.2.2⟩, hH⟩, fun _ _ => rfl⟩
      | exact ⟨⟨hL, nrS_cons.mpr ⟨nrv_l _, hS.2.2⟩, hH⟩, fun _ _ => rfl⟩
      | exact ⟨⟨hL, nrS_cons.mpr ⟨nrL_ld hL ‹_›, hS⟩, hH⟩, fun _ _ => rfl⟩
      | exact ⟨⟨nrL_st1 hL hS.1, hS.2, hH⟩, fun _ _ => rfl⟩
      | exact ⟨⟨nrL_st2 hL hS.1, hS.2, hH⟩, fun _ _ => rfl⟩
      | exact ⟨⟨nrL_st1 hL (nrv_i _), hS, hH⟩, fun _ _ => rfl⟩
      | exact ⟨⟨hL, hS.2.2.2, nrH_arr hH (fun kd n f e => by cases e)⟩, nr_up (hS.2.2.1 _ rfl)⟩
      | exact ⟨⟨hL, nrS_cons.mpr ⟨hS.1, nrS_cons.mpr ⟨hS.1, hS.2⟩⟩, hH⟩, fun _ _ => rfl⟩
      | exact ⟨⟨hL, nrS_cons.mpr ⟨hS.1, nrS_cons.mpr ⟨hS.2.1, nrS_cons.mpr ⟨hS.1, hS.2.2⟩⟩⟩, hH⟩, fun _ _ => rfl⟩
      | exact ⟨⟨hL, nrS_cons.mpr ⟨hS.1, nrS_cons.mpr ⟨hS.2.1, nrS_cons.mpr ⟨hS.2.2.1, nrS_cons.mpr ⟨hS.1, hS.2.2.2⟩⟩⟩⟩, hH⟩, fun _ _ => rfl⟩
      | exact ⟨⟨hL, nrS_cons.mpr ⟨hS.1, nrS_cons.mpr ⟨hS.2.1, nrS_cons.mpr ⟨hS.1, nrS_cons.mpr ⟨hS.2.1, hS.2.2⟩⟩⟩⟩, hH⟩, fun _ _ => rfl⟩
      | skip
    · rename_i j a r x2 x1 ci fs cj f t e2 e1 hc x v e
      subst hc
      refine ⟨⟨hL, nrS_cons.mpr ⟨?_, hS.2⟩, hH⟩, fun _ _ => rfl⟩
      have hg : G cj f = false := by
        unfold nr_i at hi
        dsimp only at hi
        rw [e1] at hi
        simpa using hi
      exact hH.1 a cj fs (Nat.lt_of_lt_of_le (pm_obj_inv e2).1 hB) (pm_obj_inv e2).2 f v e hg
    · rename_i j v a r x1 x ci fs cj f t e1 e hc
      exact ⟨⟨hL, hS.2.2, nrH_fld hH (pm_obj_inv e1).2 hS.1⟩, nr_up (hS.2.1 _ rfl)⟩
    · rename_i i a r x kd n f e hc
      refine ⟨⟨hL, nrS_cons.mpr ⟨?_, hS.2.2⟩, hH⟩, fun _ _ => rfl⟩
      unfold pm_qar at e
      split at e
      · rename_i hlt
        split at e
        · rename_i kd' n' f' eh
          cases e
          exact hH.2 a _ _ _ (Nat.lt_of_lt_of_le hlt hB) eh _ (by
            have := of_decide_eq_true hc.1
            omega)
        · cases e
      · cases e
def nr_ok (G : Nat → Nat → Bool) (K : Nat → Bool) : Prop := ∀ k pc i len, K k = true → pm_ins PT k pc = some (i, len) → nr_i G k i = true ∧ ∀ w t, pm_callee PT k i = some (w, t) → K t = true
theorem nrS_take {n : Nat} (h : nrS A S) : nrS A (S.take n).reverse := fun v hv => h v (List.mem_of_mem_take (List.mem_reverse.mp hv))
theorem nrS_drop {n : Nat} (h : nrS A S) : nrS A (S.drop n) := fun v hv => h v (List.mem_of_mem_drop hv)
theorem nr_run {P : Nat → Nat → Bool} {K : Nat → Bool} (hK : nr_ok G K) (hS : sf_ok P K) : ∀ (n fr lo k : Nat) (st : pm_St) (r : pm_Rs), K k = true → st.2.2.2.2.1 ≤ 198 → nr_st A G st.2.1 st.2.2.1 st.2.2.2.1 → pm_run PT n fr lo k st = some r → ((∀ v, r.1 = some v → nrv A v) ∧ nrH A G r.2.1) ∧ ∀ a, A a = true → r.2.1 a = st.2.2.2.1 a
  | 0, _, _, _, _, _, _, _, _, h => by cases h
  | n + 1, fr, lo, k, st, r, hk, hB, q, h => by
    unfold pm_run at h
    split at h
    · rename_i r' e1
      cases h
      unfold pm_end at e1
      split at e1
      · cases e1
      · split at e1
        · split at e1
          · rename_i rv er
            cases e1
            refine ⟨⟨fun v ev => ?_, q.2.2⟩, fun _ _ => rfl⟩
            dsimp only at ev
            subst ev
            unfold pm_rets at er
            repeat' split at er
            all_goals first
              | (cases er; done)
              | (cases er; first | exact nrv_i _ | exact nrv_l _ | exact q.2.1 _ (by rw [‹st.2.2.1 = _›]; exact List.mem_cons_self))
          · cases e1
        · cases e1
    · split at h
      · rename_i st' e2
        unfold pm_step at e2
        split at e2
        · cases e2
        · rename_i i len ei
          obtain ⟨n1, n2⟩ := hK k _ i len hk ei
          split at e2
          · split at e2
            · rename_i w t ec
              split at e2
              · split at e2
                · rename_i rv h1 sz1 sl1 e3
                  cases e2
                  obtain ⟨⟨a1, a2⟩, a3⟩ := nr_run hK hS n _ _ t (0, pm_l0 (st.2.2.1.take (pm_na PT t)).reverse (pm_max PT t), [], st.2.2.2.1, st.2.2.2.2.1, st.2.2.2.2.2) (rv, h1, sz1, sl1) (n2 w t ec) hB ⟨nrL_l0 (nrS_take q.2.1), fun v hv => absurd hv (by simp), q.2.2⟩ e3
                  have hz := sz_run hS n _ _ t (0, pm_l0 (st.2.2.1.take (pm_na PT t)).reverse (pm_max PT t), [], st.2.2.2.1, st.2.2.2.2.1, st.2.2.2.2.2) (rv, h1, sz1, sl1) (n2 w t ec) e3
                  have hz1 : sz1 = st.2.2.2.2.1 := congrArg (fun q : Nat × Nat => q.1) hz
                  obtain ⟨b1, b3⟩ := nr_run hK hS n fr lo k (st.1 + 3, st.2.1, rv.toList ++ st.2.2.1.drop (pm_na PT t), h1, sz1, sl1) r hk (by show sz1 ≤ 198; omega) ⟨q.1, fun v hv => by
                    rcases List.mem_append.mp hv with hv | hv
                    · exact a1 v (by simpa using hv)
                    · exact nrS_drop q.2.1 v hv, a2⟩ h
                  exact ⟨b1, fun a ha => (b3 a ha).trans (a3 a ha)⟩
                · cases e2
              · cases e2
            · obtain ⟨a1, a2⟩ := nr_simple hB n1 q e2
              have hz := sz_simple ((hS k _ i len hk ei).1) e2
              have hz1 : st'.2.2.2.2.1 = st.2.2.2.2.1 := congrArg (fun q : Nat × Nat => q.1) hz
              obtain ⟨b1, b3⟩ := nr_run hK hS n fr lo k st' r hk (by omega) a1 h
              exact ⟨b1, fun a ha => (b3 a ha).trans (a2 a ha)⟩
          · cases e2
      · cases h
def nr_c (G : Nat → Nat → Bool) (K : Nat → Bool) (k : Nat) (i : Instr) : Bool := nr_i G k i && (match pm_callee PT k i with
  | some (_, t) => K t
  | none => true)
def nr_b (G : Nat → Nat → Bool) (K : Nat → Bool) (k : Nat) : Bool := match pd_a2 k with
  | some e => e.2.all (fun c => c.all (fun x => nr_c G K k x.2.1))
  | none => true
theorem nr_of {K : Nat → Bool} {N : List Nat} (hN : ∀ k, K k = true → k ∈ N) (hb : N.all (nr_b G K) = true) : nr_ok G K := by
  intro k pc i len hk hi
  have hb := List.all_eq_true.mp hb k (hN k hk)
  have hi : pd_ins k pc = some (i, len) := hi
  unfold pd_ins at hi
  unfold nr_b at hb
  split at hi
  · rename_i e ee
    rw [ee] at hb
    dsimp only at hb
    unfold pm_ch at hi
    split at hi
    · rename_i c ec
      have h1 := List.all_eq_true.mp (List.all_eq_true.mp hb c (pm_nth_mem ec)) _ (pm_fd_mem hi)
      unfold nr_c at h1
      rw [Bool.and_eq_true] at h1
      obtain ⟨a1, a2⟩ := h1
      dsimp only at a1 a2
      refine ⟨a1, fun w t ht => ?_⟩
      rw [ht] at a2
      exact a2
    · cases hi
  · cases hi
end NRR
