section MH95zzyvx0
/-! cells that lead into themselves and are led to by fields alone that nobody reads: a closed set of methods leaves them -/
section NQQ
variable {fr lo k pc sz sl : Nat} {L : pm_L} {S : List Value} {h : pm_H} {st' : pm_St} {A : Nat → Bool} {G : Nat → Nat → Bool}
def nqH (A : Nat → Bool) (G : Nat → Nat → Bool) (h : pm_H) : Prop := (∀ i ci fs, i < 198 → A i = false → h i = .inr (ci, fs) → ∀ (f : Nat) (v : Value), fs[f]? = some v → G ci f = false → nrv A v) ∧ ∀ i kd n f, i < 198 → A i = false → h i = .inl (kd, n, .inr (.inr (.inr (.inr f)))) → ∀ j, j < n → nrv A (va_rf (f j))
def nq_st (A : Nat → Bool) (G : Nat → Nat → Bool) (L : pm_L) (S : List Value) (h : pm_H) : Prop := nrL A L ∧ nrS A S ∧ nqH A G h
theorem nqH_arr {a : Nat} {e : Nat × vp_A} (hH : nqH A G h) (he : ∀ kd n f, e = (kd, n, .inr (.inr (.inr (.inr f)))) → ∀ j, j < n → nrv A (va_rf (f j))) : nqH A G (va_up h a (.inl e)) := by
  refine ⟨fun i ci fs hb hA hi => ?_, fun i kd n f hb hA hi => ?_⟩
  · by_cases z : i = a
    · subst z; simp [va_up] at hi
    · simp [va_up, z] at hi; exact hH.1 i ci fs hb hA hi
  · by_cases z : i = a
    · subst z
      simp [va_up] at hi
      exact he kd n f hi
    · simp [va_up, z] at hi; exact hH.2 i kd n f hb hA hi
theorem nqH_fld {a ci f : Nat} {fs : List Value} {v : Value} (hH : nqH A G h) (e : h a = .inr (ci, fs)) (hv : nrv A v) : nqH A G (va_up h a (.inr (ci, fs.set f v))) := by
  refine ⟨fun i cj gs hb hA hi => ?_, fun i kd n g hb hA hi => ?_⟩
  · by_cases z : i = a
    · subst z
      simp [va_up] at hi
      obtain ⟨rfl, rfl⟩ := hi
      intro g w hw hG
      by_cases zf : f = g
      · subst zf
        rw [List.getElem?_set] at hw
        split at hw
        · split at hw
          · cases hw; exact hv
          · cases hw
        · exact absurd rfl ‹_›
      · rw [List.getElem?_set_ne zf] at hw
        exact hH.1 i ci fs hb hA e g w hw hG
    · simp [va_up, z] at hi; exact hH.1 i cj gs hb hA hi
  · by_cases z : i = a
    · subst z; simp [va_up] at hi
    · simp [va_up, z] at hi; exact hH.2 i kd n g hb hA hi
set_option maxHeartbeats 8000000 in
theorem nq_simple {i : Instr} (hB : sz ≤ 198) (hi : nr_i G k i = true) (q : nq_st A G L S h) (hh : pm_simple PT fr lo k i pc L S h sz sl = some st') : nq_st A G st'.2.1 st'.2.2.1 st'.2.2.2.1 ∧ ∀ a, A a = true → st'.2.2.2.1 a = h a := by
  obtain ⟨hL, hS, hH⟩ := q
  have lib : ∀ sp j, pm_libW PT sp fr lo k j pc L S h sz sl = some st' → nq_st A G st'.2.1 st'.2.2.1 st'.2.2.2.1 ∧ ∀ a, A a = true → st'.2.2.2.1 a = h a := by
    intro sp j hh
    unfold pm_libW at hh
    split at hh
    · split at hh
      · unfold pm_lib at hh
        split at hh
        · split at hh
          · cases hh
            exact ⟨⟨hL, (nrS_cons.mp hS).2, hH⟩, fun _ _ => rfl⟩
          · cases hh
        · split at hh
          · cases hh
            exact ⟨⟨hL, nrS_cons.mpr ⟨nrv_i _, (nrS_cons.mp (nrS_cons.mp hS).2).2⟩, hH⟩, fun _ _ => rfl⟩
          · cases hh
        · split at hh
          · cases hh
            exact ⟨⟨hL, nrS_cons.mpr ⟨nrv_i _, (nrS_cons.mp (nrS_cons.mp hS).2).2⟩, hH⟩, fun _ _ => rfl⟩
          · cases hh
        · split at hh
          · split at hh
            · cases hh
              simp only [nrS_cons] at hS
              exact ⟨⟨hL, hS.2.2.2.2.2, nqH_arr hH (fun kd n f e => by cases e)⟩, nr_up (hS.2.2.1 _ rfl)⟩
            · cases hh
          · cases hh
        · cases hh
      · cases hh
    · cases hh
  by_cases hq : (∃ j, i = .invokespecial j) ∨ ∃ j, i = .invokestatic j
  · rcases hq with ⟨j, rfl⟩ | ⟨j, rfl⟩
    · exact lib true j hh
    · exact lib false j hh
  · unfold pm_simple at hh
    split at hh
    all_goals (try (cases hi; done))
    all_goals (try (exact absurd (Or.inl ⟨_, rfl⟩) hq))
    all_goals (try (exact absurd (Or.inr ⟨_, rfl⟩) hq))
    all_goals (try simp only [pm_bi, pm_bd, pm_bl, pm_bdL, pm_ui, pm_lo, pm_so, pm_sL, pm_jp, pm_br, pm_ia, pm_la, pm_qa, pm_al, pm_gf, pm_pf, pm_iS, pm_lS, pm_qS, pm_libV] at hh)
    all_goals (repeat' split at hh)
    all_goals (try (cases hh; done))
    all_goals cases hh
    all_goals (try simp only [nrS_cons] at hS)
    all_goals first
      | exact ⟨⟨hL, hS, hH⟩, fun _ _ => rfl⟩
      | exact ⟨⟨hL, hS.2, hH⟩, fun _ _ => rfl⟩
      | exact ⟨⟨hL, hS.2.2, hH⟩, fun _ _ => rfl⟩
      | exact ⟨⟨hL, nrS_cons.mpr ⟨nrv_i _, hS⟩, hH⟩, fun _ _ => rfl⟩
      | exact ⟨⟨hL, nrS_cons.mpr ⟨nrv_l _, hS⟩, hH⟩, fun _ _ => rfl⟩
      | exact ⟨⟨hL, nrS_cons.mpr ⟨nrv_t _, hS⟩, hH⟩, fun _ _ => rfl⟩
      | exact ⟨⟨hL, nrS_cons.mpr ⟨nrv_i _, hS.2⟩, hH⟩, fun _ _ => rfl⟩
      | exact ⟨⟨hL, nrS_cons.mpr ⟨nrv_l _, hS.2⟩, hH⟩, fun _ _ => rfl⟩
      | exact ⟨⟨hL, nrS_cons.mpr ⟨nrv_i _, hS.2.2⟩, hH⟩, fun _ _ => rfl⟩
      | exact ⟨⟨hL, nrS_cons.mpr ⟨nrv_l _, hS.2.2⟩, hH⟩, fun _ _ => rfl⟩
      | exact ⟨⟨hL, nrS_cons.mpr ⟨nrL_ld hL ‹_›, hS⟩, hH⟩, fun _ _ => rfl⟩
      | exact ⟨⟨nrL_st1 hL hS.1, hS.2, hH⟩, fun _ _ => rfl⟩
      | exact ⟨⟨nrL_st2 hL hS.1, hS.2, hH⟩, fun _ _ => rfl⟩
      | exact ⟨⟨nrL_st1 hL (nrv_i _), hS, hH⟩, fun _ _ => rfl⟩
      | exact ⟨⟨hL, hS.2.2.2, nqH_arr hH (fun kd n f e => by cases e)⟩, nr_up (hS.2.2.1 _ rfl)⟩
      | exact ⟨⟨hL, nrS_cons.mpr ⟨hS.1, nrS_cons.mpr ⟨hS.1, hS.2⟩⟩, hH⟩, fun _ _ => rfl⟩
      | exact ⟨⟨hL, nrS_cons.mpr ⟨hS.1, nrS_cons.mpr ⟨hS.2.1, nrS_cons.mpr ⟨hS.1, hS.2.2⟩⟩⟩, hH⟩, fun _ _ => rfl⟩
      | exact ⟨⟨hL, nrS_cons.mpr ⟨hS.1, nrS_cons.mpr ⟨hS.2.1, nrS_cons.mpr ⟨hS.2.2.1, nrS_cons.mpr ⟨hS.1, hS.2.2.2⟩⟩⟩⟩, hH⟩, fun _ _ => rfl⟩
      | exact ⟨⟨hL, nrS_cons.mpr ⟨hS.1, nrS_cons.mpr ⟨hS.2.1, nrS_cons.mpr ⟨hS.1, nrS_cons.mpr ⟨hS.2.1, hS.2.2⟩⟩⟩⟩, hH⟩, fun _ _ => rfl⟩
      | skip
    · rename_i j a r x2 x1 ci fs cj f t e2 e1 hc x v e
      subst hc
      refine ⟨⟨hL, nrS_cons.mpr ⟨?_, hS.2⟩, hH⟩, fun _ _ => rfl⟩
      have hg : G cj f = false := by
        unfold nr_i at hi
        dsimp only at hi
        rw [e1] at hi
        simpa using hi
      exact hH.1 a cj fs (Nat.lt_of_lt_of_le (pm_obj_inv e2).1 hB) (hS.1 _ rfl) (pm_obj_inv e2).2 f v e hg
    · rename_i j v a r x1 x ci fs cj f t e1 e hc
      exact ⟨⟨hL, hS.2.2, nqH_fld hH (pm_obj_inv e1).2 hS.1⟩, nr_up (hS.2.1 _ rfl)⟩
    · rename_i i a r x kd n f e hc
      refine ⟨⟨hL, nrS_cons.mpr ⟨?_, hS.2.2⟩, hH⟩, fun _ _ => rfl⟩
      unfold pm_qar at e
      split at e
      · rename_i hlt
        split at e
        · rename_i kd' n' f' eh
          cases e
          exact hH.2 a _ _ _ (Nat.lt_of_lt_of_le hlt hB) (hS.2.1 _ rfl) eh _ (by
            have := of_decide_eq_true hc.1
            omega)
        · cases e
      · cases e
theorem nq_run {P : Nat → Nat → Bool} {K : Nat → Bool} (hK : nr_ok G K) (hS : sf_ok P K) : ∀ (n fr lo k : Nat) (st : pm_St) (r : pm_Rs), K k = true → st.2.2.2.2.1 ≤ 198 → nq_st A G st.2.1 st.2.2.1 st.2.2.2.1 → pm_run PT n fr lo k st = some r → ((∀ v, r.1 = some v → nrv A v) ∧ nqH A G r.2.1) ∧ ∀ a, A a = true → r.2.1 a = st.2.2.2.1 a
  | 0, _, _, _, _, _, _, _, _, h => by cases h
  | n + 1, fr, lo, k, st, r, hk, hB, q, h => by
    unfold pm_run at h
    split at h
    · rename_i r' e1
      cases h
      unfold pm_end at e1
      split at e1
      · cases e1
      · split at e1
        · split at e1
          · rename_i rv er
            cases e1
            refine ⟨⟨fun v ev => ?_, q.2.2⟩, fun _ _ => rfl⟩
            dsimp only at ev
            subst ev
            unfold pm_rets at er
            repeat' split at er
            all_goals first
              | (cases er; done)
              | (cases er; first | exact nrv_i _ | exact nrv_l _ | exact q.2.1 _ (by rw [‹st.2.2.1 = _›]; exact List.mem_cons_self))
          · cases e1
        · cases e1
    · split at h
      · rename_i st' e2
        unfold pm_step at e2
        split at e2
        · cases e2
        · rename_i i len ei
          obtain ⟨n1, n2⟩ := hK k _ i len hk ei
          split at e2
          · split at e2
            · rename_i w t ec
              split at e2
              · split at e2
                · rename_i rv h1 sz1 sl1 e3
                  cases e2
                  obtain ⟨⟨a1, a2⟩, a3⟩ := nq_run hK hS n _ _ t (0, pm_l0 (st.2.2.1.take (pm_na PT t)).reverse (pm_max PT t), [], st.2.2.2.1, st.2.2.2.2.1, st.2.2.2.2.2) (rv, h1, sz1, sl1) (n2 w t ec) hB ⟨nrL_l0 (nrS_take q.2.1), fun v hv => absurd hv (by simp), q.2.2⟩ e3
                  have hz := sz_run hS n _ _ t (0, pm_l0 (st.2.2.1.take (pm_na PT t)).reverse (pm_max PT t), [], st.2.2.2.1, st.2.2.2.2.1, st.2.2.2.2.2) (rv, h1, sz1, sl1) (n2 w t ec) e3
                  have hz1 : sz1 = st.2.2.2.2.1 := congrArg (fun q : Nat × Nat => q.1) hz
                  obtain ⟨b1, b3⟩ := nq_run hK hS n fr lo k (st.1 + 3, st.2.1, rv.toList ++ st.2.2.1.drop (pm_na PT t), h1, sz1, sl1) r hk (by show sz1 ≤ 198; omega) ⟨q.1, fun v hv => by
                    rcases List.mem_append.mp hv with hv | hv
                    · exact a1 v (by simpa using hv)
                    · exact nrS_drop q.2.1 v hv, a2⟩ h
                  exact ⟨b1, fun a ha => (b3 a ha).trans (a3 a ha)⟩
                · cases e2
              · cases e2
            · obtain ⟨a1, a2⟩ := nq_simple hB n1 q e2
              have hz := sz_simple ((hS k _ i len hk ei).1) e2
              have hz1 : st'.2.2.2.2.1 = st.2.2.2.2.1 := congrArg (fun q : Nat × Nat => q.1) hz
              obtain ⟨b1, b3⟩ := nq_run hK hS n fr lo k st' r hk (by omega) a1 h
              exact ⟨b1, fun a ha => (b3 a ha).trans (a2 a ha)⟩
          · cases e2
      · cases h
/-- by the typing: what the fields outside of G lead to -/
def nq_tc (A : Nat → Bool) (G : Nat → Nat → Bool) (c : ac) : Bool := match c with
  | .inr (ci, as) => (List.range as.length).all (fun f => G ci f || (match as[f]? with
    | some a => (Nat.beq a.1 2 && (av_ids a).all (fun p => !(A p))) || !(Nat.beq a.1 2)
    | none => true))
  | .inl (_, n, a) => (List.range n).all (fun j => (Nat.beq (aq a j).1 2 && (av_ids (aq a j)).all (fun p => !(A p))) || !(Nat.beq (aq a j).1 2))
theorem nq_av {v : Value} {a : av} (hv : av_ok v a) (ha : ((Nat.beq a.1 2 && (av_ids a).all (fun p => !(A p))) || !(Nat.beq a.1 2)) = true) : nrv A v := by
  intro p e
  subst e
  obtain ⟨h1, h2⟩ := hv
  rw [h1] at ha
  have ha : (((av_ids a).all (fun p => !(A p))) || false) = true := ha
  rw [Bool.or_false] at ha
  have := List.all_eq_true.mp ha p h2
  simpa using this
theorem nq_ty (tb : (List.range 198).all (fun i => A i || nq_tc A G (bB i)) = true) (hh : ah_ok bB 198 [] h) : nqH A G h := by
  refine ⟨fun i ci fs hi hA e f v hv hG => ?_, fun i kd n f hi hA e j hj => ?_⟩
  · have h0 := hh i hi
    have hb := List.all_eq_true.mp tb i (List.mem_range.mpr hi)
    rw [hA, Bool.false_or] at hb
    rw [show ah_get bB [] i = bB i from rfl, e] at h0
    cases hB : bB i with
    | inl q =>
      rw [hB] at h0
      exact h0.elim
    | inr q =>
      obtain ⟨ci', as⟩ := q
      rw [hB] at h0 hb
      obtain ⟨⟨h1, -⟩, h2, h3⟩ := h0
      subst h1
      have hf : f < as.length := by rw [← h2]; exact (List.getElem?_eq_some_iff.mp hv).1
      have hq := List.all_eq_true.mp hb f (List.mem_range.mpr hf)
      rw [hG, Bool.false_or, List.getElem?_eq_getElem hf] at hq
      exact nq_av (h3 f v _ hv (List.getElem?_eq_getElem hf)) hq
  · have h0 := hh i hi
    have hb := List.all_eq_true.mp tb i (List.mem_range.mpr hi)
    rw [hA, Bool.false_or] at hb
    rw [show ah_get bB [] i = bB i from rfl, e] at h0
    cases hB : bB i with
    | inl q =>
      obtain ⟨kd', n', a⟩ := q
      rw [hB] at h0 hb
      obtain ⟨h1, h2, h3⟩ := h0
      subst h2
      exact nq_av (h3 j hj) (List.all_eq_true.mp hb j (List.mem_range.mpr hj))
    | inr q =>
      rw [hB] at h0
      exact h0.elim
/-- the ruling rule's cells -/
def ruA (o a : Nat) : Bool := Nat.beq a o || (Nat.beq a (o + 1) || Nat.beq a (o + 2))
def ruG2 (ci f : Nat) : Bool := Nat.beq ci 10 && (Nat.beq f 8 || Nat.beq f 9)
def rdN : List Nat := [58, 59, 60, 61, 62, 63, 64, 65, 66, 67, 80, 81]
def rdK (k : Nat) : Bool := rdN.any (fun x => Nat.beq x k)
theorem rdK_in (k : Nat) (h : rdK k = true) : k ∈ rdN := by
  obtain ⟨x, hx, e⟩ := List.any_eq_true.mp h
  rw [← Nat.eq_of_beq_eq_true e]
  exact hx
def rdP (ci f : Nat) : Bool := Nat.beq ci 10 || (Nat.beq ci 8 || (Nat.beq ci 3 && Nat.beq f 0))
theorem rd_sf : sf_ok rdP rdK := sf_of rdK_in (by decide +kernel)
theorem rd_nr : nr_ok ruG2 rdK := nr_of rdK_in (by decide +kernel)
theorem ruT_a : (List.range 198).all (fun i => ruA 142 i || nq_tc (ruA 142) ruG2 (bB i)) = true := by decide +kernel
theorem ruT_b : (List.range 198).all (fun i => ruA 145 i || nq_tc (ruA 145) ruG2 (bB i)) = true := by decide +kernel
/-- the reader of rules leaves the other rule -/
theorem rdc_keep {n fr lo sl o o8 : Nat} {h : pm_H} {R : pm_Rs} (ho : (o = 142 ∧ o8 = 145) ∨ (o = 145 ∧ o8 = 142)) (hh : ah_ok bB 198 [] h) (hr : pm_run PT n fr lo 58 (0, pm_l0 [.ref o] 2, [], h, 198, sl) = some R) : ∀ a, ruA o8 a = true → R.2.1 a = h a := by
  have hb : (List.range 198).all (fun i => ruA o8 i || nq_tc (ruA o8) ruG2 (bB i)) = true := by
    rcases ho with ⟨-, rfl⟩ | ⟨-, rfl⟩
    · exact ruT_b
    · exact ruT_a
  have hA : ruA o8 o = false := by
    rcases ho with ⟨rfl, rfl⟩ | ⟨rfl, rfl⟩ <;> rfl
  refine (nq_run rd_nr rd_sf n fr lo 58 _ R rfl (Nat.le_refl _) ⟨nrL_l0 ?_, fun v hv => absurd hv (by simp), nq_ty hb hh⟩ hr).2
  exact nrS_cons.mpr ⟨fun p e => by cases e; exact hA, fun v hv => absurd hv (by simp)⟩
end NQQ
/-! the codes look at the text alone -/
section PRC
variable {f g : Nat → Int32} {t : Nat}
theorem nbr_cg (hf : ∀ j, j < t → f j = g j) : ∀ (k p : Nat) (v : Int32), nbr f t k p v = nbr g t k p v
  | 0, _, _ => rfl
  | k + 1, p, v => by
    show cond (dg f p t) (nbr f t k (p + 1) (10 * v + f p - 48)) (p, v) = cond (dg g p t) (nbr g t k (p + 1) (10 * v + g p - 48)) (p, v)
    rw [dg_cg hf, nbr_cg hf k]
    by_cases z : p < t
    · rw [hf p z]
    · have e : dg g p t = false := by
        unfold dg
        rw [decide_eq_false z, Bool.false_and]
      rw [e]
      rfl
theorem rth_cg {sc : Nat → List Int32} (hf : ∀ j, j < t → f j = g j) (q : Nat) : rth sc f t q = rth sc g t q := by
  unfold rth
  rw [dg_cg hf, nbr_cg hf, an_cg (b := zlet) hf]
  by_cases z : q < t
  · rw [hf q z]
  · rw [decide_eq_false z, Bool.false_and]
    rfl
theorem rlp_cg {sc : Nat → List Int32} {st : Nat → Bool × Nat} {o : Nat} (hf : ∀ j, j < t → f j = g j) : ∀ (k p : Nat), rlp sc st f t o k p = rlp sc st g t o k p
  | 0, _ => rfl
  | k + 1, p => by
    show cond (decide (p < t) && zlev o (f p)) (sc (p + 1) ++ rop o (f p) :: rlp sc st f t o k (st (p + 1)).2) [] = cond (decide (p < t) && zlev o (g p)) (sc (p + 1) ++ rop o (g p) :: rlp sc st g t o k (st (p + 1)).2) []
    rw [an_cg (b := zlev o) hf, rlp_cg hf k]
    by_cases z : p < t
    · rw [hf p z]
    · rw [decide_eq_false z, Bool.false_and]
      rfl
theorem pr_cg (hf : ∀ j, j < t → f j = g j) : ∀ (m o ns : Nat), pr f t m o ns = pr g t m o ns
  | 0, _, _ => rfl
  | m + 1, o, ns => by
    funext p
    show cond (Nat.ble 3 o) (rth (pr f t m 0 (ns + 1)) f t (zmi f t 40 p) ++ List.replicate (zmi f t 40 p - p) (nI 3000)) (pr f t m (o + 1) ns p ++ rlp (pr f t m (o + 1) ns) (pz f t m (o + 1) ns) f t o (cond (Nat.beq o 0) 1 40) (pz f t m (o + 1) ns p).2) = cond (Nat.ble 3 o) (rth (pr g t m 0 (ns + 1)) g t (zmi g t 40 p) ++ List.replicate (zmi g t 40 p - p) (nI 3000)) (pr g t m (o + 1) ns p ++ rlp (pr g t m (o + 1) ns) (pz g t m (o + 1) ns) g t o (cond (Nat.beq o 0) 1 40) (pz g t m (o + 1) ns p).2)
    rw [pr_cg hf m 0 (ns + 1), pr_cg hf m (o + 1) ns, pz_cg hf m (o + 1) ns, rth_cg hf, zmi_cg hf, rlp_cg hf]
end PRC
/-! rule of both sides with the codes -/
section RUC
variable {n fr lo sl n0 cc o o8 p : Nat} {h h1 h2 : pm_H} {R : pm_Rs} {f g tp : Nat → Int32} {v w : Int32} {cs : List Int32}
/-- the code of no text -/
def ds0 : List Int32 := [Int32.ofInt (-119), Int32.ofInt (-107), Int32.ofInt (-42), nI 5, Int32.ofInt (-47)]
def dsX (f : Nat → Int32) (n0 : Nat) : List Int32 := if n0 = 0 then ds0 else pc f (min n0 40) 20 0 0 0
def esM (f : Nat → Int32) (n0 : Nat) : List Int32 := if n0 = 0 then [] else pr f (min n0 40) 20 0 0 0
/-- the text is a rule -/
def zK (f : Nat → Int32) (n0 : Nat) : Bool := decide (n0 = 0) || ((pz f (min n0 40) 20 0 0 0).1 && decide ((pz f (min n0 40) 20 0 0 0).2 = n0))
theorem zK_F (z : zK f n0 = true) : zF f n0 = Int32.ofInt (-1) := by
  unfold zK at z
  unfold zF
  by_cases y : n0 = 0
  · rw [if_pos y]
  · rw [if_neg y]
    rw [decide_eq_false y, Bool.false_or] at z
    rw [z]
    rfl
theorem zK_A (z : zK f n0 = true) : zA f n0 = Int32.ofInt 0 := by
  unfold zK at z
  unfold zA
  by_cases y : n0 = 0
  · rw [if_pos y]
  · rw [if_neg y]
    rw [decide_eq_false y, Bool.false_or] at z
    rw [z]
    rfl
theorem zK_nF (z : zK f n0 = false) : ∃ p, p ≤ 40 ∧ zF f n0 = nI p ∧ zA f n0 = Int32.ofInt (-1) - nI p := by
  unfold zK at z
  unfold zA zF
  rw [Bool.or_eq_false_iff] at z
  have y : ¬ n0 = 0 := of_decide_eq_false z.1
  rw [if_neg y, if_neg y, z.2]
  have hle := pz_le (f := f) (t := min n0 40) 20 0 0 0 (by omega)
  exact ⟨_, by omega, rfl, rfl⟩
theorem em_k (ho : oOk2 o) (hl0 : cs.length < 40) (q : kX h o cs) (hh : pm_run PT n fr lo 60 (0, pm_l0 [.ref o, .int v] 2, [], h, 198, sl) = some R) : R.1 = none ∧ kX R.2.1 o (cs ++ [v]) ∧ R.2.2 = (198, sl) := by
  refine ⟨vd_run rfl hh, ?_, sz_run rd_sf _ _ _ 60 _ R rfl hh⟩
  obtain ⟨rs, C, k1, k2, k3, k4, k5⟩ := q
  obtain ⟨n, hh⟩ := rn_i rfl rfl rfl rfl hh
  obtain ⟨n, hh⟩ := rn_gfo (g := 1) rfl rfl ho.1.1 k1 k3 hh
  obtain ⟨n, hh⟩ := rn_i rfl rfl rfl rfl hh
  have hh : pm_run PT n fr lo 60 (6, [some (.ref o), some (.int v)], [.int (nI 40), .int (nI cs.length)], h, 198, sl) = some R := hh
  obtain ⟨n, hh⟩ := rn_icmp (cc := .ge) (off := 23) (t := 29) rfl rfl hh
  rw [hI_ge (by omega) (by omega), decide_eq_false (by omega)] at hh
  have hh : pm_run PT n fr lo 60 (9, [some (.ref o), some (.int v)], [], h, 198, sl) = some R := hh
  obtain ⟨n, hh⟩ := rn_i rfl rfl rfl rfl hh
  obtain ⟨n, hh⟩ := rn_gfo (g := 0) rfl rfl ho.1.1 k1 k2 hh
  obtain ⟨n, hh⟩ := rn_i rfl rfl rfl rfl hh
  obtain ⟨n, hh⟩ := rn_gfo (g := 1) rfl rfl ho.1.1 k1 k3 hh
  obtain ⟨n, hh⟩ := rn_i rfl rfl rfl rfl hh
  have hh : pm_run PT n fr lo 60 (18, [some (.ref o), some (.int v)], [.int v, .int (nI cs.length), .ref (o + 1)], h, 198, sl) = some R := hh
  obtain ⟨n, hh⟩ := rn_ism rfl k4 (hI_in (by omega) (by decide)) ho.2.1 hh
  rw [nI_clamp (by omega)] at hh
  have j1 : aset h (o + 1) 40 (upd C cs.length v) o = .inr (6, rs) := (asR_ne (by omega)).trans k1
  have hh : pm_run PT n fr lo 60 (19, [some (.ref o), some (.int v)], [], aset h (o + 1) 40 (upd C cs.length v), 198, sl) = some R := hh
  obtain ⟨n, hh⟩ := rn_i rfl rfl rfl rfl hh
  obtain ⟨n, hh⟩ := rn_i rfl rfl rfl rfl hh
  obtain ⟨n, hh⟩ := rn_gfo (g := 1) rfl rfl ho.1.1 j1 k3 hh
  obtain ⟨n, hh⟩ := rn_i rfl rfl rfl rfl hh
  obtain ⟨n, hh⟩ := rn_i rfl rfl rfl rfl hh
  have hh : pm_run PT n fr lo 60 (26, [some (.ref o), some (.int v)], [.int (nI cs.length + nI 1), .ref o], aset h (o + 1) 40 (upd C cs.length v), 198, sl) = some R := hh
  rw [nI_add] at hh
  obtain ⟨n, hh⟩ := rn_i rfl rfl rfl (pf_eq (f := 1) rfl rfl (by decide) ho.1.1 j1 k3) hh
  have e := rn_vret rfl rfl hh
  rw [e]
  dsimp only
  refine ⟨rs.set 1 (.int (nI (cs.length + 1))), upd C cs.length v, by simp [va_up], ?_, ?_, ?_, fun j hj => ?_⟩
  · rw [List.getElem?_set_ne (by decide)]
    exact k2
  · rw [List.getElem?_set_self (List.getElem?_eq_some_iff.mp k3).1, List.length_append]
    rfl
  · rw [show va_up (aset h (o + 1) 40 (upd C cs.length v)) o (.inr (6, rs.set 1 (.int (nI (cs.length + 1))))) (o + 1) = aset h (o + 1) 40 (upd C cs.length v) (o + 1) from if_neg (by omega)]
    exact asR_self
  · rw [List.length_append] at hj
    have hj : j < cs.length + 1 := hj
    unfold upd
    by_cases z : j = cs.length
    · subst z
      rw [if_pos rfl, List.getElem?_append_right (Nat.le_refl _), Nat.sub_self]
      rfl
    · rw [if_neg z, List.getElem?_append_left (by omega)]
      exact k5 j (by omega)
/-- the rule of no text -/
theorem bf_run (ho : oOk2 o) {rs : List Value} {C0 : Nat → Int32} {s1 : Int32} (e0 : h o = .inr (6, rs)) (er : rs[0]? = some (.ref (o + 1))) (es : rs[1]? = some (.int s1)) (eC : h (o + 1) = .inl (0, 40, .inl C0)) (hh : pm_run PT n fr lo 59 (0, pm_l0 [.ref o] 1, [], h, 198, sl) = some R) : R.1 = none ∧ kX R.2.1 o ds0 ∧ R.2.2 = (198, sl) := by
  have hz := sz_run rd_sf _ _ _ 59 _ R rfl hh
  refine ⟨vd_run rfl hh, ?_, hz⟩
  obtain ⟨n, hh⟩ := rn_i rfl rfl rfl rfl hh
  obtain ⟨n, hh⟩ := rn_i rfl rfl rfl rfl hh
  obtain ⟨n, hh⟩ := rn_i rfl rfl rfl (pf_eq (f := 1) rfl rfl (by decide) ho.1.1 e0 es) hh
  have hh : pm_run PT n fr lo 59 (5, [some (.ref o)], [], va_up h o (.inr (6, rs.set 1 (.int (nI 0)))), 198, sl) = some R := hh
  have k0 : kX (va_up h o (.inr (6, rs.set 1 (.int (nI 0))))) o [] := by
    refine ⟨rs.set 1 (.int (nI 0)), C0, by simp [va_up], ?_, ?_, ?_, fun j hj => absurd hj (by simp)⟩
    · rw [List.getElem?_set_ne (by decide)]
      exact er
    · rw [List.getElem?_set_self (List.getElem?_eq_some_iff.mp es).1]
      rfl
    · rw [show va_up h o (.inr (6, rs.set 1 (.int (nI 0)))) (o + 1) = h (o + 1) from if_neg (by omega)]
      exact eC
  generalize va_up h o (.inr (6, rs.set 1 (.int (nI 0)))) = g0 at hh k0
  have hh : pm_run PT n fr lo 59 (5, [some (.ref o)], [], g0, 198, sl) = some R := hh
  obtain ⟨n, hh⟩ := rn_i rfl rfl rfl rfl hh
  obtain ⟨n, hh⟩ := rn_i rfl rfl rfl rfl hh
  have hh : pm_run PT n fr lo 59 (8, [some (.ref o)], [.int (Int32.ofInt (-119)), .ref o], g0, 198, sl) = some R := hh
  obtain ⟨n, fr', lo', r1, hr1, hh⟩ := rn_call (w := 0) (t := 60) rfl rfl hh
  obtain ⟨a1, k1, a3⟩ := em_k (v := Int32.ofInt (-119)) ho (by decide) k0 hr1
  obtain ⟨rv, g1, s2⟩ := r1
  dsimp only at a1 k1 a3
  subst a1
  subst a3
  have hh : pm_run PT n fr lo 59 (11, [some (.ref o)], [], g1, 198, sl) = some R := hh
  obtain ⟨n, hh⟩ := rn_i rfl rfl rfl rfl hh
  obtain ⟨n, hh⟩ := rn_i rfl rfl rfl rfl hh
  have hh : pm_run PT n fr lo 59 (14, [some (.ref o)], [.int (Int32.ofInt (-107)), .ref o], g1, 198, sl) = some R := hh
  obtain ⟨n, fr', lo', r1, hr1, hh⟩ := rn_call (w := 0) (t := 60) rfl rfl hh
  obtain ⟨a1, k2, a3⟩ := em_k (v := Int32.ofInt (-107)) ho (by decide) k1 hr1
  obtain ⟨rv, g2, s2⟩ := r1
  dsimp only at a1 k2 a3
  subst a1
  subst a3
  have hh : pm_run PT n fr lo 59 (17, [some (.ref o)], [], g2, 198, sl) = some R := hh
  obtain ⟨n, hh⟩ := rn_i rfl rfl rfl rfl hh
  obtain ⟨n, hh⟩ := rn_i rfl rfl rfl rfl hh
  have hh : pm_run PT n fr lo 59 (20, [some (.ref o)], [.int (Int32.ofInt (-42)), .ref o], g2, 198, sl) = some R := hh
  obtain ⟨n, fr', lo', r1, hr1, hh⟩ := rn_call (w := 0) (t := 60) rfl rfl hh
  obtain ⟨a1, k3, a3⟩ := em_k (v := Int32.ofInt (-42)) ho (by decide) k2 hr1
  obtain ⟨rv, g3, s2⟩ := r1
  dsimp only at a1 k3 a3
  subst a1
  subst a3
  have hh : pm_run PT n fr lo 59 (23, [some (.ref o)], [], g3, 198, sl) = some R := hh
  obtain ⟨n, hh⟩ := rn_i rfl rfl rfl rfl hh
  obtain ⟨n, hh⟩ := rn_i rfl rfl rfl rfl hh
  have hh : pm_run PT n fr lo 59 (25, [some (.ref o)], [.int (nI 5), .ref o], g3, 198, sl) = some R := hh
  obtain ⟨n, fr', lo', r1, hr1, hh⟩ := rn_call (w := 0) (t := 60) rfl rfl hh
  obtain ⟨a1, k4, a3⟩ := em_k (v := nI 5) ho (by decide) k3 hr1
  obtain ⟨rv, g4, s2⟩ := r1
  dsimp only at a1 k4 a3
  subst a1
  subst a3
  have hh : pm_run PT n fr lo 59 (28, [some (.ref o)], [], g4, 198, sl) = some R := hh
  obtain ⟨n, hh⟩ := rn_i rfl rfl rfl rfl hh
  obtain ⟨n, hh⟩ := rn_i rfl rfl rfl rfl hh
  have hh : pm_run PT n fr lo 59 (31, [some (.ref o)], [.int (Int32.ofInt (-47)), .ref o], g4, 198, sl) = some R := hh
  obtain ⟨n, fr', lo', r1, hr1, hh⟩ := rn_call (w := 0) (t := 60) rfl rfl hh
  obtain ⟨a1, k5, a3⟩ := em_k (v := Int32.ofInt (-47)) ho (by decide) k4 hr1
  obtain ⟨rv, g5, s2⟩ := r1
  dsimp only at a1 k5 a3
  subst a1
  subst a3
  have hh : pm_run PT n fr lo 59 (34, [some (.ref o)], [], g5, 198, sl) = some R := hh
  have e := rn_vret rfl rfl hh
  rw [e]
  exact k5
theorem rdc_run {w5 : Value} (ho : oOk2 o) (hn : n0 ≤ 80) (px : pX h n0 cc f) {rs : List Value} {C0 : Nat → Int32} (er : rs[0]? = some (.ref (o + 1))) (eC : h (o + 1) = .inl (0, 40, .inl C0)) (e0 : h o = .inr (6, rs)) (e4 : rs[4]? = some (.ref 1)) (e5 : rs[5]? = some w5) {s1 : Int32} (es : rs[1]? = some (.int s1)) (hh : pm_run PT n fr lo 58 (0, pm_l0 [.ref o] 2, [], h, 198, sl) = some R) : R.1 = some (.int (zF f n0)) ∧ R.2.2 = (198, sl) ∧ (zK f n0 = true → kX R.2.1 o (dsX f n0)) := by
  obtain ⟨px0, ⟨gs, b1, b2, b3⟩, px2⟩ := id px
  obtain ⟨n, hh⟩ := rn_i rfl rfl rfl rfl hh
  obtain ⟨n, hh⟩ := rn_gfo (g := 4) rfl rfl ho.1.1 e0 e4 hh
  obtain ⟨n, hh⟩ := rn_gfo (g := 1) rfl rfl (by decide) b1 b3 hh
  have hh : pm_run PT n fr lo 58 (7, [some (.ref o), none], [.int (nI n0)], h, 198, sl) = some R := hh
  obtain ⟨n, hh⟩ := rn_if (cc := .ne) (off := 9) (t := 16) rfl rfl hh
  unfold zF zK dsX
  by_cases z : n0 = 0
  · rw [if_pos z, if_pos z]
    have ec : pm_cmp .ne (nI n0) 0 = false := by rw [z]; decide
    rw [ec] at hh
    have hh : pm_run PT n fr lo 58 (10, [some (.ref o), none], [], h, 198, sl) = some R := hh
    obtain ⟨n, hh⟩ := rn_i rfl rfl rfl rfl hh
    obtain ⟨n, fr', lo', r1, hr1, hh⟩ := rn_call (w := 0) (t := 59) rfl rfl hh
    obtain ⟨hv, kk, hz⟩ := bf_run ho e0 er es eC hr1
    obtain ⟨rv, h2, s2⟩ := r1
    dsimp only at hz hv kk
    subst hz
    subst hv
    have hh : pm_run PT n fr lo 58 (14, [some (.ref o), none], [], h2, 198, sl) = some R := hh
    obtain ⟨n, hh⟩ := rn_i rfl rfl rfl rfl hh
    have e := (rn_ret rfl (Or.inl rfl) hh).2
    rw [e]
    exact ⟨rfl, rfl, fun _ => kk⟩
  · rw [if_neg z, if_neg z, decide_eq_false z, Bool.false_or]
    have ec : pm_cmp .ne (nI n0) 0 = true := decide_eq_true (fun e => by
      have e := congrArg Int32.toInt e
      rw [nI_toInt (by omega), show (0 : Int32).toInt = 0 by decide] at e
      omega)
    rw [ec] at hh
    have hh : pm_run PT n fr lo 58 (16, [some (.ref o), none], [], h, 198, sl) = some R := hh
    obtain ⟨n, hh⟩ := rn_i rfl rfl rfl rfl hh
    obtain ⟨n, hh⟩ := rn_i rfl rfl rfl rfl hh
    obtain ⟨n, hh⟩ := rn_i rfl rfl rfl (pf_eq (f := 5) rfl rfl (by decide) ho.1.1 e0 e5) hh
    have hh : pm_run PT n fr lo 58 (21, [some (.ref o), none], [], (va_up h o (.inr (6, rs.set 5 (.int (nI 0))))), 198, sl) = some R := hh
    have q2 := qX_mk (p' := 0) ho.1 e0 e4 e5 px
    have f0 : va_up h o (.inr (6, rs.set 5 (.int (nI 0)))) o = .inr (6, rs.set 5 (.int (nI 0))) := by simp [va_up]
    have fs1 : (rs.set 5 (.int (nI 0)))[1]? = some (.int s1) := by
      rw [List.getElem?_set_ne (by decide)]
      exact es
    have fr0 : (rs.set 5 (.int (nI 0)))[0]? = some (.ref (o + 1)) := by
      rw [List.getElem?_set_ne (by decide)]
      exact er
    have fC : va_up h o (.inr (6, rs.set 5 (.int (nI 0)))) (o + 1) = .inl (0, 40, .inl C0) := by
      rw [show va_up h o (.inr (6, rs.set 5 (.int (nI 0)))) (o + 1) = h (o + 1) from if_neg (by omega)]
      exact eC
    generalize va_up h o (.inr (6, rs.set 5 (.int (nI 0)))) = h2 at hh q2 f0 fC
    generalize rs.set 5 (.int (nI 0)) = r2 at f0 fs1 fr0
    have hh : pm_run PT n fr lo 58 (21, [some (.ref o), none], [], h2, 198, sl) = some R := hh
    obtain ⟨n, hh⟩ := rn_i rfl rfl rfl rfl hh
    obtain ⟨n, hh⟩ := rn_i rfl rfl rfl rfl hh
    obtain ⟨n, hh⟩ := rn_i rfl rfl rfl (pf_eq (f := 1) rfl rfl (by decide) ho.1.1 f0 fs1) hh
    have hh : pm_run PT n fr lo 58 (26, [some (.ref o), none], [], (va_up h2 o (.inr (6, r2.set 1 (.int (Int32.ofInt 0))))), 198, sl) = some R := hh
    have q3 := qX_sz (w := .int (Int32.ofInt 0)) ho.1 f0 q2
    have k3 : kX (va_up h2 o (.inr (6, r2.set 1 (.int (Int32.ofInt 0))))) o [] := by
      refine ⟨r2.set 1 (.int (Int32.ofInt 0)), C0, by simp [va_up], ?_, ?_, ?_, fun j hj => absurd hj (by simp)⟩
      · rw [List.getElem?_set_ne (by decide)]
        exact fr0
      · rw [List.getElem?_set_self (List.getElem?_eq_some_iff.mp fs1).1]
        rfl
      · rw [show va_up h2 o (.inr (6, r2.set 1 (.int (Int32.ofInt 0)))) (o + 1) = h2 (o + 1) from if_neg (by omega)]
        exact fC
    generalize va_up h2 o (.inr (6, r2.set 1 (.int (Int32.ofInt 0)))) = h3 at hh q3 k3
    have hh : pm_run PT n fr lo 58 (26, [some (.ref o), none], [], h3, 198, sl) = some R := hh
    obtain ⟨n, hh⟩ := rn_i rfl rfl rfl rfl hh
    obtain ⟨n, hh⟩ := rn_i rfl rfl rfl rfl hh
    obtain ⟨n, hh⟩ := rn_i rfl rfl rfl rfl hh
    have hh : pm_run PT n fr lo 58 (29, [some (.ref o), none], [.int (nI 0), .int (nI 0), .ref o], h3, 198, sl) = some R := hh
    obtain ⟨n, fr', lo', r1, hr1, hh⟩ := rn_call (w := 0) (t := 62) rfl rfl hh
    obtain ⟨c1, c2, c3, c4⟩ := cC_all ho hn 20 0 0 0 _ _ _ _ h3 _ [] (by omega) (by omega) (by omega) (by omega) (by simp) ⟨q3, k3⟩ hr1
    obtain ⟨rv, h4, s4⟩ := r1
    dsimp only at c1 c2 c3 c4
    subst c1
    subst c3
    have hh : pm_run PT n fr lo 58 (32, [some (.ref o), none], [.int (cond (pz f (min n0 40) 20 0 0 0).1 1 0)], h4, 198, sl) = some R := hh
    have hle := pz_le (f := f) (t := min n0 40) 20 0 0 0 (by omega)
    generalize pz f (min n0 40) 20 0 0 0 = r at *
    generalize pc f (min n0 40) 20 0 0 0 = dd at *
    obtain ⟨rb, rp⟩ := r
    dsimp only at c2 c4 hle hh ⊢
    have hh : pm_run PT n fr lo 58 (32, [some (.ref o), none], [.int (cond rb 1 0)], h4, 198, sl) = some R := hh
    obtain ⟨n, hh⟩ := rn_if (cc := .eq) (off := 21) (t := 53) rfl rfl hh
    obtain ⟨⟨rs4, m0, m4, m5⟩, ⟨-, ⟨gs4, d1, d2, d3⟩, -⟩⟩ := id c2
    have bad : ∀ n : Nat, pm_run PT n fr lo 58 (53, [some (.ref o), none], [], h4, 198, sl) = some R → R.1 = some (.int (nI rp)) ∧ R.2.2 = (198, sl) := by
      intro n hh
      obtain ⟨n, hh⟩ := rn_i rfl rfl rfl rfl hh
      obtain ⟨n, hh⟩ := rn_i rfl rfl rfl rfl hh
      obtain ⟨n, hh⟩ := rn_i rfl rfl rfl rfl hh
      have hh : pm_run PT n fr lo 58 (56, [some (.ref o), some (.int 0)], [.int 0], h4, 198, sl) = some R := hh
      obtain ⟨n, hh⟩ := rn_if (cc := .eq) (off := 7) (t := 63) rfl rfl hh
      have hh : pm_run PT n fr lo 58 (63, [some (.ref o), some (.int 0)], [], h4, 198, sl) = some R := hh
      obtain ⟨n, hh⟩ := rn_i rfl rfl rfl rfl hh
      obtain ⟨n, hh⟩ := rn_gfo (g := 5) rfl rfl ho.1.1 m0 m5 hh
      have e := (rn_ret rfl (Or.inl rfl) hh).2
      rw [e]
      exact ⟨rfl, rfl⟩
    cases rb with
    | false => exact ⟨(bad n hh).1, (bad n hh).2, fun y => by cases y⟩
    | true =>
      have hh : pm_run PT n fr lo 58 (35, [some (.ref o), none], [], h4, 198, sl) = some R := hh
      obtain ⟨n, hh⟩ := rn_i rfl rfl rfl rfl hh
      obtain ⟨n, hh⟩ := rn_gfo (g := 5) rfl rfl ho.1.1 m0 m5 hh
      obtain ⟨n, hh⟩ := rn_i rfl rfl rfl rfl hh
      obtain ⟨n, hh⟩ := rn_gfo (g := 4) rfl rfl ho.1.1 m0 m4 hh
      obtain ⟨n, hh⟩ := rn_gfo (g := 1) rfl rfl (by decide) d1 d3 hh
      have hh : pm_run PT n fr lo 58 (46, [some (.ref o), none], [.int (nI n0), .int (nI rp)], h4, 198, sl) = some R := hh
      obtain ⟨n, hh⟩ := rn_icmp (cc := .ne) (off := 7) (t := 53) rfl rfl hh
      rw [hI_ne2 (by omega) (by omega)] at hh
      by_cases y : rp = n0
      · rw [decide_eq_true y]
        rw [decide_eq_false (fun q => q y)] at hh
        have hh : pm_run PT n fr lo 58 (49, [some (.ref o), none], [], h4, 198, sl) = some R := hh
        obtain ⟨n, hh⟩ := rn_i rfl rfl rfl rfl hh
        obtain ⟨n, hh⟩ := rn_i rfl rfl rfl rfl hh
        obtain ⟨n, hh⟩ := rn_i rfl rfl rfl rfl hh
        obtain ⟨n, hh⟩ := rn_i rfl rfl rfl rfl hh
        have hh : pm_run PT n fr lo 58 (56, [some (.ref o), some (.int 1)], [.int 1], h4, 198, sl) = some R := hh
        obtain ⟨n, hh⟩ := rn_if (cc := .eq) (off := 7) (t := 63) rfl rfl hh
        have hh : pm_run PT n fr lo 58 (59, [some (.ref o), some (.int 1)], [], h4, 198, sl) = some R := hh
        obtain ⟨n, hh⟩ := rn_i rfl rfl rfl rfl hh
        obtain ⟨n, hh⟩ := rn_i rfl rfl rfl rfl hh
        have e := (rn_ret rfl (Or.inl rfl) hh).2
        rw [e]
        exact ⟨rfl, rfl, fun _ => (c4 rfl).2⟩
      · rw [decide_eq_false y]
        rw [decide_eq_true y] at hh
        exact ⟨(bad n hh).1, (bad n hh).2, fun y => by cases y⟩
theorem kX_ne {h' : pm_H} (e1 : h' o = h o) (e2 : h' (o + 1) = h (o + 1)) (k : kX h o cs) : kX h' o cs := by
  obtain ⟨rs, C, k1, k2, k3, k4, k5⟩ := k
  exact ⟨rs, C, e1.trans k1, k2, k3, e2.trans k4, k5⟩
/-- rule of the class -/
theorem rlc_run (ho : (o = 142 ∧ o8 = 145) ∨ (o = 145 ∧ o8 = 142)) (hI : ah_ok bB 198 [] h) (hn : n0 ≤ 80) {fs rs : List Value} {w5 : Value} {C0 : Nat → Int32} {s1 : Int32} (k0 : h 0 = .inr (10, fs)) (k9 : fs[9]? = some (.ref o)) (k8 : fs[8]? = some (.ref o8)) (px : pX h n0 cc f) (er : rs[0]? = some (.ref (o + 1))) (eC : h (o + 1) = .inl (0, 40, .inl C0)) (e0 : h o = .inr (6, rs)) (e4 : rs[4]? = some (.ref 1)) (e5 : rs[5]? = some w5) (es : rs[1]? = some (.int s1)) (hh : pm_run PT n fr lo 90 (0, pm_l0 [.ref 0] 3, [], h, 198, sl) = some R) : (zK f n0 = true ∧ kX R.2.1 o (dsX f n0) ∧ ∃ fs', R.2.1 0 = .inr (10, fs') ∧ fs'[8]? = some (.ref o) ∧ fs'[9]? = some (.ref o8)) ∨ (zK f n0 = false ∧ (∃ fs', R.2.1 0 = .inr (10, fs') ∧ fs'[8]? = some (.ref o8) ∧ fs'[9]? = some (.ref o)) ∧ ∀ a, ruA o8 a = true → R.2.1 a = h a) := by
  have hok : oOk2 o := by
    rcases ho with ⟨rfl, -⟩ | ⟨rfl, -⟩
    · exact ⟨⟨by decide, by decide, by decide, by decide, by decide⟩, by decide, by decide, by decide, by decide, by decide⟩
    · exact ⟨⟨by decide, by decide, by decide, by decide, by decide⟩, by decide, by decide, by decide, by decide, by decide⟩
  have n8 : ∀ a, ruA o8 a = true → a ≠ 0 ∧ a ≠ 1 := by
    intro a e
    rcases ho with ⟨-, rfl⟩ | ⟨-, rfl⟩
    · refine ⟨fun y => ?_, fun y => ?_⟩ <;> (subst y; cases e)
    · refine ⟨fun y => ?_, fun y => ?_⟩ <;> (subst y; cases e)
  have no1 : o ≠ 0 ∧ o ≠ 1 ∧ o + 1 ≠ 0 ∧ o + 1 ≠ 1 := by
    rcases ho with ⟨rfl, -⟩ | ⟨rfl, -⟩ <;> decide
  obtain ⟨⟨fx, x0, x1, -⟩, ⟨gs, b1, b2, b3⟩, -⟩ := id px
  rw [k0] at x0
  cases x0
  obtain ⟨n, hh⟩ := rn_i rfl rfl rfl rfl hh
  obtain ⟨n, hh⟩ := rn_gfo (g := 9) rfl rfl (by decide) k0 k9 hh
  obtain ⟨n, fr', lo', r1, hr1, hh⟩ := rn_call (w := 0) (t := 58) rfl rfl hh
  obtain ⟨c1, c2, c3⟩ := rdc_run hok hn px er eC e0 e4 e5 es hr1
  have c4 := rdc_keep ho hI hr1
  have c5 : fm (sfF rdP) h r1.2.1 := sf_run rd_sf _ _ _ 58 _ r1 rfl hr1
  obtain ⟨rv, h2, s2⟩ := r1
  dsimp only at c1 c2 c3 c4 c5
  subst c1
  subst c2
  obtain ⟨f2, u0, -, u1⟩ := c5.2 0 10 fs k0
  obtain ⟨g2, y0, -, y1⟩ := c5.2 1 8 gs b1
  have u8 : f2[8]? = some (.ref o8) := (u1 8 rfl).trans k8
  have u9 : f2[9]? = some (.ref o) := (u1 9 rfl).trans k9
  have ux : f2[0]? = some (.ref 1) := (u1 0 rfl).trans x1
  have y3 : g2[1]? = some (.int (nI n0)) := (y1 1 rfl).trans b3
  have hh : pm_run PT n fr lo 90 (7, [some (.ref 0), none, none], [.int (zF f n0)], h2, 198, sl) = some R := hh
  generalize ez : zF f n0 = zz at hh
  have hh : pm_run PT n fr lo 90 (7, [some (.ref 0), none, none], [.int zz], h2, 198, sl) = some R := hh
  obtain ⟨n, hh⟩ := rn_i rfl rfl rfl rfl hh
  obtain ⟨n, hh⟩ := rn_i rfl rfl rfl rfl hh
  obtain ⟨n, hh⟩ := rn_gfo (g := 0) rfl rfl (by decide) u0 ux hh
  obtain ⟨n, hh⟩ := rn_i rfl rfl rfl rfl hh
  obtain ⟨n, hh⟩ := rn_i rfl rfl rfl (pf_eq (f := 1) rfl rfl (by decide) (by decide) y0 y3) hh
  have hh : pm_run PT n fr lo 90 (16, [some (.ref 0), some (.int zz), none], [], va_up h2 1 (.inr (8, g2.set 1 (.int (Int32.ofInt 0)))), 198, sl) = some R := hh
  have v0 : va_up h2 1 (.inr (8, g2.set 1 (.int (Int32.ofInt 0)))) 0 = .inr (10, f2) := by
    rw [show va_up h2 1 (.inr (8, g2.set 1 (.int (Int32.ofInt 0)))) 0 = h2 0 from if_neg (by decide)]
    exact u0
  have vne : ∀ a, a ≠ 1 → va_up h2 1 (.inr (8, g2.set 1 (.int (Int32.ofInt 0)))) a = h2 a := fun a ha => if_neg ha
  generalize va_up h2 1 (.inr (8, g2.set 1 (.int (Int32.ofInt 0)))) = h3 at hh v0 vne
  have hh : pm_run PT n fr lo 90 (16, [some (.ref 0), some (.int zz), none], [], h3, 198, sl) = some R := hh
  obtain ⟨n, hh⟩ := rn_i rfl rfl rfl rfl hh
  obtain ⟨n, hh⟩ := rn_if (cc := .lt) (off := 7) (t := 24) rfl rfl hh
  cases z : zK f n0 with
  | false =>
    right
    obtain ⟨p, p1, p2, -⟩ := zK_nF z
    have ez2 : zz = nI p := ez.symm.trans p2
    rw [ez2] at hh
    rw [lt0_val (by rw [nI_toInt (by omega)]; omega)] at hh
    have hh : pm_run PT n fr lo 90 (20, [some (.ref 0), some (.int (nI p)), none], [], h3, 198, sl) = some R := hh
    obtain ⟨n, hh⟩ := rn_i rfl rfl rfl rfl hh
    obtain ⟨n, hh⟩ := rn_i rfl rfl rfl rfl hh
    obtain ⟨n, hh⟩ := rn_i rfl rfl rfl rfl hh
    have e := (rn_ret rfl (Or.inl rfl) hh).2
    rw [e]
    exact ⟨rfl, ⟨f2, v0, u8, u9⟩, fun a ha => (vne a (n8 a ha).2).trans (c4 a ha)⟩
  | true =>
    left
    have ez2 : zz = Int32.ofInt (-1) := ez.symm.trans (zK_F z)
    rw [ez2] at hh
    rw [show pm_cmp .lt (Int32.ofInt (-1)) 0 = true by decide] at hh
    have hh : pm_run PT n fr lo 90 (24, [some (.ref 0), some (.int (Int32.ofInt (-1))), none], [], h3, 198, sl) = some R := hh
    obtain ⟨n, hh⟩ := rn_i rfl rfl rfl rfl hh
    obtain ⟨n, hh⟩ := rn_gfo (g := 8) rfl rfl (by decide) v0 u8 hh
    obtain ⟨n, hh⟩ := rn_i rfl rfl rfl rfl hh
    have hh : pm_run PT n fr lo 90 (29, [some (.ref 0), some (.int (Int32.ofInt (-1))), some (.ref o8)], [], h3, 198, sl) = some R := hh
    obtain ⟨n, hh⟩ := rn_i rfl rfl rfl rfl hh
    obtain ⟨n, hh⟩ := rn_i rfl rfl rfl rfl hh
    obtain ⟨n, hh⟩ := rn_gfo (g := 9) rfl rfl (by decide) v0 u9 hh
    obtain ⟨n, hh⟩ := rn_i rfl rfl rfl (pf_eq (f := 8) rfl rfl (by decide) (by decide) v0 u8) hh
    have hh : pm_run PT n fr lo 90 (37, [some (.ref 0), some (.int (Int32.ofInt (-1))), some (.ref o8)], [], va_up h3 0 (.inr (10, f2.set 8 (.ref o))), 198, sl) = some R := hh
    have w0 : va_up h3 0 (.inr (10, f2.set 8 (.ref o))) 0 = .inr (10, f2.set 8 (.ref o)) := if_pos rfl
    have w8 : (f2.set 8 (.ref o))[8]? = some (.ref o) := List.getElem?_set_self (List.getElem?_eq_some_iff.mp u8).1
    have w9 : (f2.set 8 (.ref o))[9]? = some (.ref o) := by
      rw [List.getElem?_set_ne (by decide)]
      exact u9
    have wne : ∀ a, a ≠ 0 → va_up h3 0 (.inr (10, f2.set 8 (.ref o))) a = h3 a := fun a ha => if_neg ha
    generalize va_up h3 0 (.inr (10, f2.set 8 (.ref o))) = h4 at hh w0 wne
    generalize f2.set 8 (.ref o) = f3 at w0 w8 w9
    have hh : pm_run PT n fr lo 90 (37, [some (.ref 0), some (.int (Int32.ofInt (-1))), some (.ref o8)], [], h4, 198, sl) = some R := hh
    obtain ⟨n, hh⟩ := rn_i rfl rfl rfl rfl hh
    obtain ⟨n, hh⟩ := rn_i rfl rfl rfl rfl hh
    obtain ⟨n, hh⟩ := rn_i rfl rfl rfl (pf_eq (f := 9) rfl rfl (by decide) (by decide) w0 w9) hh
    have hh : pm_run PT n fr lo 90 (42, [some (.ref 0), some (.int (Int32.ofInt (-1))), some (.ref o8)], [], va_up h4 0 (.inr (10, f3.set 9 (.ref o8))), 198, sl) = some R := hh
    obtain ⟨n, hh⟩ := rn_i rfl rfl rfl rfl hh
    have e := (rn_ret rfl (Or.inl rfl) hh).2
    rw [e]
    have e0 : va_up h4 0 (.inr (10, f3.set 9 (.ref o8))) 0 = .inr (10, f3.set 9 (.ref o8)) := if_pos rfl
    refine ⟨rfl, ?_, f3.set 9 (.ref o8), e0, ?_, List.getElem?_set_self (List.getElem?_eq_some_iff.mp w9).1⟩
    · refine kX_ne ?_ ?_ (c3 z)
      · show va_up h4 0 (.inr (10, f3.set 9 (.ref o8))) o = h2 o
        rw [show va_up h4 0 (.inr (10, f3.set 9 (.ref o8))) o = h4 o from if_neg no1.1, wne o no1.1, vne o no1.2.1]
      · show va_up h4 0 (.inr (10, f3.set 9 (.ref o8))) (o + 1) = h2 (o + 1)
        rw [show va_up h4 0 (.inr (10, f3.set 9 (.ref o8))) (o + 1) = h4 (o + 1) from if_neg no1.2.2.1, wne _ no1.2.2.1, vne _ no1.2.2.2]
    · rw [List.getElem?_set_ne (by decide)]
      exact w8
theorem rdn_run {x16 x17 x18 : Value} {c24 : Int32} {D0 : Nat → Int32} (h175 : h 175 = .inl (0, 80, .inl D0)) (hn : n0 ≤ 80) (h15 : mF h 15 (.int (nI n0))) (h16 : mF h 16 x16) (h17 : mF h 17 x17) (h18 : mF h 18 x18) (h24 : mF h 24 (.int c24)) (h14 : mF h 14 (.ref 172)) (hA : h 172 = .inl (0, 80, .inl tp)) (h22 : mF h 22 (.ref 175)) (hh : pm_run PT n fr lo 196 (0, pm_l0 [.ref 162] 3, [], h, 198, sl) = some R) : R.1 = some (.int (zA tp n0)) ∧ R.2.2 = (198, sl) ∧ (zK tp n0 = true → kN R.2.1 (esM tp n0)) := by
  obtain ⟨n, hh⟩ := rn_i rfl rfl rfl rfl hh
  obtain ⟨n, hh⟩ := rn_i rfl rfl rfl rfl hh
  have hh : pm_run PT n fr lo 196 (3, [some (.ref 162), none, none], [.int (nI 40), .ref 162], h, 198, sl) = some R := hh
  obtain ⟨n, fr', lo', r1, hr1, hh⟩ := rn_call (w := 0) (t := 180) rfl rfl hh
  have er := rn_dt (F := 10) (Lo := 1000) (hd_begins (fr := 10) (lo := 1000) (sl := sl) (m := 40) h15 h16 h17 h18 hn (by decide) (by decide) (by decide)) hr1
  subst er
  have mm : ∀ (g : Nat) (v : Value), g ≠ 15 → g ≠ 16 → g ≠ 18 → g ≠ 17 → mF h g v → mF (hbeg h n0 40) g v := fun g v a1 a2 a3 a4 q => mF_ne (Ne.symm a4) (mF_ne (Ne.symm a3) (mF_ne (Ne.symm a2) (mF_ne (Ne.symm a1) q)))
  have b24 := mm 24 _ (by decide) (by decide) (by decide) (by decide) h24
  have b22 := mm 22 _ (by decide) (by decide) (by decide) (by decide) h22
  have b14 := mm 14 _ (by decide) (by decide) (by decide) (by decide) h14
  have b16 : mF (hbeg h n0 40) 16 (.int (nI 0)) := mF_ne (by decide) (mF_ne (by decide) (mF_self (w := x16) (mF_ne (by decide) h16)))
  have b18 : mF (hbeg h n0 40) 18 (.int (nI 0)) := mF_ne (by decide) (mF_self (w := x18) (mF_ne (by decide) (mF_ne (by decide) h18)))
  have b17 : mF (hbeg h n0 40) 17 (.int (nI (min n0 40))) := mF_self (w := x17) (mF_ne (by decide) (mF_ne (by decide) (mF_ne (by decide) h17)))
  have b175 : hbeg h n0 40 175 = .inl (0, 80, .inl D0) := mset_arr (by decide) (mset_arr (by decide) (mset_arr (by decide) (mset_arr (by decide) h175)))
  have bA : hbeg h n0 40 172 = .inl (0, 80, .inl tp) := mset_arr (by decide) (mset_arr (by decide) (mset_arr (by decide) (mset_arr (by decide) hA)))
  have hh : pm_run PT n fr lo 196 (6, [some (.ref 162), none, none], [.int (nI n0)], (hbeg h n0 40), 198, sl) = some R := hh
  generalize hbeg h n0 40 = hb at hh b24 b22 b14 b16 b18 b17 bA b175
  have hh : pm_run PT n fr lo 196 (6, [some (.ref 162), none, none], [.int (nI n0)], hb, 198, sl) = some R := hh
  obtain ⟨n, hh⟩ := rn_i rfl rfl rfl rfl hh
  obtain ⟨n, hh⟩ := rn_i rfl rfl rfl rfl hh
  obtain ⟨n, hh⟩ := rn_i rfl rfl rfl rfl hh
  have hh : pm_run PT n fr lo 196 (9, [some (.ref 162), some (.int (nI n0)), none], [.int 0, .ref 162], hb, 198, sl) = some R := hh
  obtain ⟨n, hh⟩ := rn_pfm (w := .int c24) rfl rfl rfl (by decide) b24 hh
  have hh : pm_run PT n fr lo 196 (12, [some (.ref 162), some (.int (nI n0)), none], [], (mset hb 24 (.int (Int32.ofInt 0))), 198, sl) = some R := hh
  have q0 : qM (mset hb 24 (.int (Int32.ofInt 0))) 0 (min n0 40) tp := ⟨⟨mF_ne (by decide) b16, mF_ne (by decide) b17, mF_ne (by decide) b14, mset_arr (by decide) bA⟩, mF_ne (by decide) b22, _, mF_self b24⟩
  have k0 : kN (mset hb 24 (.int (Int32.ofInt 0))) [] := ⟨mF_self b24, D0, mset_arr (by decide) b175, fun j hj => absurd hj (by simp)⟩
  have g18 : mF (mset hb 24 (.int (Int32.ofInt 0))) 18 (.int (nI 0)) := mF_ne (by decide) b18
  generalize mset hb 24 (.int (Int32.ofInt 0)) = h2 at hh q0 g18 k0
  have hh : pm_run PT n fr lo 196 (12, [some (.ref 162), some (.int (nI n0)), none], [], h2, 198, sl) = some R := hh
  have fin : ∀ (n : Nat) (b : Bool) (p : Nat) (h3 : pm_H), p ≤ min n0 40 → qM h3 p (min n0 40) tp → pm_run PT n fr lo 196 (29, [some (.ref 162), some (.int (nI n0)), none], [.int (cond b 1 0)], h3, 198, sl) = some R → R.1 = some (.int (fO n0 40 (min n0 40) p b)) ∧ R.2.2 = (198, sl) ∧ R.2.1 = h3 := by
    intro n b p h3 hp q3 hh
    obtain ⟨n, hh⟩ := rn_i rfl rfl rfl rfl hh
    obtain ⟨n, hh⟩ := rn_i rfl rfl rfl rfl hh
    obtain ⟨n, hh⟩ := rn_i rfl rfl rfl rfl hh
    obtain ⟨n, hh⟩ := rn_i rfl rfl rfl rfl hh
    obtain ⟨n, hh⟩ := rn_i rfl rfl rfl rfl hh
    have hh : pm_run PT n fr lo 196 (35, [some (.ref 162), some (.int (nI n0)), some (.int (cond b 1 0))], [.int (cond b 1 0), .int (nI 40), .int (nI n0), .ref 162], h3, 198, sl) = some R := hh
    obtain ⟨n, fr', lo', r1, hr1, hh⟩ := rn_call (w := 0) (t := 186) rfl rfl hh
    have er := fo_run (m := 40) hn (by decide) (by omega) (by omega) q3.1.1 q3.1.2.1 hr1
    subst er
    have e := (rn_ret rfl (Or.inl rfl) hh).2
    rw [e]
    exact ⟨rfl, rfl, rfl⟩
  obtain ⟨n, hh⟩ := rn_i rfl rfl rfl rfl hh
  obtain ⟨n, hh⟩ := rn_if (cc := .eq) (off := 11) (t := 24) rfl rfl hh
  unfold zA zK esM
  by_cases z : n0 = 0
  · rw [if_pos z, if_pos z]
    have ec : pm_cmp .eq (nI n0) 0 = true := by rw [z]; decide
    rw [ec] at hh
    have hh : pm_run PT n fr lo 196 (24, [some (.ref 162), some (.int (nI n0)), none], [], h2, 198, sl) = some R := hh
    obtain ⟨n, hh⟩ := rn_i rfl rfl rfl rfl hh
    obtain ⟨n, hh⟩ := rn_i rfl rfl rfl rfl hh
    have e := fin n true 0 h2 (by omega) q0 hh
    have ef : fO n0 40 (min n0 40) 0 true = Int32.ofInt 0 := by
      rw [z]
      decide +kernel
    rw [ef] at e
    exact ⟨e.1, e.2.1, fun _ => by rw [e.2.2]; exact k0⟩
  · rw [if_neg z, if_neg z, decide_eq_false z, Bool.false_or]
    have ec : pm_cmp .eq (nI n0) 0 = false := decide_eq_false (fun e => by
      have e := congrArg Int32.toInt e
      rw [nI_toInt (by omega), show (0 : Int32).toInt = 0 by decide] at e
      omega)
    rw [ec] at hh
    have hh : pm_run PT n fr lo 196 (16, [some (.ref 162), some (.int (nI n0)), none], [], h2, 198, sl) = some R := hh
    obtain ⟨n, hh⟩ := rn_i rfl rfl rfl rfl hh
    obtain ⟨n, hh⟩ := rn_i rfl rfl rfl rfl hh
    have hh : pm_run PT n fr lo 196 (18, [some (.ref 162), some (.int (nI n0)), none], [.int (nI 0), .ref 162], h2, 198, sl) = some R := hh
    obtain ⟨n, fr', lo', r1, hr1, hh⟩ := rn_call (w := 0) (t := 195) rfl rfl hh
    obtain ⟨c1, c2, c3, c4⟩ := rN_all (t := min n0 40) (by omega) 20 0 0 0 _ _ _ _ h2 _ [] (by omega) (by omega) (by omega) (by omega) (by simp) ⟨q0, k0⟩ g18 hr1
    obtain ⟨rv, h4, s4⟩ := r1
    dsimp only at c1 c2 c3 c4
    subst c1
    subst c4
    have hle := pz_le (f := tp) (t := min n0 40) 20 0 0 0 (by omega)
    have hh : pm_run PT n fr lo 196 (21, [some (.ref 162), some (.int (nI n0)), none], [.int (cond (pz tp (min n0 40) 20 0 0 0).1 1 0)], h4, 198, sl) = some R := hh
    generalize pz tp (min n0 40) 20 0 0 0 = r at *
    generalize pr tp (min n0 40) 20 0 0 0 = dd at *
    obtain ⟨rb, rp⟩ := r
    dsimp only at c2 c3 hle hh ⊢
    have hh : pm_run PT n fr lo 196 (21, [some (.ref 162), some (.int (nI n0)), none], [.int (cond rb 1 0)], h4, 198, sl) = some R := hh
    obtain ⟨n, hh⟩ := rn_if (cc := .eq) (off := 7) (t := 28) rfl rfl hh
    have ef : fO n0 40 (min n0 40) rp rb = cond (rb && decide (rp = n0)) (Int32.ofInt 0) (Int32.ofInt (-1) - nI rp) := by
      unfold fO fO2
      generalize Int32.ofInt (-1) = m1
      cases rb with
      | false =>
        rw [Bool.false_and, Bool.false_and]
        by_cases y : 40 < n0 ∧ (false = true ∨ 40 ≤ rp)
        · rw [if_pos y]
          have : rp = 40 := by
            rcases y.2 with q | q
            · cases q
            · omega
          rw [this]
          rfl
        · rw [if_neg y]
      | true =>
        rw [Bool.true_and, Bool.true_and]
        by_cases y : 40 < n0
        · rw [decide_eq_false (show ¬ rp = n0 by omega)]
          by_cases x : rp = min n0 40
          · rw [decide_eq_true x, if_pos ⟨y, Or.inl rfl⟩]
            have : rp = 40 := by omega
            rw [this]
            rfl
          · rw [decide_eq_false x, if_neg (fun q => by
              rcases q.2 with q | q
              · cases q
              · omega)]
        · have ed : decide (rp = min n0 40) = decide (rp = n0) := by rw [show min n0 40 = n0 by omega]
          rw [ed, if_neg (fun q => y q.1)]
    rw [← ef]
    cases rb with
    | true =>
      have hh : pm_run PT n fr lo 196 (24, [some (.ref 162), some (.int (nI n0)), none], [], h4, 198, sl) = some R := hh
      obtain ⟨n, hh⟩ := rn_i rfl rfl rfl rfl hh
      obtain ⟨n, hh⟩ := rn_i rfl rfl rfl rfl hh
      have e := fin n true rp h4 hle c2 hh
      exact ⟨e.1, e.2.1, fun _ => by rw [e.2.2]; exact (c3 rfl).2.2⟩
    | false =>
      have hh : pm_run PT n fr lo 196 (28, [some (.ref 162), some (.int (nI n0)), none], [], h4, 198, sl) = some R := hh
      obtain ⟨n, hh⟩ := rn_i rfl rfl rfl rfl hh
      have e := fin n false rp h4 hle c2 hh
      exact ⟨e.1, e.2.1, fun y => by cases y⟩
/-- a code is laid -/
theorem lay_loop {m : Nat} {fr lo sl : Nat} {S : Nat → Int32} {w23 : Value} {R : pm_Rs} (hm : m ≤ 80) : ∀ (k i n : Nat) (D : Nat → Int32) (h : pm_H), i + k = m → h 174 = .inl (0, 80, .inl D) → h 175 = .inl (0, 80, .inl S) → mF h 21 (.ref 174) → mF h 23 w23 → (∀ j, j < i → D j = S j) → pm_run PT n fr lo 197 (7, [some (.ref 162), some (.ref 175), some (.int (nI m)), some (.int (nI i))], [], h, 198, sl) = some R → R.1 = none ∧ R.2.2 = (198, sl) ∧ mF R.2.1 23 w23 ∧ ∃ D', R.2.1 174 = .inl (0, 80, .inl D') ∧ ∀ j, j < m → D' j = S j
  | 0, i, n, D, h, hi, hD, hS, h21, h23, hj, hh => by
    have hi : i = m := hi
    subst hi
    obtain ⟨n, hh⟩ := rn_i rfl rfl rfl rfl hh
    obtain ⟨n, hh⟩ := rn_i rfl rfl rfl rfl hh
    obtain ⟨n, hh⟩ := rn_icmp (cc := .ge) (off := 18) (t := 27) rfl rfl hh
    rw [hI_ge (by omega) (by omega), decide_eq_true (Nat.le_refl _)] at hh
    have hh : pm_run PT n fr lo 197 (27, [some (.ref 162), some (.ref 175), some (.int (nI i)), some (.int (nI i))], [], h, 198, sl) = some R := hh
    have e := rn_vret rfl rfl hh
    rw [e]
    exact ⟨rfl, rfl, h23, D, hD, hj⟩
  | k + 1, i, n, D, h, hi, hD, hS, h21, h23, hj, hh => by
    obtain ⟨n, hh⟩ := rn_i rfl rfl rfl rfl hh
    obtain ⟨n, hh⟩ := rn_i rfl rfl rfl rfl hh
    obtain ⟨n, hh⟩ := rn_icmp (cc := .ge) (off := 18) (t := 27) rfl rfl hh
    rw [hI_ge (by omega) (by omega), decide_eq_false (by omega)] at hh
    have hh : pm_run PT n fr lo 197 (12, [some (.ref 162), some (.ref 175), some (.int (nI m)), some (.int (nI i))], [], h, 198, sl) = some R := hh
    obtain ⟨n, hh⟩ := rn_i rfl rfl rfl rfl hh
    obtain ⟨n, hh⟩ := rn_gfm rfl rfl h21 hh
    obtain ⟨n, hh⟩ := rn_i rfl rfl rfl rfl hh
    obtain ⟨n, hh⟩ := rn_i rfl rfl rfl rfl hh
    obtain ⟨n, hh⟩ := rn_i rfl rfl rfl rfl hh
    have hh : pm_run PT n fr lo 197 (19, [some (.ref 162), some (.ref 175), some (.int (nI m)), some (.int (nI i))], [.int (nI i), .ref 175, .int (nI i), .ref 174], h, 198, sl) = some R := hh
    obtain ⟨n, hh⟩ := rn_iam rfl hS (hI_in (by omega) (by decide)) (by decide) hh
    rw [nI_clamp (by omega)] at hh
    obtain ⟨n, hh⟩ := rn_ism rfl hD (hI_in (by omega) (by decide)) (by decide) hh
    rw [nI_clamp (by omega)] at hh
    have hh : pm_run PT n fr lo 197 (21, [some (.ref 162), some (.ref 175), some (.int (nI m)), some (.int (nI i))], [], aset h 174 80 (upd D i (S i)), 198, sl) = some R := hh
    have g174 : aset h 174 80 (upd D i (S i)) 174 = .inl (0, 80, .inl (upd D i (S i))) := asR_self
    have g175 : aset h 174 80 (upd D i (S i)) 175 = .inl (0, 80, .inl S) := (asR_ne (by decide)).trans hS
    have g162 : aset h 174 80 (upd D i (S i)) 162 = h 162 := asR_ne (by decide)
    have g21 : mF (aset h 174 80 (upd D i (S i))) 21 (.ref 174) := by
      obtain ⟨fs, a, b⟩ := h21
      exact ⟨fs, g162.trans a, b⟩
    have g23 : mF (aset h 174 80 (upd D i (S i))) 23 w23 := by
      obtain ⟨fs, a, b⟩ := h23
      exact ⟨fs, g162.trans a, b⟩
    generalize aset h 174 80 (upd D i (S i)) = g at hh g174 g175 g21 g23
    have hh : pm_run PT n fr lo 197 (21, [some (.ref 162), some (.ref 175), some (.int (nI m)), some (.int (nI i))], [], g, 198, sl) = some R := hh
    obtain ⟨n, hh⟩ := rn_i rfl rfl rfl rfl hh
    obtain ⟨n, hh⟩ := rn_i rfl rfl rfl rfl hh
    have hh : pm_run PT n fr lo 197 (7, [some (.ref 162), some (.ref 175), some (.int (nI m)), some (.int (nI i + Int32.ofInt 1))], [], g, 198, sl) = some R := hh
    rw [show nI i + Int32.ofInt 1 = nI (i + 1) from (Int32.ofNat_add i 1).symm] at hh
    refine lay_loop hm k (i + 1) n _ g (by omega) g174 g175 g21 g23 (fun j hjl => ?_) hh
    unfold upd
    by_cases y : j = i
    · rw [if_pos y, y]
    · rw [if_neg y]
      exact hj j (by omega)
theorem lay_run {m : Nat} {S D : Nat → Int32} {w23 : Value} (hm : m ≤ 80) (h23 : mF h 23 w23) (h21 : mF h 21 (.ref 174)) (hS : h 175 = .inl (0, 80, .inl S)) (hD : h 174 = .inl (0, 80, .inl D)) (hh : pm_run PT n fr lo 197 (0, pm_l0 [.ref 162, .ref 175, .int (nI m)] 4, [], h, 198, sl) = some R) : R.1 = none ∧ R.2.2 = (198, sl) ∧ mF R.2.1 23 (.int (nI m)) ∧ ∃ D', R.2.1 174 = .inl (0, 80, .inl D') ∧ ∀ j, j < m → D' j = S j := by
  obtain ⟨n, hh⟩ := rn_i rfl rfl rfl rfl hh
  obtain ⟨n, hh⟩ := rn_i rfl rfl rfl rfl hh
  have hh : pm_run PT n fr lo 197 (2, [some (.ref 162), some (.ref 175), some (.int (nI m)), none], [.int (nI m), .ref 162], h, 198, sl) = some R := hh
  obtain ⟨n, hh⟩ := rn_pfm (w := w23) rfl rfl rfl (by decide) h23 hh
  obtain ⟨n, hh⟩ := rn_i rfl rfl rfl rfl hh
  obtain ⟨n, hh⟩ := rn_i rfl rfl rfl rfl hh
  have hh : pm_run PT n fr lo 197 (7, [some (.ref 162), some (.ref 175), some (.int (nI m)), some (.int (nI 0))], [], mset h 23 (.int (nI m)), 198, sl) = some R := hh
  exact lay_loop hm m 0 n D _ (by omega) (mset_arr (by decide) hD) (mset_arr (by decide) hS) (mF_ne (by decide) h21) (mF_self h23) (fun j hj => absurd hj (by omega)) hh
def rmN : List Nat := [163, 165, 180, 181, 182, 183, 184, 186, 193, 194, 195, 196]
def rmK (k : Nat) : Bool := rmN.any (fun x => Nat.beq x k)
theorem rmK_in (k : Nat) (h : rmK k = true) : k ∈ rmN := by
  obtain ⟨x, hx, e⟩ := List.any_eq_true.mp h
  rw [← Nat.eq_of_beq_eq_true e]
  exact hx
def rmP (ci f : Nat) : Bool := Nat.beq ci 11 && (Nat.beq f 21 || (Nat.beq f 22 || Nat.beq f 23))
theorem rm_sf : sf_ok rmP rmK := sf_of rmK_in (by decide +kernel)
theorem mF_fm {F : fr_F} {g : Nat} {v : Value} (q : fm F h h1) (hg : F.2 11 g = true) (x : mF h g v) : mF h1 g v := by
  obtain ⟨fs, a, b⟩ := x
  obtain ⟨fs', e, -, k⟩ := q.2 162 11 fs a
  exact ⟨fs', e, (k g hg).trans b⟩
theorem m1p_nz : ∀ p, p < 41 → pm_cmp .ne (Int32.ofInt (-1) - nI p) 0 = true := by decide +kernel
theorem m1p_ne (hp : p ≤ 40) : pm_cmp .ne (Int32.ofInt (-1) - nI p) 0 = true := m1p_nz p (by omega)
theorem esM_len (z : zK f n0 = true) : (esM f n0).length ≤ 40 := by
  unfold zK at z
  unfold esM
  by_cases y : n0 = 0
  · rw [if_pos y]
    exact Nat.zero_le _
  · rw [if_neg y]
    rw [decide_eq_false y, Bool.false_or, Bool.and_eq_true] at z
    have a := pr_len (f := f) (t := min n0 40) 20 0 0 0 z.1
    have b := pz_le (f := f) (t := min n0 40) 20 0 0 0 (by omega)
    omega
theorem dsX_len (z : zK f n0 = true) : (dsX f n0).length ≤ 40 := by
  unfold zK at z
  unfold dsX
  by_cases y : n0 = 0
  · rw [if_pos y]
    decide
  · rw [if_neg y]
    rw [decide_eq_false y, Bool.false_or, Bool.and_eq_true] at z
    have a := pc_len (f := f) (t := min n0 40) 20 0 0 0 z.1
    have b := pz_le (f := f) (t := min n0 40) 20 0 0 0 (by omega)
    omega
/-- rule of the reference -/
theorem rln_run {x16 x17 x18 : Value} {w0 c23 c24 : Int32} {D0 D1 : Nat → Int32} (hI : ah_ok bB 198 [] h) (hn : n0 ≤ 80) (h175 : h 175 = .inl (0, 80, .inl D0)) (h174 : h 174 = .inl (0, 80, .inl D1)) (h21 : mF h 21 (.ref 174)) (h23 : mF h 23 (.int c23)) (h0 : mF h 0 (.int w0)) (h15 : mF h 15 (.int (nI n0))) (h16 : mF h 16 x16) (h17 : mF h 17 x17) (h18 : mF h 18 x18) (h24 : mF h 24 (.int c24)) (h14 : mF h 14 (.ref 172)) (hA : h 172 = .inl (0, 80, .inl tp)) (h22 : mF h 22 (.ref 175)) (hh : pm_run PT n fr lo 198 (0, pm_l0 [.ref 162] 2, [], h, 198, sl) = some R) : (zK tp n0 = true ∧ mF R.2.1 23 (.int (nI (esM tp n0).length)) ∧ ∃ D, R.2.1 174 = .inl (0, 80, .inl D) ∧ ∀ j, j < (esM tp n0).length → (esM tp n0)[j]? = some (D j)) ∨ (zK tp n0 = false ∧ mF R.2.1 23 (.int c23) ∧ R.2.1 174 = h 174) := by
  obtain ⟨n, hh⟩ := rn_i rfl rfl rfl rfl hh
  obtain ⟨n, hh⟩ := rn_i rfl rfl rfl rfl hh
  obtain ⟨n, hh⟩ := rn_pfm (w := .int w0) rfl rfl rfl (by decide) h0 hh
  have hh : pm_run PT n fr lo 198 (5, [some (.ref 162), none], [], (mset h 0 (.int (Int32.ofInt 0))), 198, sl) = some R := hh
  have nr0 : nrH (tnA wMCA) wMCG (mset h 0 (.int (Int32.ofInt 0))) := by
    obtain ⟨fs, a, b⟩ := h0
    have e : mset h 0 (.int (Int32.ofInt 0)) = va_up h 162 (.inr (11, fs.set 0 (.int (Int32.ofInt 0)))) := by
      unfold mset
      rw [a]
    rw [e]
    exact nrH_fld (tn_ty wMC_tb hI) a (nrv_i _)
  have m174 : mset h 0 (.int (Int32.ofInt 0)) 174 = h 174 := (mset_arr (by decide) h174).trans h174.symm
  have m23 : mF (mset h 0 (.int (Int32.ofInt 0))) 23 (.int c23) := mF_ne (by decide) h23
  have m21 : mF (mset h 0 (.int (Int32.ofInt 0))) 21 (.ref 174) := mF_ne (by decide) h21
  have m22 : mF (mset h 0 (.int (Int32.ofInt 0))) 22 (.ref 175) := mF_ne (by decide) h22
  have rr := fun (n fr lo : Nat) (R : pm_Rs) => rdn_run (n := n) (fr := fr) (lo := lo) (sl := sl) (R := R) (h := mset h 0 (.int (Int32.ofInt 0))) (mset_arr (by decide) h175) hn (mF_ne (by decide) h15) (mF_ne (by decide) h16) (mF_ne (by decide) h17) (mF_ne (by decide) h18) (mF_ne (by decide) h24) (mF_ne (by decide) h14) (mset_arr (by decide) hA) m22
  generalize mset h 0 (.int (Int32.ofInt 0)) = g at hh nr0 m174 m23 m21 m22 rr
  have hh : pm_run PT n fr lo 198 (5, [some (.ref 162), none], [], g, 198, sl) = some R := hh
  obtain ⟨n, hh⟩ := rn_i rfl rfl rfl rfl hh
  obtain ⟨n, fr', lo', r1, hr1, hh⟩ := rn_call (w := 0) (t := 196) rfl rfl hh
  obtain ⟨c1, c2, c3⟩ := rr _ _ _ _ hr1
  have c4 : fm (sfF rmP) g r1.2.1 := sf_run rm_sf _ _ _ 196 _ r1 rfl hr1
  have c5 : r1.2.1 174 = g 174 := (t2_run wMC_tn wMC_sf _ _ _ 196 _ r1 rfl (Nat.le_refl _) (nrL_l0 (vs := [.ref 162]) (nrS_cons.mpr ⟨fun p e => by cases e; rfl, fun v hv => absurd hv (by simp)⟩)) tS_e nr0 hr1).2 174 rfl
  obtain ⟨rv, h2, s2⟩ := r1
  dsimp only at c1 c2 c3 c4 c5
  subst c1
  subst c2
  have hh : pm_run PT n fr lo 198 (9, [some (.ref 162), none], [.int (zA tp n0)], h2, 198, sl) = some R := hh
  obtain ⟨n, hh⟩ := rn_i rfl rfl rfl rfl hh
  obtain ⟨n, hh⟩ := rn_i rfl rfl rfl rfl hh
  have hh : pm_run PT n fr lo 198 (11, [some (.ref 162), some (.int (zA tp n0))], [.int (zA tp n0)], h2, 198, sl) = some R := hh
  obtain ⟨n, hh⟩ := rn_if (cc := .ne) (off := 15) (t := 26) rfl rfl hh
  cases z : zK tp n0 with
  | false =>
    right
    obtain ⟨p, p1, -, p3⟩ := zK_nF z
    rw [p3, m1p_ne p1] at hh
    obtain ⟨n, hh⟩ := rn_i rfl rfl rfl rfl hh
    have e := (rn_ret rfl (Or.inl rfl) hh).2
    rw [e]
    exact ⟨rfl, mF_fm c4 rfl m23, c5.trans m174⟩
  | true =>
    left
    rw [zK_A z, show pm_cmp .ne (Int32.ofInt 0) 0 = false by decide] at hh
    have hh : pm_run PT n fr lo 198 (14, [some (.ref 162), some (.int (Int32.ofInt 0))], [], h2, 198, sl) = some R := hh
    obtain ⟨k24, D, kD, kj⟩ := c3 z
    obtain ⟨n, hh⟩ := rn_i rfl rfl rfl rfl hh
    obtain ⟨n, hh⟩ := rn_i rfl rfl rfl rfl hh
    obtain ⟨n, hh⟩ := rn_gfm rfl rfl (mF_fm c4 rfl m22) hh
    obtain ⟨n, hh⟩ := rn_i rfl rfl rfl rfl hh
    obtain ⟨n, hh⟩ := rn_gfm rfl rfl k24 hh
    have hh : pm_run PT n fr lo 198 (23, [some (.ref 162), some (.int (Int32.ofInt 0))], [.int (nI (esM tp n0).length), .ref 175, .ref 162], h2, 198, sl) = some R := hh
    obtain ⟨n, fr', lo', r2, hr2, hh⟩ := rn_call (w := 0) (t := 197) rfl rfl hh
    have hl := esM_len z
    obtain ⟨d1, d2, d3, D', d4, d5⟩ := lay_run (D := D1) (by omega) (mF_fm c4 rfl m23) (mF_fm c4 rfl m21) kD ((c5.trans m174).trans h174) hr2
    obtain ⟨rv, h3, s3⟩ := r2
    dsimp only at d1 d2 d3 d4
    subst d1
    subst d2
    have hh : pm_run PT n fr lo 198 (26, [some (.ref 162), some (.int (Int32.ofInt 0))], [], h3, 198, sl) = some R := hh
    obtain ⟨n, hh⟩ := rn_i rfl rfl rfl rfl hh
    have e := (rn_ret rfl (Or.inl rfl) hh).2
    rw [e]
    refine ⟨rfl, d3, D', d4, fun j hj => ?_⟩
    rw [d5 j hj]
    exact kj j hj
end RUC
/-! SR behind rule -/
section SRU
variable {kx km n fr lo sl n0 cc gc o : Nat} {q : QT} {h h' h1 h2 : pm_H} {R : pm_Rs} {f g : Nat → Int32} {v w : Int32} {vs : List Int32}
/-- what rule leaves: fields -/
def w2P (ci f : Nat) : Bool := (Nat.beq ci 0 && (Nat.beq f 0)) || (Nat.beq ci 2 && (Nat.beq f 1 || Nat.beq f 2)) || (Nat.beq ci 3 && (Nat.beq f 0 || Nat.beq f 1)) || (Nat.beq ci 7 && (Nat.beq f 5 || Nat.beq f 6)) || (Nat.beq ci 10 && (Nat.beq f 7)) || (Nat.beq ci 11 && (Nat.beq f 3 || Nat.beq f 4 || Nat.beq f 27 || Nat.beq f 47))
def w2X : List Nat := [0, 1, 6, 15, 16, 17, 18, 19, 20, 22, 42, 43, 44, 45, 52, 57, 72, 73, 78, 82, 85, 88, 89, 91, 92, 93, 96, 97, 98, 99, 100, 101, 111, 112, 118, 119, 124, 125, 126, 128, 133, 140, 141, 161, 188, 190, 192, 212, 213, 214, 222, 223, 224, 225, 228, 251, 252, 265]
theorem w2_all : ((List.range 271).filter (fun k => !(w2X.any (fun x => Nat.beq x k)))).all (sf_b w2P (sf_X w2X)) = true := gz_lift (X := w2X) (g := gz_sg w2P (sf_X w2X)) (by decide +kernel) (fun k q h => gz_sf k q h) (by decide +kernel)
theorem w2_ok : sf_ok w2P (sf_X w2X) := sf_of sf_X_in w2_all
def fl2K (p : Nat × Nat) : Bool := match bB p.1 with
  | .inr (ci, as) => Nat.blt ci 1000 && (w2P ci p.2 && Nat.blt p.1 198)
  | _ => false
theorem fl2_all : SF2.all fl2K = true := by decide +kernel
theorem kp2_fm (hh : ah_ok bB 198 [] h) (f : fm (sfF w2P) h h') : kpf SF2 h h' := by
  intro c g e
  have z := List.all_eq_true.mp fl2_all (c, g) (List.elem_iff.mp e)
  unfold fl2K at z
  dsimp only at z
  cases hB : bB c with
  | inl x => rw [hB] at z; cases z
  | inr x =>
    obtain ⟨ci, as⟩ := x
    rw [hB] at z
    dsimp only at z
    rw [Bool.and_eq_true, Bool.and_eq_true] at z
    have h0 : ac_ok (h c) (bB c) := hh c (Nat.le_of_ble_eq_true z.2.2)
    rw [hB] at h0
    obtain ⟨fs, ef, -, -⟩ := aE_obj h0 (Nat.le_of_ble_eq_true z.1)
    exact fi_fm f z.2.1 ef
theorem s2x_all : SB.all (fun a => tnA wStA a || (tnA wReA a || (tnA wClA a || Nat.ble 162 a))) = true := by decide +kernel
theorem s2m_all : SB.all (fun a => tnA wMRA a || (tnA wMNA a || (tnA wMPA a || (tnA wMKA a || (tnA wMLA a || Nat.blt a 162))))) = true := by decide +kernel
theorem s2x_kpt (k1 : sf_X wStX kx = true) (k2 : sf_X wReX kx = true) (k4 : sf_X wClX kx = true) (hI : mInv h) (f1 : fm cxF h R.2.1) {mx m f l : Nat} (r1 : pm_run PT m f l kx (0, pm_l0 (.ref 0 :: vs.map Value.int) mx, [], h, 198, sl) = some R) : kpt SB h R.2.1 := by
  intro a e
  apply Ar_e
  have z := List.all_eq_true.mp s2x_all a (List.elem_iff.mp e)
  rw [Bool.or_eq_true, Bool.or_eq_true, Bool.or_eq_true] at z
  rcases z with z | z | z | z
  · exact t2_keeps wSt_tn wSt_sf wSt_tb k1 hI.1 (o := 0) rfl vs r1 a z
  · exact t2_keeps wRe_tn wRe_sf wRe_tb k2 hI.1 (o := 0) rfl vs r1 a z
  · exact t2_keeps wCl_tn wCl_sf wCl_tb k4 hI.1 (o := 0) rfl vs r1 a z
  · exact f1.1 a z
theorem s2m_kpt (k1 : sf_X wMRX km = true) (k2 : sf_X wMNX km = true) (k4 : sf_X wMPX km = true) (k5 : sf_X wMKX km = true) (k6 : sf_X wMLX km = true) (i1 : mInv h1) (lo1 : ∀ i, i < 162 → R.2.1 i = h1 i) {mx m f l : Nat} (r2 : pm_run PT m f l km (0, pm_l0 (.ref 162 :: vs.map Value.int) mx, [], h1, 198, sl) = some R) : kpt SB h1 R.2.1 := by
  intro a e
  apply Ar_e
  have z := List.all_eq_true.mp s2m_all a (List.elem_iff.mp e)
  rw [Bool.or_eq_true, Bool.or_eq_true, Bool.or_eq_true, Bool.or_eq_true, Bool.or_eq_true] at z
  rcases z with z | z | z | z | z | z
  · exact t2_keeps wMR_tn wMR_sf wMR_tb k1 i1.1 (o := 162) rfl vs r2 a z
  · exact t2_keeps wMN_tn wMN_sf wMN_tb k2 i1.1 (o := 162) rfl vs r2 a z
  · exact t2_keeps wMP_tn wMP_sf wMP_tb k4 i1.1 (o := 162) rfl vs r2 a z
  · exact t2_keeps wMK_tn wMK_sf wMK_tb k5 i1.1 (o := 162) rfl vs r2 a z
  · exact t2_keeps wML_tn wML_sf wML_tb k6 i1.1 (o := 162) rfl vs r2 a z
  · exact lo1 a (Nat.le_of_ble_eq_true z)
theorem Fi_of {c ci g : Nat} {fs : List Value} {x : Int32} (e : h c = .inr (ci, fs)) (e1 : fs[g]? = some (.int x)) : Fi h c g = x := by
  unfold Fi
  rw [e]
  dsimp only
  rw [e1]
theorem Ar_of {a kd m : Nat} {f : Nat → Int32} (e : h a = .inl (kd, m, .inl f)) : Ar h a = f := by
  unfold Ar
  rw [e]
/-- the rule of no text -/
theorem ds0_val (A : Nat → Int32) : ds0.foldl (stX q cc gc A) [] = [A 0 * A 1 / nI 5] := by
  show stX q cc gc A (stX q cc gc A (stX q cc gc A (stX q cc gc A (stX q cc gc A [] (Int32.ofInt (-119))) (Int32.ofInt (-107))) (Int32.ofInt (-42))) (nI 5)) (Int32.ofInt (-47)) = _
  have n5 : ∀ s, stX q cc gc A s (nI 5) = nI 5 :: s := fun s => by
    unfold stX
    rw [show pm_cmp .lt (nI 5) 0 = false by decide]
    rfl
  rw [show Int32.ofInt (-119) = -(nI 119) by decide, show Int32.ofInt (-107) = -(nI 107) by decide, show Int32.ofInt (-42) = -(nI 42) by decide, show Int32.ofInt (-47) = -(nI 47) by decide]
  rw [(let_119 A []).1, (let_107 A _).1, (op_42 A _ _ _).1, n5, (op_47 A _ _ _).1]
  rw [show pm_cmp .ne (nI 5) 0 = true by decide]
  rfl
/-- both codes tell the same values -/
theorem vr_mk {q' : Nat} {C D : Nat → Int32} (hf : ∀ j, j < n0 → f j = g j) (z : zK f n0 = true) (hC : ∀ j, j < (dsX f n0).length → (dsX f n0)[j]? = some (C j)) (hD : ∀ j, j < (esM g n0).length → (esM g n0)[j]? = some (D j)) (hd : (esM g n0).length ≠ 0 → ∃ dn, dep D (esM g n0).length = some dn) : VR (q', (dsX f n0).length, (esM g n0).length) cc gc C D := by
  by_cases y : n0 = 0
  · have e1 : dsX f n0 = ds0 := if_pos y
    have e2 : esM g n0 = [] := if_pos y
    rw [e1] at hC
    rw [e1, e2]
    refine ⟨fun A => A 0 * A 1 / nI 5, fun A B e => ?_, fun A => ?_, fun _ A => rfl, fun z0 => absurd rfl z0⟩
    · show A 0 * A 1 / nI 5 = B 0 * B 1 / nI 5
      rw [e 0 (by decide), e 1 (by decide)]
    · show (evl (stX _ cc gc A) C ds0.length).headD 0 = A 0 * A 1 / nI 5
      rw [evl_fold _ C ds0 hC, ds0_val]
      rfl
  · have e1 : dsX f n0 = pc f (min n0 40) 20 0 0 0 := if_neg y
    have e2 : esM g n0 = pr g (min n0 40) 20 0 0 0 := if_neg y
    unfold zK at z
    rw [decide_eq_false y, Bool.false_or, Bool.and_eq_true] at z
    have d := den_all (q := (q', (dsX f n0).length, (esM g n0).length)) (cc := cc) (gc := gc) (f := f) (t := min n0 40) 20 0 0 0 (by omega) z.1
    rw [pr_cg (f := f) (g := g) (t := min n0 40) (fun j hj => hf j (by omega)) 20 0 0] at d
    rw [← e1, ← e2] at d
    obtain ⟨V, hV⟩ := d
    have ne : (esM g n0).length ≠ 0 := by
      intro e
      have e3 := (hV (fun _ => 0) []).2
      rw [List.eq_nil_of_length_eq_zero e] at e3
      exact absurd e3 (by simp)
    refine ⟨V, fun A B e => ?_, fun A => ?_, fun z0 => absurd z0 ne, fun _ => ⟨hd ne, fun A => ?_⟩⟩
    · have a := (hV A []).1
      have b := (hV B []).1
      rw [fold_cg e] at a
      exact (List.cons.inj (a.symm.trans b)).1
    · show (evl (stX _ cc gc A) C (dsX f n0).length).headD 0 = V A
      rw [evl_fold _ C _ hC, (hV A []).1]
      rfl
    · show evl (stM _ cc gc A) D (esM g n0).length = [V A]
      rw [evl_fold _ D _ hD]
      exact (hV A []).2
theorem zK_cg (hf : ∀ j, j < n0 → f j = g j) : zK f n0 = zK g n0 := by
  unfold zK
  rw [pz_cg (f := f) (g := g) (t := min n0 40) (fun j hj => hf j (by omega))]
theorem rule_ob (hh : ah_ok bB 198 [] h) (ho : o = 142 ∨ o = 145) : ∃ (rs : List Value) (w5 s1 : Int32), h o = .inr (6, rs) ∧ rs[4]? = some (.ref 1) ∧ rs[5]? = some (.int w5) ∧ rs[1]? = some (.int s1) ∧ rs[0]? = some (.ref (o + 1)) ∧ h (o + 1) = .inl (0, 40, .inl (Ar h (o + 1))) := by
  rcases ho with rfl | rfl
  · obtain ⟨rs, w5, s1, e0, e4, e5, es⟩ := ty_ru (a := 142) hh (by decide) rfl rfl rfl rfl rfl rfl
    exact ⟨rs, w5, s1, e0, e4, e5, es, ty_or (a := 142) (g := 0) (p := 143) hh (by decide) rfl (by decide) rfl rfl e0, wt_a (wt_of hh) (by decide) rfl (by decide)⟩
  · obtain ⟨rs, w5, s1, e0, e4, e5, es⟩ := ty_ru (a := 145) hh (by decide) rfl rfl rfl rfl rfl rfl
    exact ⟨rs, w5, s1, e0, e4, e5, es, ty_or (a := 145) (g := 0) (p := 146) hh (by decide) rfl (by decide) rfl rfl e0, wt_a (wt_of hh) (by decide) rfl (by decide)⟩
theorem sr_rule (hL : LI5 h) (pr : prun sl 90 198 [] h h1 h2 v w) (s : SR h) : SR h2 := by
  obtain ⟨q, cc, gc, hc, ⟨⟨vr, ⟨fo, o1, o2⟩⟩, sc⟩⟩ := s
  obtain ⟨⟨m, r1⟩, ⟨f1, i1⟩, ⟨m2, r2⟩, lo1, i2⟩ := pr
  have hI : mInv h := hL.1
  have fx : fm (sfF w2P) h h1 := sf_run w2_ok _ _ _ 90 _ (some (.int v), h1, 198, sl) rfl r1
  have fy : fm (sfF w2P) h1 h2 := sf_run w2_ok _ _ _ 198 _ (some (.int w), h2, 198, sl) rfl r2
  have kf : kpf SF2 h h2 := kpf_tr (kp2_fm hI.1 fx) (kp2_fm i1.1 fy)
  have ka : kpt SB h h2 := kpt_tr (s2x_kpt (R := (some (.int v), h1, 198, sl)) rfl rfl rfl hI f1 r1) (s2m_kpt (R := (some (.int w), h2, 198, sl)) rfl rfl rfl rfl rfl i1 lo1 r2)
  obtain ⟨-, ⟨n0, cc0, f0, g0, hn, hc0, ⟨x1, x2⟩, ⟨y1, y2, y3⟩, hjj⟩, -⟩ := hL
  obtain ⟨fs, a1, a2, a3⟩ := ty_x2 hI.1
  have px : pX h n0 cc0 f0 := ⟨⟨fs, a1, a2, a3⟩, x1.1, x1.2, x2⟩
  obtain ⟨f8, b1, b2⟩ := hc.2.2.2.2.1
  rw [a1] at o1 b1
  cases o1
  cases b1
  have ho : (287 - q.1 = 142 ∧ q.1 = 145) ∨ (287 - q.1 = 145 ∧ q.1 = 142) := by
    rcases hc.qq with e | e
    · exact Or.inr ⟨by omega, e⟩
    · exact Or.inl ⟨by omega, e⟩
  have ho2 : 287 - q.1 = 142 ∨ 287 - q.1 = 145 := by
    rcases ho with e | e
    · exact Or.inl e.1
    · exact Or.inr e.1
  obtain ⟨rs, w5, s1, e0, e4, e5, es, er, eC⟩ := rule_ob hI.1 ho2
  have cx := rlc_run (f := f0) ho hI.1 hn a1 o2 b2 px er eC e0 e4 e5 es r1
  obtain ⟨w0, hw⟩ := ty_m0 i1.1
  obtain ⟨w16, h16⟩ := ty_mi i1.1 16 (by decide +kernel) (by decide +kernel)
  obtain ⟨w17, h17⟩ := ty_mi i1.1 17 (by decide +kernel) (by decide +kernel)
  obtain ⟨w18, h18⟩ := ty_mi i1.1 18 (by decide +kernel) (by decide +kernel)
  obtain ⟨w24, h24⟩ := ty_mi i1.1 24 (by decide +kernel) (by decide +kernel)
  obtain ⟨w23, h23⟩ := ty_mi i1.1 23 (by decide +kernel) (by decide +kernel)
  have cm := rln_run (tp := g0) i1.1 hn (wt_a (wt_of i1.1) (by decide) rfl (by decide)) (wt_a (wt_of i1.1) (by decide) rfl (by decide)) (ty_ref i1.1 (g := 21) (p := 174) rfl) h23 hw (mF_hi f1 y1) h16 h17 h18 h24 (ty_m14 i1.1) ((f1.1 172 rfl).trans y2) (ty_ref i1.1 (g := 22) (p := 175) rfl) r2
  dsimp only at cx cm
  have hz := zK_cg hjj
  have hcx : HC q cc gc h := hc
  obtain ⟨-, -, ⟨-, -, m23, rs1⟩, -⟩ := hcx
  rcases cx with ⟨z, kx, fs2, u0, u8, u9⟩ | ⟨z, ⟨fs2, u0, u8, u9⟩, kA⟩
  · rcases cm with ⟨z2, k23, D, kD, kj⟩ | ⟨z2, -, -⟩
    · obtain ⟨rs', C, k1, k2, k3, k4, k5⟩ := kx
      have lo : 287 - q.1 < 162 ∧ 287 - q.1 + 1 < 162 := by omega
      have eC2 : Ar h2 (287 - q.1 + 1) = C := Ar_of ((lo1 _ lo.2).trans k4)
      have eD2 : Ar h2 174 = D := Ar_of kD
      have hd : (esM g0 n0).length ≠ 0 → ∃ dn, dep D (esM g0 n0).length = some dn := by
        intro hne
        obtain ⟨⟨n, dn, fD, c1, c2, c3, c4⟩, -⟩ := i2.2
        rw [kD] at c2
        cases c2
        have en : n = (esM g0 n0).length := by
          obtain ⟨fsa, p1, p2⟩ := c1
          obtain ⟨fsb, p3, p4⟩ := k23
          rw [p1] at p3
          cases p3
          rw [p2] at p4
          have e := Value.int.inj (Option.some.inj p4)
          have hl := esM_len z2
          have e := congrArg Int32.toInt e
          rw [nI_toInt (by omega), nI_toInt (by omega)] at e
          omega
        rw [← en] at hne ⊢
        rcases c4 with c4 | c4
        · exact absurd c4 hne
        · exact ⟨dn, c4.1⟩
      refine ⟨(287 - q.1, (dsX f0 n0).length, (esM g0 n0).length), cc, gc, ⟨wt_of i2.1, ⟨(kf 5 0 rfl).trans hc.x0, (kf 5 1 rfl).trans hc.x1⟩, ⟨(kf 162 3 rfl).trans hc.m3, (kf 162 4 rfl).trans hc.m4, Fi_m k23, Fi_of ((lo1 _ lo.1).trans k1) k3⟩, ⟨hc.cb, hc.gb, dsX_len z, by have := esM_len z2; show (esM g0 n0).length ≤ 80; omega⟩, ⟨⟨fs2, (lo1 0 (by decide)).trans u0, u8⟩, ho2⟩⟩, ⟨⟨?_, ⟨fs2, (lo1 0 (by decide)).trans u0, ?_⟩⟩, SRc_keep ka kf sc⟩⟩
      · show VR (287 - q.1, (dsX f0 n0).length, (esM g0 n0).length) cc gc (Ar h2 (287 - q.1 + 1)) (Ar h2 174)
        rw [eC2, eD2]
        exact vr_mk hjj z (fun j hj => k5 j hj) kj hd
      · show fs2[9]? = some (.ref (287 - (287 - q.1)))
        rw [u9, show 287 - (287 - q.1) = q.1 by omega]
    · rw [hz, z2] at z
      cases z
  · rcases cm with ⟨z2, -, -, -, -⟩ | ⟨z2, k23, k174⟩
    · rw [hz, z2] at z
      cases z
    · have lo : q.1 < 162 ∧ q.1 + 1 < 162 := by omega
      have g1 : ruA q.1 q.1 = true := by
        unfold ruA
        rw [show Nat.beq q.1 q.1 = true from Nat.beq_refl _]
        rfl
      have g2 : ruA q.1 (q.1 + 1) = true := by
        unfold ruA
        rw [show Nat.beq (q.1 + 1) (q.1 + 1) = true from Nat.beq_refl _, Bool.true_or, Bool.or_true]
      have eC2 : Ar h2 (q.1 + 1) = Ar h (q.1 + 1) := Ar_e ((lo1 _ lo.2).trans (kA _ g2))
      have eD2 : Ar h2 174 = Ar h 174 := Ar_e (k174.trans (f1.1 174 rfl))
      have e23 : w23 = nI q.2.2 := by
        rw [← m23, ← Fi_m h23]
        exact Fi_e (f1.1 162 rfl)
      refine ⟨q, cc, gc, ⟨wt_of i2.1, ⟨(kf 5 0 rfl).trans hc.x0, (kf 5 1 rfl).trans hc.x1⟩, ⟨(kf 162 3 rfl).trans hc.m3, (kf 162 4 rfl).trans hc.m4, (Fi_m k23).trans e23, (Fi_e ((lo1 _ lo.1).trans (kA _ g1))).trans rs1⟩, ⟨hc.cb, hc.gb, hc.zx, hc.zr⟩, ⟨⟨fs2, (lo1 0 (by decide)).trans u0, u8⟩, hc.qq⟩⟩, ⟨⟨?_, ⟨fs2, (lo1 0 (by decide)).trans u0, u9⟩⟩, SRc_keep ka kf sc⟩⟩
      rw [eC2, eD2]
      exact vr
end SRU
end MH95zzyvx0
section MH95zzyvx1
section MG95zzywx0
/-! what can be undone: a state is put by on both sides, taken back -/
section PST
variable {cc gc b s t u fi si : Nat} {q : QT} {h h' h2 : pm_H} {r r' g g' e e' d d' hd hd' ha ha' : Nat → Int32} {x m v : Int32}
theorem RS_cg (h6 : cc ≤ 6) (h8 : gc ≤ 8) (z : ∀ k, k < 96 → r' k = r k) (w : RS cc gc g e d hd ha x m r) : RS cc gc g e d hd ha x m r' := by
  obtain ⟨s1, s2, s3, s4, s5, s6, s7⟩ := w
  exact ⟨fun c hc => (s1 c hc).trans (z c (by omega)).symm, fun a b ha hb hn => (s2 a b ha hb hn).trans (z _ (by omega)).symm, fun a b ha hb => (s3 a b ha hb).trans (z _ (by omega)).symm, fun j hj => (s4 j hj).trans (z _ (by omega)).symm, fun j hj => (s5 j hj).trans (z _ (by omega)).symm, s6.trans (z 94 (by decide)).symm, s7.trans (z 95 (by decide)).symm⟩
theorem RI_cg (h6 : cc ≤ 6) (h8 : gc ≤ 8) (z : ∀ k, k < 96 → r' k = r k) (w : RI cc gc r) : RI cc gc r' := by
  obtain ⟨s1, s2, s3, s4, s5⟩ := w
  refine ⟨fun c hc => ?_, fun a b ha hb hn => ?_, fun a b ha hb => ?_, fun j hj => ?_, fun k hk hk2 => ?_⟩
  · rw [z c (by omega)]
    exact s1 c hc
  · rw [z _ (by omega)]
    exact s2 a b ha hb hn
  · rw [z _ (by omega)]
    exact s3 a b ha hb
  · rw [z _ (by omega)]
    exact s4 j hj
  · rw [z 94 (by decide)]
    exact s5 k hk hk2
theorem RS_sg (h6 : cc ≤ 6) (h8 : gc ≤ 8) (z1 : ∀ k, k < 6 → g' k = g k) (z2 : ∀ k, k < 36 → e' k = e k) (z3 : ∀ k, k < 36 → d' k = d k) (z4 : ∀ k, k < 8 → hd' k = hd k) (z5 : ∀ k, k < 8 → ha' k = ha k) (w : RS cc gc g e d hd ha x m r) : RS cc gc g' e' d' hd' ha' x m r := by
  obtain ⟨s1, s2, s3, s4, s5, s6, s7⟩ := w
  exact ⟨fun c hc => (z1 c hc).trans (s1 c hc), fun a b ha hb hn => (z2 _ (by omega)).trans (s2 a b ha hb hn), fun a b ha hb => (z3 _ (by omega)).trans (s3 a b ha hb), fun j hj => (z4 j (by omega)).trans (s4 j hj), fun j hj => (z5 j (by omega)).trans (s5 j hj), s6, s7⟩
theorem RSb_e (z : ∀ i, b ≤ i → i < b + 6 → h' i = h i) (w : RSb cc gc b h r) : RSb cc gc b h' r := by
  unfold RSb
  rw [Ar_e (z (b + 1) (by omega) (by omega)), Ar_e (z (b + 2) (by omega) (by omega)), Ar_e (z (b + 3) (by omega) (by omega)), Ar_e (z (b + 4) (by omega) (by omega)), Ar_e (z (b + 5) (by omega) (by omega)), Fi_e (z b (by omega) (by omega)), Fi_e (z b (by omega) (by omega))]
  exact w
theorem RSb_cp (h6 : cc ≤ 6) (h8 : gc ≤ 8) (hs : isSt s = true) (hw : WT h) (w : RSb cc gc t h r) : RSb cc gc s (cp73 h s t) r := by
  unfold RSb
  rw [(cp73_f hs hw).1, (cp73_f hs hw).2]
  exact RS_sg h6 h8 (fun k hk => cp73_a (Or.inl ⟨rfl, rfl⟩) hk) (fun k hk => cp73_a (Or.inr (Or.inl ⟨rfl, rfl⟩)) hk) (fun k hk => cp73_a (Or.inr (Or.inr (Or.inl ⟨rfl, rfl⟩))) hk) (fun k hk => cp73_a (Or.inr (Or.inr (Or.inr (Or.inl ⟨rfl, rfl⟩)))) hk) (fun k hk => cp73_a (Or.inr (Or.inr (Or.inr (Or.inr ⟨rfl, rfl⟩)))) hk) w
/-- the reference puts the row now by -/
theorem v211_ar : Ar (v211 q cc gc h u) 170 = Ar h 170 ∧ (∀ k, k < 96 → Ar (v211 q cc gc h u) 178 (96 * u + k) = Ar h 170 k) ∧ ∀ x, (x < 96 * u ∨ 96 * u + 96 ≤ x) → Ar (v211 q cc gc h u) 178 x = Ar h 178 x := by
  have z := lp_in (f := fun i a => v211_2b q cc gc a u i) (P := fun i a => Ar a 170 = Ar h 170 ∧ (∀ k, k < i → Ar a 178 (96 * u + k) = Ar h 170 k) ∧ ∀ x, (x < 96 * u ∨ 96 * u + i ≤ x) → Ar a 178 x = Ar h 178 x) 96 0 h ⟨rfl, fun k hk => absurd hk (by omega), fun x _ => rfl⟩ (by
    intro k a _ _ p
    obtain ⟨p1, p2, p3⟩ := p
    refine ⟨?_, fun j hj => ?_, fun x hx => ?_⟩
    · show Ar (aset a 178 1536 (upd (Ar a 178) (96 * u + k) ((Ar a 170) k))) 170 = _
      rw [Ar_n (by decide)]
      exact p1
    · show Ar (aset a 178 1536 (upd (Ar a 178) (96 * u + k) ((Ar a 170) k))) 178 (96 * u + j) = _
      rw [Ar_s]
      by_cases y : j = k
      · rw [y, up_e rfl, p1]
      · rw [up_n (by omega)]
        exact p2 j (by omega)
    · show Ar (aset a 178 1536 (upd (Ar a 178) (96 * u + k) ((Ar a 170) k))) 178 x = _
      rw [Ar_s, up_n (by omega)]
      exact p3 x (by omega))
  exact ⟨z.1, fun k hk => z.2.1 k (by omega), fun x hx => z.2.2 x (by omega)⟩
theorem v212_s (y : Int32) : Ar (v212_21 q cc gc y 1440 0 h) 170 = Ar h 170 ∧ (∀ x, x < 1440 → Ar (v212_21 q cc gc y 1440 0 h) 178 x = Ar h 178 (x + 96)) := by
  have z := lp_in (f := fun i a => v212_21b q cc gc a y i) (P := fun i a => Ar a 170 = Ar h 170 ∧ (∀ x, x < i → Ar a 178 x = Ar h 178 (x + 96)) ∧ ∀ x, i ≤ x → Ar a 178 x = Ar h 178 x) 1440 0 h ⟨rfl, fun x hx => absurd hx (by omega), fun x _ => rfl⟩ (by
    intro k a _ _ p
    obtain ⟨p1, p2, p3⟩ := p
    refine ⟨?_, fun j hj => ?_, fun x hx => ?_⟩
    · show Ar (aset a 178 1536 (upd (Ar a 178) k ((Ar a 178) (k + 96)))) 170 = _
      rw [Ar_n (by decide)]
      exact p1
    · show Ar (aset a 178 1536 (upd (Ar a 178) k ((Ar a 178) (k + 96)))) 178 j = _
      rw [Ar_s]
      by_cases y : j = k
      · rw [y, up_e rfl]
        exact p3 _ (by omega)
      · rw [up_n y]
        exact p2 j (by omega)
    · show Ar (aset a 178 1536 (upd (Ar a 178) k ((Ar a 178) (k + 96)))) 178 x = _
      rw [Ar_s, up_n (by omega)]
      exact p3 x (by omega))
  exact ⟨z.1, fun x hx => z.2.1 x (by omega)⟩
/-- an act is counted -/
theorem v212_ar (hw : HC q cc gc h) (hu : u ≤ 15) : Fi (v212 q cc gc h u v).2 162 27 = nI (min (u + 1) 15) ∧ Ar (v212 q cc gc h u v).2 170 = Ar h 170 ∧ (u < 15 → Ar (v212 q cc gc h u v).2 178 = Ar h 178) ∧ (u = 15 → ∀ x, x < 1440 → Ar (v212 q cc gc h u v).2 178 x = Ar h 178 (x + 96)) := by
  unfold v212
  by_cases y : u + 1 ≤ 15
  · rw [decide_eq_true y]
    show Fi (fset h 162 27 (.int (nI (u + 1)))) 162 27 = nI (min (u + 1) 15) ∧ Ar (fset h 162 27 (.int (nI (u + 1)))) 170 = Ar h 170 ∧ (u < 15 → Ar (fset h 162 27 (.int (nI (u + 1)))) 178 = Ar h 178) ∧ (u = 15 → ∀ x, x < 1440 → Ar (fset h 162 27 (.int (nI (u + 1)))) 178 x = Ar h 178 (x + 96))
    refine ⟨?_, Ar_f, fun _ => Ar_f, fun z => absurd z (by omega)⟩
    rw [Fi_s hw.wt (by decide) rfl (by decide) rfl, show min (u + 1) 15 = u + 1 by omega]
  · rw [decide_eq_false y]
    have hu2 : u = 15 := by omega
    subst hu2
    have w1 : HC q cc gc (fset h 162 27 (.int (nI (15 + 1)))) := hc_f rfl rfl (by decide) rfl hw
    have w2 := (v212_21_fr (t1 := v) (j := 1440) (i := 0) w1).1
    obtain ⟨a1, a2⟩ := v212_s (q := q) (cc := cc) (gc := gc) (h := fset h 162 27 (.int (nI (15 + 1)))) v
    show Fi (fset (v212_21 q cc gc v 1440 0 (fset h 162 27 (.int (nI (15 + 1))))) 162 27 (.int ((nI (15 + 1)) - (nI 1)))) 162 27 = nI (min (15 + 1) 15) ∧ Ar (fset (v212_21 q cc gc v 1440 0 (fset h 162 27 (.int (nI (15 + 1))))) 162 27 (.int ((nI (15 + 1)) - (nI 1)))) 170 = Ar h 170 ∧ (15 < 15 → Ar (fset (v212_21 q cc gc v 1440 0 (fset h 162 27 (.int (nI (15 + 1))))) 162 27 (.int ((nI (15 + 1)) - (nI 1)))) 178 = Ar h 178) ∧ (15 = 15 → ∀ x, x < 1440 → Ar (fset (v212_21 q cc gc v 1440 0 (fset h 162 27 (.int (nI (15 + 1))))) 162 27 (.int ((nI (15 + 1)) - (nI 1)))) 178 x = Ar h 178 (x + 96))
    generalize v212_21 q cc gc v 1440 0 (fset h 162 27 (.int (nI (15 + 1)))) = G at w2 a1 a2 ⊢
    refine ⟨?_, ?_, fun z => absurd z (by omega), fun _ x hx => ?_⟩
    · rw [Fi_s w2.wt (by decide) rfl (by decide) rfl]
      decide
    · rw [Ar_f, a1, Ar_f]
    · rw [Ar_f, a2 x hx, Ar_f]
/-- a state is put by -/
theorem pa_push (h6 : cc ≤ 6) (h8 : gc ≤ 8) (hw : WT h) (hfi : fi < 16) (hsi : si ≤ 15) (pa : ∀ j, j < si → RSb cc gc (27 + 6 * ((fi + j) % 16)) h (fun k => Ar h 178 (96 * j + k)) ∧ RI cc gc (fun k => Ar h 178 (96 * j + k))) (s13 : RSb cc gc 13 h r) (ri : RI cc gc r) (cx : ∀ i, 27 ≤ i → i < 123 → h2 i = cp73 h (27 + 6 * ((fi + si) % 16)) 13 i) (f1 : Fi h2 25 1 = nI (if 15 ≤ si then (fi + 1) % 16 else fi)) (f2 : Fi h2 25 2 = nI (min (si + 1) 15)) (f3 : Fi h2 162 27 = nI (min (si + 1) 15)) (rows : ∀ j, j < min (si + 1) 15 → ∀ k, k < 96 → Ar h2 178 (96 * j + k) = if 15 ≤ si then (if j = 14 then r k else Ar h 178 (96 * (j + 1) + k)) else (if j = si then r k else Ar h 178 (96 * j + k))) : PA cc gc h2 := by
  have new : ∀ (rr : Nat → Int32), (∀ k, k < 96 → rr k = r k) → RSb cc gc (27 + 6 * ((fi + si) % 16)) h2 rr ∧ RI cc gc rr := by
    intro rr e
    refine ⟨RS_cg h6 h8 e (RSb_e (fun i h1 h2 => cx i (by omega) (by omega)) (RSb_cp h6 h8 (xst_27 (Nat.mod_lt _ (by decide))) hw s13)), RI_cg h6 h8 e ri⟩
  have old : ∀ (j : Nat) (rr : Nat → Int32), j < si → (fi + j) % 16 ≠ (fi + si) % 16 → (∀ k, k < 96 → rr k = Ar h 178 (96 * j + k)) → RSb cc gc (27 + 6 * ((fi + j) % 16)) h2 rr ∧ RI cc gc rr := by
    intro j rr hj ne e
    obtain ⟨p1, p2⟩ := pa j hj
    refine ⟨RS_cg h6 h8 e (RSb_e (fun i h1 h2 => ?_) p1), RI_cg h6 h8 e p2⟩
    rw [cx i (by omega) (by omega)]
    exact cp73_ne (by omega)
  by_cases z : 15 ≤ si
  · have hs : si = 15 := by omega
    refine ⟨(fi + 1) % 16, 15, Nat.mod_lt _ (by decide), Nat.le_refl _, ⟨?_, ?_, ?_⟩, fun j hj => ?_⟩
    · rw [f1, if_pos z]
    · rw [f2, show min (si + 1) 15 = 15 by omega]
    · rw [f3, show min (si + 1) 15 = 15 by omega]
    · have rw1 := rows j (by omega)
      have rw1 : ∀ k, k < 96 → Ar h2 178 (96 * j + k) = if j = 14 then r k else Ar h 178 (96 * (j + 1) + k) := fun k hk => (rw1 k hk).trans (if_pos z)
      by_cases y : j = 14
      · rw [show ((fi + 1) % 16 + j) % 16 = (fi + si) % 16 by omega]
        refine new _ (fun k hk => ?_)
        have e := rw1 k hk
        rw [if_pos y] at e
        exact e
      · rw [show ((fi + 1) % 16 + j) % 16 = (fi + (j + 1)) % 16 by omega]
        refine old (j + 1) _ (by omega) (by omega) (fun k hk => ?_)
        have e := rw1 k hk
        rw [if_neg y] at e
        exact e
  · refine ⟨fi, si + 1, hfi, by omega, ⟨?_, ?_, ?_⟩, fun j hj => ?_⟩
    · rw [f1, if_neg z]
    · rw [f2, show min (si + 1) 15 = si + 1 by omega]
    · rw [f3, show min (si + 1) 15 = si + 1 by omega]
    · have rw1 := rows j (by omega)
      have rw1 : ∀ k, k < 96 → Ar h2 178 (96 * j + k) = if j = si then r k else Ar h 178 (96 * j + k) := fun k hk => (rw1 k hk).trans (if_neg z)
      by_cases y : j = si
      · rw [y]
        refine new _ (fun k hk => ?_)
        have e := rw1 k hk
        rw [if_pos y] at e
        rw [← y]
        exact e
      · refine old j _ (by omega) (by omega) (fun k hk => ?_)
        have e := rw1 k hk
        rw [if_neg y] at e
        exact e
end PST
end MG95zzywx0
section MG95zzywx1
/-! an act of both sides: a state is put by, then changed -/
section ACT
variable {cc gc fi si : Nat} {q : QT} {h H X M1 h2 : pm_H} {v : Int32} {W WX WM W2 : List Nat} {V VX VM V2 : List (Nat × Nat)}
def AK : List Nat := [6, 7, 9, 10, 11, 143, 146, 160, 161, 164, 165, 166, 167, 168, 174, 191, 192, 196, 125, 126, 127, 128, 129, 131, 132, 133, 134, 135, 137, 138, 139, 140, 141]
def FK : List (Nat × Nat) := [(0, 7), (5, 0), (5, 1), (159, 0), (162, 47), (124, 5), (124, 6), (130, 5), (130, 6), (136, 5), (136, 6)]
def CK : List Nat := AK ++ [0, 5, 159, 124, 130, 136]
/-- SR behind a change of the state now and of what can be undone -/
theorem SR_act (c2 : HC q cc gc h2) (hq : q.1 = 142 ∨ q.1 = 145) (s : SRq q cc gc h) (ka : kpt AK h h2) (kf : kpf FK h h2) (k9 : k0f 9 h h2) (nw : RSb cc gc 13 h2 (Ar h2 170) ∧ RI cc gc (Ar h2 170)) (pa : PA cc gc h2) : SR h2 := by
  obtain ⟨⟨s4, ⟨fs, o1, o2⟩⟩, ⟨s1, s3, s5, s6, ⟨m, m1, ⟨m2, m3⟩, m4⟩⟩⟩ := s
  have eq1 : Ar h2 (q.1 + 1) = Ar h (q.1 + 1) := by
    rcases hq with e | e
    · rw [e]
      exact ka 143 rfl
    · rw [e]
      exact ka 146 rfl
  refine ⟨q, cc, gc, c2, ⟨⟨?_, k9 fs _ o1 o2⟩, ⟨nw, ?_, pa, fun i hi hk => ?_, ⟨m, m1, ⟨(kf 159 0 rfl).trans m2, (kf 162 47 rfl).trans m3⟩, fun j hj => ?_⟩⟩⟩⟩
  · rw [eq1, ka 174 rfl]
    exact s4
  · unfold RMm
    rw [ka 6 rfl, ka 7 rfl, ka 9 rfl, ka 10 rfl, ka 11 rfl, ka 164 rfl, ka 165 rfl, ka 166 rfl, ka 167 rfl, ka 168 rfl]
    exact s3
  · rw [kf 0 7 rfl] at hk
    obtain ⟨k1, k2⟩ := s6 i hi hk
    rw [ka 196 rfl]
    refine ⟨?_, k2⟩
    unfold RSb at k1 ⊢
    rcases (by omega : i = 0 ∨ i = 1 ∨ i = 2) with rfl | rfl | rfl
    · show RS cc gc (Ar h2 125) (Ar h2 126) (Ar h2 127) (Ar h2 128) (Ar h2 129) (Fi h2 124 5) (Fi h2 124 6) _
      rw [ka 125 rfl, ka 126 rfl, ka 127 rfl, ka 128 rfl, ka 129 rfl, kf 124 5 rfl, kf 124 6 rfl]
      exact k1
    · show RS cc gc (Ar h2 131) (Ar h2 132) (Ar h2 133) (Ar h2 134) (Ar h2 135) (Fi h2 130 5) (Fi h2 130 6) _
      rw [ka 131 rfl, ka 132 rfl, ka 133 rfl, ka 134 rfl, ka 135 rfl, kf 130 5 rfl, kf 130 6 rfl]
      exact k1
    · show RS cc gc (Ar h2 137) (Ar h2 138) (Ar h2 139) (Ar h2 140) (Ar h2 141) (Fi h2 136 5) (Fi h2 136 6) _
      rw [ka 137 rfl, ka 138 rfl, ka 139 rfl, ka 140 rfl, ka 141 rfl, kf 136 5 rfl, kf 136 6 rfl]
      exact k1
  · rw [ka 160 rfl, ka 161 rfl, ka 191 rfl, ka 192 rfl]
    exact m4 j hj
/-- the class has put its state by -/
def XP (q : QT) (cc gc fi si : Nat) (h H : pm_H) : Prop := ((∀ i, (i < 27 ∨ 123 ≤ i) → i ≠ 25 → H i = h i) ∧ ∀ i, 27 ≤ i → i < 123 → H i = cp73 h (27 + 6 * ((fi + si) % 16)) 13 i) ∧ (Fi H 25 1 = nI (if 15 ≤ si then (fi + 1) % 16 else fi) ∧ Fi H 25 2 = nI (min (si + 1) 15)) ∧ HC q cc gc H
theorem xp_cell {k : Nat} {x : Value} (i : Nat) (hi : i < 27 ∨ 123 ≤ i) (hn : i ≠ 25) : fset (cp73 h (27 + 6 * ((fi + si) % 16)) 13) 25 k x i = h i := (fs_ne hn).trans (cp73_ne (by omega))
theorem xp_1 (hc : HC q cc gc h) (z : 15 ≤ si) (hs : si ≤ 15) (e2 : Fi h 25 2 = nI si) : XP q cc gc fi si h (fset (cp73 h (27 + 6 * ((fi + si) % 16)) 13) 25 1 (.int (nI ((fi + 1) % 16)))) := by
  have c1 : HC q cc gc (cp73 h (27 + 6 * ((fi + si) % 16)) 13) := cp73_hc (xst_27 (Nat.mod_lt _ (by decide))) hc
  refine ⟨⟨fun i h1 h2 => xp_cell i h1 h2, fun i h1 h2 => fs_ne (by omega)⟩, ⟨?_, ?_⟩, hc_f rfl rfl (by decide) rfl c1⟩
  · rw [Fi_s c1.wt (by decide) rfl (by decide) rfl, if_pos z]
  · rw [Fi_n (Or.inr (by decide)), Fi_e (cp73_ne (by omega)), e2, show min (si + 1) 15 = si by omega]
theorem xp_0 (hc : HC q cc gc h) (z : ¬ 15 ≤ si) (e1 : Fi h 25 1 = nI fi) : XP q cc gc fi si h (fset (cp73 h (27 + 6 * ((fi + si) % 16)) 13) 25 2 (.int (nI (si + 1)))) := by
  have c1 : HC q cc gc (cp73 h (27 + 6 * ((fi + si) % 16)) 13) := cp73_hc (xst_27 (Nat.mod_lt _ (by decide))) hc
  refine ⟨⟨fun i h1 h2 => xp_cell i h1 h2, fun i h1 h2 => fs_ne (by omega)⟩, ⟨?_, ?_⟩, hc_f rfl rfl (by decide) rfl c1⟩
  · rw [Fi_n (Or.inr (by decide)), Fi_e (cp73_ne (by omega)), e1, if_neg z]
  · rw [Fi_s c1.wt (by decide) rfl (by decide) rfl, show min (si + 1) 15 = si + 1 by omega]
def actX (W : List Nat) : Bool := CK.all (fun a => !(W.elem a)) && (W.all (fun a => Nat.blt a 162) && (!(W.elem 25) && (List.range 96).all (fun j => !(W.elem (27 + j)))))
def actM (W : List Nat) (V : List (Nat × Nat)) : Bool := CK.all (fun a => !(W.elem a)) && (W.all (fun a => Nat.ble 162 a) && (!(W.elem 178) && (!(V.elem (162, 47)) && !(V.elem (162, 27)))))
theorem nel {a : Nat} (e : (!(W.elem a)) = true) : W.elem a = false := by simpa using e
theorem nel2 {p : Nat × Nat} (e : (!(V.elem p)) = true) : V.elem p = false := by simpa using e
theorem el_lt {a : Nat} (w : W.all (fun a => Nat.blt a 162) = true) (ha : 162 ≤ a) : W.elem a = false := by
  cases z : W.elem a with
  | false => rfl
  | true =>
    have := Nat.le_of_ble_eq_true (List.all_eq_true.mp w a (List.elem_iff.mp z))
    omega
theorem el_ge {a : Nat} (w : W.all (fun a => Nat.ble 162 a) = true) (ha : a < 162) : W.elem a = false := by
  cases z : W.elem a with
  | false => rfl
  | true =>
    have := Nat.le_of_ble_eq_true (List.all_eq_true.mp w a (List.elem_iff.mp z))
    omega
theorem CK_lo : CK.all (fun a => (Nat.blt a 27 || Nat.ble 123 a) && (!(Nat.beq a 25) && (!(Nat.beq a 162) && !(Nat.beq a 178)))) = true := by decide +kernel
theorem CK_of {a : Nat} (e : CK.elem a = true) : (a < 27 ∨ 123 ≤ a) ∧ a ≠ 25 ∧ a ≠ 162 ∧ a ≠ 178 := by
  have z := List.all_eq_true.mp CK_lo a (List.elem_iff.mp e)
  rw [Bool.and_eq_true, Bool.and_eq_true, Bool.and_eq_true, Bool.or_eq_true] at z
  obtain ⟨z1, z2, z3, z4⟩ := z
  have n : ∀ b : Nat, (!(Nat.beq a b)) = true → a ≠ b := fun b e y => by
    rw [y, Nat.beq_refl] at e
    cases e
  refine ⟨?_, n 25 z2, n 162 z3, n 178 z4⟩
  rcases z1 with z1 | z1
  · exact Or.inl (Nat.le_of_ble_eq_true z1)
  · exact Or.inr (Nat.le_of_ble_eq_true z1)
theorem act_sr (hc : HC q cc gc h) (s : SRq q cc gc h) (hfi : fi < 16) (hsi : si ≤ 15) (pa : ∀ j, j < si → RSb cc gc (27 + 6 * ((fi + j) % 16)) h (fun k => Ar h 178 (96 * j + k)) ∧ RI cc gc (fun k => Ar h 178 (96 * j + k))) (xp : XP q cc gc fi si h H) (fX : frm WX VX H X) (kX : actX WX = true) (cX : HC q cc gc X) (fM : frm WM VM (v211 q cc gc (fset X 162 0 (.int (nI 0))) si) M1) (kM : actM WM VM = true) (cM : HC q cc gc M1) (f2 : frm W2 V2 (v212 q cc gc M1 si v).2 h2) (k2 : actM W2 V2 = true) (k170 : W2.elem 170 = false) (c2 : HC q cc gc h2) (nw : RS cc gc (Ar X 14) (Ar X 15) (Ar X 16) (Ar X 17) (Ar X 18) (Fi X 13 5) (Fi X 13 6) (Ar M1 170) ∧ RI cc gc (Ar M1 170)) : SR h2 := by
  unfold actX at kX
  unfold actM at kM k2
  rw [Bool.and_eq_true, Bool.and_eq_true, Bool.and_eq_true] at kX
  rw [Bool.and_eq_true, Bool.and_eq_true, Bool.and_eq_true, Bool.and_eq_true] at kM k2
  obtain ⟨x1, x2, x3, x4⟩ := kX
  obtain ⟨y1, y2, y3, y4, y5⟩ := kM
  obtain ⟨z1, z2, z3, z4, z5⟩ := k2
  have cF : HC q cc gc (fset X 162 0 (.int (nI 0))) := hc_f rfl rfl (by decide) rfl cX
  have g1 := (v211_fr (u := si) cF hsi).2
  have g2 := (v212_fr (u := si) (v := v) cM hsi).2
  have ne2 : ∀ a, a ≠ 162 → a ≠ 178 → (List.elem a [162, 178]) = false := fun a h1 h2 => by
    cases z : List.elem a [162, 178] with
    | false => rfl
    | true =>
      have := List.elem_iff.mp z
      simp at this
      omega
  have ne1 : ∀ a, a ≠ 178 → (List.elem a [178]) = false := fun a h1 => by
    cases z : List.elem a [178] with
    | false => rfl
    | true =>
      have := List.elem_iff.mp z
      simp at this
      omega
  -- the class's cells behind its act
  have lo : ∀ a, a < 162 → h2 a = X a := fun a ha => ((f2.1 a (el_ge z2 ha)).trans (g2.1 a (ne2 a (by omega) (by omega)))).trans (((fM.1 a (el_ge y2 ha)).trans (g1.1 a (ne1 a (by omega)))).trans (fs_ne (by omega)))
  have cs : ∀ a, CK.elem a = true → h2 a = h a := fun a e => by
    obtain ⟨e1, e2, e3, e4⟩ := CK_of e
    have w := List.elem_iff.mp e
    exact (((f2.1 a (nel (List.all_eq_true.mp z1 a w))).trans (g2.1 a (ne2 a e3 e4))).trans (((fM.1 a (nel (List.all_eq_true.mp y1 a w))).trans (g1.1 a (ne1 a e4))).trans (fs_ne e3))).trans ((fX.1 a (nel (List.all_eq_true.mp x1 a w))).trans (xp.1.1 a e1 e2))
  have hiX : ∀ a, 162 ≤ a → X a = h a := fun a ha => (fX.1 a (el_lt x2 ha)).trans (xp.1.1 a (by omega) (by omega))
  have ka : kpt AK h h2 := fun a e => Ar_e (cs a (List.elem_iff.mpr (List.mem_append_left _ (List.elem_iff.mp e))))
  have f47 : Fi h2 162 47 = Fi h 162 47 := ((f2.2 162 47 rfl (nel2 z4)).trans (g2.2 162 47 rfl rfl)).trans (((fM.2 162 47 rfl (nel2 y4)).trans (g1.2 162 47 rfl rfl)).trans ((Fi_n (Or.inr (by decide))).trans (Fi_e (hiX 162 (by decide)))))
  have kf : kpf FK h h2 := by
    intro c g e
    have e := List.elem_iff.mp e
    simp only [FK, List.mem_cons, Prod.mk.injEq, List.not_mem_nil, or_false] at e
    rcases e with ⟨rfl, rfl⟩ | ⟨rfl, rfl⟩ | ⟨rfl, rfl⟩ | ⟨rfl, rfl⟩ | ⟨rfl, rfl⟩ | ⟨rfl, rfl⟩ | ⟨rfl, rfl⟩ | ⟨rfl, rfl⟩ | ⟨rfl, rfl⟩ | ⟨rfl, rfl⟩ | ⟨rfl, rfl⟩
    · exact Fi_e (cs 0 rfl)
    · exact Fi_e (cs 5 rfl)
    · exact Fi_e (cs 5 rfl)
    · exact Fi_e (cs 159 rfl)
    · exact f47
    · exact Fi_e (cs 124 rfl)
    · exact Fi_e (cs 124 rfl)
    · exact Fi_e (cs 130 rfl)
    · exact Fi_e (cs 130 rfl)
    · exact Fi_e (cs 136 rfl)
    · exact Fi_e (cs 136 rfl)
  have k9 : k0f 9 h h2 := fun fs p e1 e2 => ⟨fs, (cs 0 rfl).trans e1, e2⟩
  obtain ⟨w1, w2, w3, w4⟩ := v212_ar (v := v) cM hsi
  have e170 : Ar h2 170 = Ar M1 170 := (Ar_e (f2.1 170 k170)).trans w2
  have nw2 : RSb cc gc 13 h2 (Ar h2 170) ∧ RI cc gc (Ar h2 170) := by
    rw [e170]
    refine ⟨?_, nw.2⟩
    unfold RSb
    rw [Ar_e (lo (13 + 1) (by decide)), Ar_e (lo (13 + 2) (by decide)), Ar_e (lo (13 + 3) (by decide)), Ar_e (lo (13 + 4) (by decide)), Ar_e (lo (13 + 5) (by decide)), Fi_e (lo 13 (by decide)), Fi_e (lo 13 (by decide))]
    exact nw.1
  have x25 : h2 25 = H 25 := (lo 25 (by decide)).trans (fX.1 25 (nel x3))
  obtain ⟨v1, v2, v3⟩ := v211_ar (q := q) (cc := cc) (gc := gc) (h := fset X 162 0 (.int (nI 0))) (u := si)
  have m178 : Ar M1 178 = Ar (v211 q cc gc (fset X 162 0 (.int (nI 0))) si) 178 := Ar_e (fM.1 178 (nel y3))
  have b170 : Ar (fset X 162 0 (.int (nI 0))) 170 = Ar h 170 := Ar_f.trans (Ar_e (hiX 170 (by decide)))
  have b178 : Ar (fset X 162 0 (.int (nI 0))) 178 = Ar h 178 := Ar_f.trans (Ar_e (hiX 178 (by decide)))
  have h178 : Ar h2 178 = Ar (v212 q cc gc M1 si v).2 178 := Ar_e (f2.1 178 (nel z3))
  refine SR_act c2 hc.qq s ka kf k9 nw2 (pa_push hc.cb hc.gb hc.wt hfi hsi pa s.2.1.1 s.2.1.2 (fun i h1 h3 => ?_) ?_ ?_ ?_ (fun j hj k hk => ?_))
  · have e := List.all_eq_true.mp x4 (i - 27) (List.mem_range.mpr (by omega))
    rw [show 27 + (i - 27) = i by omega] at e
    exact ((lo i (by omega)).trans (fX.1 i (nel e))).trans (xp.1.2 i h1 h3)
  · exact (Fi_e x25).trans xp.2.1.1
  · exact (Fi_e x25).trans xp.2.1.2
  · exact (f2.2 162 27 rfl (nel2 z5)).trans w1
  · rw [h178]
    by_cases z : 15 ≤ si
    · have hs : si = 15 := by omega
      rw [if_pos z, w4 hs _ (by omega), m178, show 96 * j + k + 96 = 96 * (j + 1) + k by omega]
      by_cases y : j = 14
      · rw [if_pos y, show 96 * (j + 1) + k = 96 * si + k by omega, v2 k hk, b170]
      · rw [if_neg y, v3 _ (by omega), b178]
    · rw [if_neg z, w3 (by omega), m178]
      by_cases y : j = si
      · rw [if_pos y, y, v2 k hk, b170]
      · rw [if_neg y, v3 _ (by omega), b178]
end ACT
end MG95zzywx1
section MG95zzywx2
/-! SR behind acts -/
section SND
variable {cc gc fi si g c F u : Nat} {q : QT} {h H X h1 h2 : pm_H} {v : Int32}
theorem CK_un : CK.all (fun a => decide (a ≠ 170 ∧ a ≠ 162 ∧ a ≠ 25 ∧ (a < 13 ∨ 19 ≤ a))) = true := by decide +kernel
/-- the states from which an act starts: the class's behind what it put by, the reference's behind what it put by -/
theorem push_rel (s : SRq q cc gc h) (hq : q.1 = 142 ∨ q.1 = 145) (xp : XP q cc gc fi si h H) (hiX : ∀ a, 162 ≤ a → X a = h a) (cX : HC q cc gc X) (hsi : si ≤ 15) : (RS cc gc (Ar H 14) (Ar H 15) (Ar H 16) (Ar H 17) (Ar H 18) (Fi H 13 5) (Fi H 13 6) (Ar (v211 q cc gc (fset X 162 0 (.int (nI 0))) si) 170) ∧ RI cc gc (Ar (v211 q cc gc (fset X 162 0 (.int (nI 0))) si) 170)) ∧ RMm cc gc H (v211 q cc gc (fset X 162 0 (.int (nI 0))) si) ∧ VR q cc gc (Ar H (q.1 + 1)) (Ar (v211 q cc gc (fset X 162 0 (.int (nI 0))) si) 174) ∧ HC q cc gc (v211 q cc gc (fset X 162 0 (.int (nI 0))) si) := by
  have cF : HC q cc gc (fset X 162 0 (.int (nI 0))) := hc_f rfl rfl (by decide) rfl cX
  obtain ⟨c0, g0⟩ := v211_fr (u := si) cF hsi
  have em : ∀ a, 162 < a → (List.elem a [178]) = false → Ar (v211 q cc gc (fset X 162 0 (.int (nI 0))) si) a = Ar h a := fun a ha e => (Ar_e (g0.1 a e)).trans (Ar_f.trans (Ar_e (hiX a (by omega))))
  have ex : ∀ a, (a < 27 ∨ 123 ≤ a) → a ≠ 25 → Ar H a = Ar h a := fun a h1 h2 => Ar_e (xp.1.1 a h1 h2)
  have ef : ∀ g, Fi H 13 g = Fi h 13 g := fun g => Fi_e (xp.1.1 13 (by decide) (by decide))
  obtain ⟨⟨s4, -⟩, ⟨s1, s2⟩, s3, -⟩ := s
  have eq1 : Ar H (q.1 + 1) = Ar h (q.1 + 1) := ex _ (by omega) (by omega)
  refine ⟨⟨?_, ?_⟩, ?_, ?_, c0⟩
  · rw [ex 14 (by decide) (by decide), ex 15 (by decide) (by decide), ex 16 (by decide) (by decide), ex 17 (by decide) (by decide), ex 18 (by decide) (by decide), ef, ef, em 170 (by decide) rfl]
    exact s1
  · rw [em 170 (by decide) rfl]
    exact s2
  · unfold RMm
    rw [ex 6 (by decide) (by decide), ex 7 (by decide) (by decide), ex 9 (by decide) (by decide), ex 10 (by decide) (by decide), ex 11 (by decide) (by decide), em 164 (by decide) rfl, em 165 (by decide) rfl, em 166 (by decide) rfl, em 167 (by decide) rfl, em 168 (by decide) rfl]
    exact s3
  · rw [eq1, em 174 (by decide) rfl]
    exact s4
theorem ge_0 {x : Int32} (e : 0 ≤ x.toInt) : pm_cmp .ge x 0 = true ∧ pm_cmp .lt x 0 = false := by
  have e1 := lt0_val e
  refine ⟨?_, e1⟩
  cases z : pm_cmp .ge x 0 with
  | true => rfl
  | false =>
    have a : ¬ (0 : Int32) ≤ x := of_decide_eq_false z
    rw [Int32.le_iff_toInt_le] at a
    exact absurd e a
/-- send: the reference's end behind its row -/
theorem v222_end {M0 : pm_H} (cM : HC q cc gc (v217 q cc gc M0 g c).2) (hu : u ≤ 15) (e0 : 0 ≤ (v217 q cc gc M0 g c).1.toInt) (e : v211 q cc gc (fset h1 162 0 (.int (nI 0))) u = M0) : (v222 q cc gc h1 u g c).1 = (v217 q cc gc M0 g c).1 ∧ frm [162, 163] [(162, 1)] (v212 q cc gc (v217 q cc gc M0 g c).2 u (v217 q cc gc M0 g c).1).2 (v222 q cc gc h1 u g c).2 := by
  unfold v222
  rw [e]
  generalize v217 q cc gc M0 g c = z at cM e0 ⊢
  obtain ⟨z1, z2⟩ := z
  dsimp only at cM e0 ⊢
  obtain ⟨y1, y2⟩ := ge_0 e0
  have e3 : v213 q cc gc z2 u z1 = v212 q cc gc z2 u z1 := by
    unfold v213
    rw [y1]
    rfl
  have e4 : (v212 q cc gc z2 u z1).1 = z1 := by
    unfold v212
    cases decide (u + 1 ≤ 15) <;> rfl
  have c2 := (v212_fr (v := z1) cM hu).1
  rw [e3, e4, y2]
  have c3 : HC q cc gc (fset (v212 q cc gc z2 u z1).2 162 1 (.int (nI 0))) := hc_f rfl rfl (by decide) rfl c2
  obtain ⟨c4, f4⟩ := v167_fr (v := (Fi z2 162 29).toInt64) c3
  obtain ⟨c5, f5⟩ := v167_fr (v := (Fi z2 162 30).toInt64) c4
  exact ⟨rfl, fr_g rfl rfl f5 (fr_g rfl rfl f4 (fr_f rfl rfl fr_0))⟩
/-- send -/
theorem snd_sr {A B : Int64} (hc : HC q cc gc h) (s : SRq q cc gc h) (hfi : fi < 16) (hsi : si ≤ 15) (pa : ∀ j, j < si → RSb cc gc (27 + 6 * ((fi + j) % 16)) h (fun k => Ar h 178 (96 * j + k)) ∧ RI cc gc (fun k => Ar h 178 (96 * j + k))) (xp : XP q cc gc fi si h H) (hg : g < gc) (hcc : c < cc) (hF : F < cc) (eF : Ar h 170 (78 + g) = nI F) (hn : F ≠ c) (e1 : h1 = v56 q cc gc (v40 q cc gc (v39 q cc gc H g c).2 g c (v39 q cc gc H g c).1) A B) (c2 : HC q cc gc (v222 q cc gc h1 si g c).2) : SR (v222 q cc gc h1 si g c).2 ∧ (v222 q cc gc h1 si g c).1 = Ar (v40 q cc gc (v39 q cc gc H g c).2 g c (v39 q cc gc H g c).1) 15 (c * 6 + F) := by
  obtain ⟨c39, f39⟩ := v39_fr (g := g) (c := c) xp.2.2
  obtain ⟨c40, f40⟩ := v40_fr (g := g) (c := c) (v := (v39 q cc gc H g c).1) c39
  obtain ⟨c56, f56⟩ := v56_fr (v := A) (w := B) c40
  rw [← e1] at c56 f56
  have fX : frm [3, 4, 12, 15, 16, 17, 18, 142, 144, 145, 147] [(3, 1), (142, 3), (145, 3)] H h1 := fr_g rfl rfl f56 (fr_g rfl rfl f40 (fr_g rfl rfl f39 fr_0))
  have hiX : ∀ a, 162 ≤ a → h1 a = h a := fun a ha => (fX.1 a (el_lt rfl ha)).trans (xp.1.1 a (by omega) (by omega))
  obtain ⟨⟨r1, r2⟩, r3, r4, c0⟩ := push_rel s hc.qq xp hiX c56 hsi
  have e170 : Ar (v211 q cc gc (fset h1 162 0 (.int (nI 0))) si) 170 = Ar h 170 := (v211_ar (q := q) (cc := cc) (gc := gc) (h := fset h1 162 0 (.int (nI 0))) (u := si)).1.trans (Ar_f.trans (Ar_e (hiX 170 (by decide))))
  have hV : (v39 q cc gc H g c).1 = (v201 q cc gc (v211 q cc gc (fset h1 162 0 (.int (nI 0))) si) g c).1 := val_eq xp.2.2 c0 r4 r3 r1 r2.2.2.2.1 hg hcc
  generalize eM : v211 q cc gc (fset h1 162 0 (.int (nI 0))) si = M0 at *
  have ea : ∀ a, (List.elem a [12, 142, 144, 145, 147]) = false → Ar (v39 q cc gc H g c).2 a = Ar H a := fun a e => Ar_e (f39.1 a e)
  have ef : ∀ k, Fi (v39 q cc gc H g c).2 13 k = Fi H 13 k := fun k => Fi_e (f39.1 13 rfl)
  have r5 : RS cc gc (Ar (v39 q cc gc H g c).2 14) (Ar (v39 q cc gc H g c).2 15) (Ar (v39 q cc gc H g c).2 16) (Ar (v39 q cc gc H g c).2 17) (Ar (v39 q cc gc H g c).2 18) (Fi (v39 q cc gc H g c).2 13 5) (Fi (v39 q cc gc H g c).2 13 6) (Ar M0 170) := by
    rw [ea 14 rfl, ea 15 rfl, ea 16 rfl, ea 17 rfl, ea 18 rfl, ef, ef]
    exact r1
  obtain ⟨n1, n2, n3, n4⟩ := send_rel c39 r5 r2 hV hg hcc hF ((congrFun e170 _).trans eF) hn
  obtain ⟨cM, fM⟩ := v217_fr (g := g) (c := c) c0
  obtain ⟨w1, w2⟩ := v222_end cM hsi n4 eM
  have fM2 : frm [162, 170, 176, 177] [(162, 29), (162, 30)] (v211 q cc gc (fset h1 162 0 (.int (nI 0))) si) (v217 q cc gc M0 g c).2 := by
    rw [eM]
    exact fM
  refine ⟨act_sr (v := (v217 q cc gc M0 g c).1) hc s hfi hsi pa xp fX (by decide) c56 fM2 (by decide) cM w2 (by decide) rfl c2 ⟨?_, n2⟩, w1.trans n3⟩
  have eb : ∀ a, (List.elem a [3, 4]) = false → Ar h1 a = Ar (v40 q cc gc (v39 q cc gc H g c).2 g c (v39 q cc gc H g c).1) a := fun a e => Ar_e (f56.1 a e)
  rw [eb 14 rfl, eb 15 rfl, eb 16 rfl, eb 17 rfl, eb 18 rfl, Fi_e (f56.1 13 rfl), Fi_e (f56.1 13 rfl), Ar_e (f40.1 14 rfl), Fi_e (f40.1 13 rfl), Fi_e (f40.1 13 rfl)]
  exact n1
/-- what an act of the class leaves: from the frames -/
theorem hiX_of {W : List Nat} {V : List (Nat × Nat)} (xp : XP q cc gc fi si h H) (fX : frm W V H h1) (w : W.all (fun a => Nat.blt a 162) = true) : ∀ a, 162 ≤ a → h1 a = h a := fun a ha => (fX.1 a (el_lt w ha)).trans (xp.1.1 a (by omega) (by omega))
theorem v213_ge {x : Int32} (e : 0 ≤ x.toInt) : v213 q cc gc h u x = v212 q cc gc h u x := by
  unfold v213
  rw [(ge_0 e).1]
  rfl
theorem v212_v {x : Int32} : (v212 q cc gc h u x).1 = x := by
  unfold v212
  cases decide (u + 1 ≤ 15) <;> rfl
/-- envoy -/
theorem env_sr {a b : Nat} {m : Int32} (hc : HC q cc gc h) (s : SRq q cc gc h) (hfi : fi < 16) (hsi : si ≤ 15) (pa : ∀ j, j < si → RSb cc gc (27 + 6 * ((fi + j) % 16)) h (fun k => Ar h 178 (96 * j + k)) ∧ RI cc gc (fun k => Ar h 178 (96 * j + k))) (xp : XP q cc gc fi si h H) (ha : a < cc) (hb : b < cc) (hab : a ≠ b) (hP : pP cc (nI a) (nI b) = true) (hi : in_b (m.toInt64) (-9 : Int64) (9 : Int64) = true) (hm : pm_cmp .ne m 0 = true) (c2 : HC q cc gc (v224 q cc gc (v138 q cc gc H a b m) si a b m).2) : SR (v224 q cc gc (v138 q cc gc H a b m) si a b m).2 ∧ (v224 q cc gc (v138 q cc gc H a b m) si a b m).1 = Ar (v138 q cc gc H a b m) 15 (a * 6 + b) := by
  have c1 : HC q cc gc (v138 q cc gc H a b m) := hc_a rfl rfl xp.2.2
  have fX : frm [15] [] H (v138 q cc gc H a b m) := fr_a rfl rfl fr_0
  have x15 : Ar (v138 q cc gc H a b m) 15 = upd (Ar H 15) (a * 6 + b) (imax (nI 0) (imin (nI 20) (Ar H 15 (a * 6 + b) + m))) := Ar_s
  have hiX := hiX_of xp fX rfl
  generalize v138 q cc gc H a b m = h1 at *
  obtain ⟨⟨r1, r2⟩, -, -, c0⟩ := push_rel s hc.qq xp hiX c1 hsi
  have nn : v224 q cc gc h1 si a b m = ((v213 q cc gc (v220 q cc gc (v211 q cc gc (fset h1 162 0 (.int (nI 0))) si) a b m).2 si (v220 q cc gc (v211 q cc gc (fset h1 162 0 (.int (nI 0))) si) a b m).1).1, (v213 q cc gc (v220 q cc gc (v211 q cc gc (fset h1 162 0 (.int (nI 0))) si) a b m).2 si (v220 q cc gc (v211 q cc gc (fset h1 162 0 (.int (nI 0))) si) a b m).1).2) := rfl
  rw [nn] at c2 ⊢
  generalize eM : v211 q cc gc (fset h1 162 0 (.int (nI 0))) si = M0 at *
  obtain ⟨n1, n2⟩ := env_rel (y := m) hc.cb hc.gb r1 r2 ha hb hab
  have e220 : v220 q cc gc M0 a b m = (imax (nI 0) (imin (nI 20) (Ar M0 170 (6 + 6 * a + b) + m)), aset M0 170 96 (upd (Ar M0 170) (6 + 6 * a + b) (imax (nI 0) (imin (nI 20) (Ar M0 170 (6 + 6 * a + b) + m))))) := by
    unfold v220
    rw [hP, hi, hm]
    show (upd (Ar M0 170) (6 + 6 * a + b) (imax (nI 0) (imin (nI 20) (Ar M0 170 (6 + 6 * a + b) + m))) (6 + 6 * a + b), _) = _
    rw [up_e rfl]
  rw [e220] at c2 ⊢
  have cM : HC q cc gc (aset M0 170 96 (upd (Ar M0 170) (6 + 6 * a + b) (imax (nI 0) (imin (nI 20) (Ar M0 170 (6 + 6 * a + b) + m))))) := hc_a rfl rfl c0
  have fM : frm [170] [] (v211 q cc gc (fset h1 162 0 (.int (nI 0))) si) (aset M0 170 96 (upd (Ar M0 170) (6 + 6 * a + b) (imax (nI 0) (imin (nI 20) (Ar M0 170 (6 + 6 * a + b) + m))))) := by
    rw [eM]
    exact fr_a rfl rfl fr_0
  have m170 : Ar (aset M0 170 96 (upd (Ar M0 170) (6 + 6 * a + b) (imax (nI 0) (imin (nI 20) (Ar M0 170 (6 + 6 * a + b) + m))))) 170 = upd (Ar M0 170) (6 + 6 * a + b) (imax (nI 0) (imin (nI 20) (Ar M0 170 (6 + 6 * a + b) + m))) := Ar_s
  have e15 : Ar H 15 (a * 6 + b) = Ar M0 170 (6 + 6 * a + b) := r1.2.1 a b ha hb hab
  generalize aset M0 170 96 (upd (Ar M0 170) (6 + 6 * a + b) (imax (nI 0) (imin (nI 20) (Ar M0 170 (6 + 6 * a + b) + m)))) = M1 at *
  dsimp only at c2 ⊢
  rw [v213_ge (clamp_i (by decide)).1] at c2 ⊢
  refine ⟨act_sr hc s hfi hsi pa xp fX (by decide) c1 fM (by decide) cM fr_0 (W2 := []) (V2 := []) (by decide) rfl c2 ⟨?_, ?_⟩, ?_⟩
  · rw [m170, x15, Ar_e (fX.1 14 rfl), Ar_e (fX.1 16 rfl), Ar_e (fX.1 17 rfl), Ar_e (fX.1 18 rfl), Fi_e (fX.1 13 rfl), Fi_e (fX.1 13 rfl)]
    exact n1
  · rw [m170]
    exact n2
  · rw [v212_v, x15, up_e rfl, e15]
/-- forgive -/
theorem fgv_sr {a b : Nat} (hc : HC q cc gc h) (s : SRq q cc gc h) (hfi : fi < 16) (hsi : si ≤ 15) (pa : ∀ j, j < si → RSb cc gc (27 + 6 * ((fi + j) % 16)) h (fun k => Ar h 178 (96 * j + k)) ∧ RI cc gc (fun k => Ar h 178 (96 * j + k))) (xp : XP q cc gc fi si h H) (ha : a < cc) (hb : b < cc) (hP : pP cc (nI a) (nI b) = true) (hm : pm_cmp .ne (Ar H 16 (a * 6 + b)) 0 = true) (c2 : HC q cc gc (v225 q cc gc (aset H 16 36 (upd (Ar H 16) (a * 6 + b) (nI 0))) si a b).2) : SR (v225 q cc gc (aset H 16 36 (upd (Ar H 16) (a * 6 + b) (nI 0))) si a b).2 ∧ (v225 q cc gc (aset H 16 36 (upd (Ar H 16) (a * 6 + b) (nI 0))) si a b).1 = Ar H 16 (a * 6 + b) := by
  have c1 : HC q cc gc (aset H 16 36 (upd (Ar H 16) (a * 6 + b) (nI 0))) := hc_a rfl rfl xp.2.2
  have fX : frm [16] [] H (aset H 16 36 (upd (Ar H 16) (a * 6 + b) (nI 0))) := fr_a rfl rfl fr_0
  have x16 : Ar (aset H 16 36 (upd (Ar H 16) (a * 6 + b) (nI 0))) 16 = upd (Ar H 16) (a * 6 + b) (nI 0) := Ar_s
  have hiX := hiX_of xp fX rfl
  generalize aset H 16 36 (upd (Ar H 16) (a * 6 + b) (nI 0)) = h1 at *
  obtain ⟨⟨r1, r2⟩, -, -, c0⟩ := push_rel s hc.qq xp hiX c1 hsi
  have nn : v225 q cc gc h1 si a b = ((v213 q cc gc (v221 q cc gc (v211 q cc gc (fset h1 162 0 (.int (nI 0))) si) a b).2 si (v221 q cc gc (v211 q cc gc (fset h1 162 0 (.int (nI 0))) si) a b).1).1, (v213 q cc gc (v221 q cc gc (v211 q cc gc (fset h1 162 0 (.int (nI 0))) si) a b).2 si (v221 q cc gc (v211 q cc gc (fset h1 162 0 (.int (nI 0))) si) a b).1).2) := rfl
  rw [nn] at c2 ⊢
  generalize eM : v211 q cc gc (fset h1 162 0 (.int (nI 0))) si = M0 at *
  have h6 := hc.cb
  obtain ⟨n1, n2⟩ := fgv_rel hc.cb hc.gb r1 r2 ha hb
  have e16 : Ar H 16 (a * 6 + b) = Ar M0 170 (42 + 6 * a + b) := r1.2.2.1 a b (by omega) (by omega)
  have i16 := (r2.2.2.1 a b (by omega) (by omega)).1.1
  have e221 : v221 q cc gc M0 a b = (Ar M0 170 (42 + 6 * a + b), aset M0 170 96 (upd (Ar M0 170) (42 + 6 * a + b) (nI 0))) := by
    unfold v221
    rw [hP, ← e16, hm]
    rfl
  rw [e221] at c2 ⊢
  have cM : HC q cc gc (aset M0 170 96 (upd (Ar M0 170) (42 + 6 * a + b) (nI 0))) := hc_a rfl rfl c0
  have fM : frm [170] [] (v211 q cc gc (fset h1 162 0 (.int (nI 0))) si) (aset M0 170 96 (upd (Ar M0 170) (42 + 6 * a + b) (nI 0))) := by
    rw [eM]
    exact fr_a rfl rfl fr_0
  have m170 : Ar (aset M0 170 96 (upd (Ar M0 170) (42 + 6 * a + b) (nI 0))) 170 = upd (Ar M0 170) (42 + 6 * a + b) (nI 0) := Ar_s
  generalize aset M0 170 96 (upd (Ar M0 170) (42 + 6 * a + b) (nI 0)) = M1 at *
  dsimp only at c2 ⊢
  rw [v213_ge i16] at c2 ⊢
  refine ⟨act_sr hc s hfi hsi pa xp fX (by decide) c1 fM (by decide) cM fr_0 (W2 := []) (V2 := []) (by decide) rfl c2 ⟨?_, ?_⟩, ?_⟩
  · rw [m170, x16, Ar_e (fX.1 14 rfl), Ar_e (fX.1 15 rfl), Ar_e (fX.1 17 rfl), Ar_e (fX.1 18 rfl), Fi_e (fX.1 13 rfl), Fi_e (fX.1 13 rfl)]
    exact n1
  · rw [m170]
    exact n2
  · rw [v212_v, e16]
/-- some months of both sides -/
def MJ (q : QT) (cc gc : Nat) (H M0 : pm_H) (_ : Nat) (a b : pm_H) : Prop := (HC q cc gc a ∧ HC q cc gc b) ∧ (frm [13, 14] [(13, 5), (13, 6)] H a ∧ frm [170] [] M0 b) ∧ RS cc gc (Ar a 14) (Ar a 15) (Ar a 16) (Ar a 17) (Ar a 18) (Fi a 13 5) (Fi a 13 6) (Ar b 170) ∧ RI cc gc (Ar b 170)
theorem mon_lp {M0 : pm_H} (c1 : HC q cc gc H) (c0 : HC q cc gc M0) (r1 : RS cc gc (Ar H 14) (Ar H 15) (Ar H 16) (Ar H 17) (Ar H 18) (Fi H 13 5) (Fi H 13 6) (Ar M0 170)) (r2 : RI cc gc (Ar M0 170)) (rm : RMm cc gc H M0) (m : Nat) : MJ q cc gc H M0 (0 + m) (lp (fun _ a => v42 q cc gc a) m 0 H) (lp (fun _ a => v219 q cc gc a) m 0 M0) := by
  refine lp_rl (P := MJ q cc gc H M0) m 0 H M0 ⟨⟨c1, c0⟩, ⟨fr_0, fr_0⟩, r1, r2⟩ (fun k a b _ _ p => ?_)
  obtain ⟨⟨p1, p2⟩, ⟨p3, p4⟩, p5, p6⟩ := p
  have rm2 : RMm cc gc a b := by
    unfold RMm
    rw [Ar_e (p3.1 6 rfl), Ar_e (p3.1 7 rfl), Ar_e (p3.1 9 rfl), Ar_e (p3.1 10 rfl), Ar_e (p3.1 11 rfl), Ar_e (p4.1 164 rfl), Ar_e (p4.1 165 rfl), Ar_e (p4.1 166 rfl), Ar_e (p4.1 167 rfl), Ar_e (p4.1 168 rfl)]
    exact rm
  obtain ⟨n1, n2⟩ := mon_rel p1 p2 rm2 p5 p6
  obtain ⟨a1, a2⟩ := v42_fr p1
  obtain ⟨b1, b2⟩ := v219_fr p2
  refine ⟨⟨a1, b1⟩, ⟨fr_g rfl rfl a2 p3, fr_g rfl rfl b2 p4⟩, ?_, n2⟩
  rw [Ar_e (a2.1 15 rfl), Ar_e (a2.1 16 rfl), Ar_e (a2.1 17 rfl), Ar_e (a2.1 18 rfl)]
  exact n1
/-- months -/
theorem mon_sr {m : Nat} {A B : Int64} (hc : HC q cc gc h) (s : SRq q cc gc h) (hfi : fi < 16) (hsi : si ≤ 15) (pa : ∀ j, j < si → RSb cc gc (27 + 6 * ((fi + j) % 16)) h (fun k => Ar h 178 (96 * j + k)) ∧ RI cc gc (fun k => Ar h 178 (96 * j + k))) (xp : XP q cc gc fi si h H) (hin : in_b ((nI m).toInt64) (Int64.ofNat 0) (60 : Int64) = true) (e1 : h1 = v56 q cc gc (v140 q cc gc H m) A B) (c2 : HC q cc gc (v223 q cc gc h1 si m).2) : SR (v223 q cc gc h1 si m).2 ∧ (v223 q cc gc h1 si m).1 = v270 q cc gc ((Fi (v140 q cc gc H m) 13 5) &&& ((Fi h 13 5) ^^^ (Int32.ofInt (-1)))) := by
  obtain ⟨c140, f140⟩ := v140_fr (m := m) xp.2.2
  obtain ⟨c56, f56⟩ := v56_fr (v := A) (w := B) c140
  rw [← e1] at c56 f56
  have fX : frm [3, 4, 13, 14] [(3, 1), (13, 5), (13, 6)] H h1 := fr_g rfl rfl f56 (fr_g rfl rfl f140 fr_0)
  have hiX := hiX_of xp fX rfl
  obtain ⟨⟨r1, r2⟩, r3, -, c0⟩ := push_rel s hc.qq xp hiX c56 hsi
  have a94 : Ar h1 170 94 = Fi h 13 5 := by
    rw [Ar_e (hiX 170 (by decide))]
    exact (s.2.1.1.2.2.2.2.2.1).symm
  have nn : v223 q cc gc h1 si m = cond (in_b ((nI m).toInt64) (Int64.ofNat 0) (60 : Int64)) ((v212 q cc gc (v167 q cc gc (v167 q cc gc (fset (v223_33 q cc gc si m ((Ar h1 170) 94) m 0 (v211 q cc gc (fset h1 162 0 (.int (nI 0))) si)) 162 1 (.int (nI 0))) ((((Ar (v223_33 q cc gc si m ((Ar h1 170) 94) m 0 (v211 q cc gc (fset h1 162 0 (.int (nI 0))) si)) 170) 94) &&& (((Ar h1 170) 94) ^^^ (Int32.ofInt (-1)))).toInt64)) ((v177 q cc gc (Ar (v223_33 q cc gc si m ((Ar h1 170) 94) m 0 (v211 q cc gc (fset h1 162 0 (.int (nI 0))) si)) 170)).toInt64)) si (v270 q cc gc (((Ar (v223_33 q cc gc si m ((Ar h1 170) 94) m 0 (v211 q cc gc (fset h1 162 0 (.int (nI 0))) si)) 170) 94) &&& (((Ar h1 170) 94) ^^^ (Int32.ofInt (-1)))))).1, (v212 q cc gc (v167 q cc gc (v167 q cc gc (fset (v223_33 q cc gc si m ((Ar h1 170) 94) m 0 (v211 q cc gc (fset h1 162 0 (.int (nI 0))) si)) 162 1 (.int (nI 0))) ((((Ar (v223_33 q cc gc si m ((Ar h1 170) 94) m 0 (v211 q cc gc (fset h1 162 0 (.int (nI 0))) si)) 170) 94) &&& (((Ar h1 170) 94) ^^^ (Int32.ofInt (-1)))).toInt64)) ((v177 q cc gc (Ar (v223_33 q cc gc si m ((Ar h1 170) 94) m 0 (v211 q cc gc (fset h1 162 0 (.int (nI 0))) si)) 170)).toInt64)) si (v270 q cc gc (((Ar (v223_33 q cc gc si m ((Ar h1 170) 94) m 0 (v211 q cc gc (fset h1 162 0 (.int (nI 0))) si)) 170) 94) &&& (((Ar h1 170) 94) ^^^ (Int32.ofInt (-1)))))).2) ((Int32.ofInt (-1)), fset h1 162 0 (.int (nI 0))) := rfl
  rw [nn, hin] at c2 ⊢
  generalize eM : v211 q cc gc (fset h1 162 0 (.int (nI 0))) si = M0 at *
  have j := mon_lp xp.2.2 c0 r1 r2 r3 m
  have j : MJ q cc gc H M0 (0 + m) (v140 q cc gc H m) (v223_33 q cc gc si m ((Ar h1 170) 94) m 0 M0) := j
  generalize v223_33 q cc gc si m ((Ar h1 170) 94) m 0 M0 = K at *
  obtain ⟨⟨-, cK⟩, ⟨-, fK⟩, n1, n2⟩ := j
  have e94 : Ar K 170 94 = Fi (v140 q cc gc H m) 13 5 := (n1.2.2.2.2.2.1).symm
  rw [a94, e94] at c2 ⊢
  have c3 : HC q cc gc (fset K 162 1 (.int (nI 0))) := hc_f rfl rfl (by decide) rfl cK
  obtain ⟨c4, f4⟩ := v167_fr (v := ((Fi (v140 q cc gc H m) 13 5) &&& ((Fi h 13 5) ^^^ (Int32.ofInt (-1)))).toInt64) c3
  obtain ⟨c5, f5⟩ := v167_fr (v := (v177 q cc gc (Ar K 170)).toInt64) c4
  have f6 : frm [162, 163] [(162, 1)] K (v167 q cc gc (v167 q cc gc (fset K 162 1 (.int (nI 0))) (((Fi (v140 q cc gc H m) 13 5) &&& ((Fi h 13 5) ^^^ (Int32.ofInt (-1)))).toInt64)) ((v177 q cc gc (Ar K 170)).toInt64)) := fr_g rfl rfl f5 (fr_g rfl rfl f4 (fr_f rfl rfl fr_0))
  generalize v167 q cc gc (v167 q cc gc (fset K 162 1 (.int (nI 0))) (((Fi (v140 q cc gc H m) 13 5) &&& ((Fi h 13 5) ^^^ (Int32.ofInt (-1)))).toInt64)) ((v177 q cc gc (Ar K 170)).toInt64) = M1 at *
  have fM : frm [162, 163, 170] [(162, 1)] (v211 q cc gc (fset h1 162 0 (.int (nI 0))) si) M1 := by
    rw [eM]
    exact fr_g rfl rfl f6 (fr_g rfl rfl fK fr_0)
  refine ⟨act_sr hc s hfi hsi pa xp fX (by decide) c56 fM (by decide) c5 fr_0 (W2 := []) (V2 := []) (by decide) rfl c2 ⟨?_, ?_⟩, v212_v⟩
  · have eb : ∀ a, (List.elem a [3, 4]) = false → Ar h1 a = Ar (v140 q cc gc H m) a := fun a e => Ar_e (f56.1 a e)
    rw [eb 14 rfl, eb 15 rfl, eb 16 rfl, eb 17 rfl, eb 18 rfl, Fi_e (f56.1 13 rfl), Fi_e (f56.1 13 rfl), Ar_e (f6.1 170 rfl)]
    exact n1
  · rw [Ar_e (f6.1 170 rfl)]
    exact n2
/-- what the reference takes back -/
theorem v214_ar {u : Nat} : (∀ k, k < 96 → Ar (v214_26 q cc gc u 96 0 h) 170 k = Ar h 178 (96 * u + k)) ∧ Ar (v214_26 q cc gc u 96 0 h) 178 = Ar h 178 := by
  have z := lp_in (f := fun i a => v214_26b q cc gc a u i) (P := fun i a => (∀ k, k < i → Ar a 170 k = Ar h 178 (96 * u + k)) ∧ Ar a 178 = Ar h 178) 96 0 h ⟨fun k hk => absurd hk (by omega), rfl⟩ (by
    intro k a _ _ p
    obtain ⟨p1, p2⟩ := p
    refine ⟨fun j hj => ?_, ?_⟩
    · show Ar (aset a 170 96 (upd (Ar a 170) k ((Ar a 178) (96 * u + k)))) 170 j = _
      rw [Ar_s]
      by_cases y : j = k
      · rw [y, up_e rfl, p2]
      · rw [up_n y]
        exact p1 j (by omega)
    · show Ar (aset a 170 96 (upd (Ar a 170) k ((Ar a 178) (96 * u + k)))) 178 = _
      rw [Ar_n (by decide)]
      exact p2)
  exact ⟨fun k hk => z.1 k (by omega), z.2⟩
/-- undo, where something can be undone -/
theorem und_sr (hc : HC q cc gc h) (s : SRq q cc gc h) (hfi : fi < 16) (hsi : si ≤ 15) (hs0 : si ≠ 0) (f1 : Fi h 25 1 = nI fi) (pa : ∀ j, j < si → RSb cc gc (27 + 6 * ((fi + j) % 16)) h (fun k => Ar h 178 (96 * j + k)) ∧ RI cc gc (fun k => Ar h 178 (96 * j + k))) : SR (v214 q cc gc (v101 q cc gc h fi si).2 si).2 ∧ (v101 q cc gc h fi si).1 = nI (si - 1) ∧ (v214 q cc gc (v101 q cc gc h fi si).2 si).1 = nI (si - 1) := by
  have e1 : v101 q cc gc h fi si = (nI (si - 1), cp73 (fset h 25 2 (.int (nI (si - 1)))) 13 (27 + 6 * ((fi + (si - 1)) % 16))) := by
    unfold v101
    rw [decide_eq_true hs0]
    rfl
  rw [e1]
  dsimp only
  have cA : HC q cc gc (fset h 25 2 (.int (nI (si - 1)))) := hc_f rfl rfl (by decide) rfl hc
  have c1 : HC q cc gc (cp73 (fset h 25 2 (.int (nI (si - 1)))) 13 (27 + 6 * ((fi + (si - 1)) % 16))) := cp73_hc rfl cA
  have x0 : ∀ i, (i < 13 ∨ 19 ≤ i) → cp73 (fset h 25 2 (.int (nI (si - 1)))) 13 (27 + 6 * ((fi + (si - 1)) % 16)) i = fset h 25 2 (.int (nI (si - 1))) i := fun i hi => cp73_ne (by omega)
  obtain ⟨p1, p2⟩ := pa (si - 1) (by omega)
  have n1 : RSb cc gc 13 (cp73 (fset h 25 2 (.int (nI (si - 1)))) 13 (27 + 6 * ((fi + (si - 1)) % 16))) (fun k => Ar h 178 (96 * (si - 1) + k)) := RSb_cp hc.cb hc.gb rfl cA.wt (RSb_e (fun i h1 h2 => fs_ne (by omega)) p1)
  generalize cp73 (fset h 25 2 (.int (nI (si - 1)))) 13 (27 + 6 * ((fi + (si - 1)) % 16)) = X at *
  have e2 : v214 q cc gc X si = (nI (si - 1), v214_26 q cc gc (si - 1) 96 0 (fset (fset X 162 0 (.int (nI 0))) 162 27 (.int (nI (si - 1))))) := by
    unfold v214
    rw [decide_eq_true hs0]
    rfl
  rw [e2]
  dsimp only
  have cB : HC q cc gc (fset (fset X 162 0 (.int (nI 0))) 162 27 (.int (nI (si - 1)))) := hc_f rfl rfl (by decide) rfl (hc_f rfl rfl (by decide) rfl c1)
  obtain ⟨c2, g2⟩ := v214_26_fr (z162_27 := si - 1) (by omega) (j := 96) (i := 0) cB
  obtain ⟨a1, a2⟩ := v214_ar (q := q) (cc := cc) (gc := gc) (u := si - 1) (h := fset (fset X 162 0 (.int (nI 0))) 162 27 (.int (nI (si - 1))))
  have b178 : Ar (fset (fset X 162 0 (.int (nI 0))) 162 27 (.int (nI (si - 1)))) 178 = Ar h 178 := Ar_f.trans (Ar_f.trans ((Ar_e (x0 178 (by decide))).trans Ar_f))
  have b27 : Fi (fset (fset X 162 0 (.int (nI 0))) 162 27 (.int (nI (si - 1)))) 162 27 = nI (si - 1) := Fi_s (hc_f (q := q) (cc := cc) (gc := gc) rfl rfl (by decide) rfl c1).wt (by decide) rfl (by decide) rfl
  have lo : ∀ a, a ≠ 162 → fset (fset X 162 0 (.int (nI 0))) 162 27 (.int (nI (si - 1))) a = X a := fun a ha => (fs_ne ha).trans (fs_ne ha)
  have b47 : Fi (fset (fset X 162 0 (.int (nI 0))) 162 27 (.int (nI (si - 1)))) 162 47 = Fi h 162 47 := (Fi_n (Or.inr (by decide))).trans ((Fi_n (Or.inr (by decide))).trans ((Fi_e (x0 162 (by decide))).trans (Fi_e (fs_ne (by decide)))))
  generalize fset (fset X 162 0 (.int (nI 0))) 162 27 (.int (nI (si - 1))) = Y at *
  have f27 : Fi (v214_26 q cc gc (si - 1) 96 0 Y) 162 27 = nI (si - 1) := (Fi_e (g2.1 162 rfl)).trans b27
  have f47 : Fi (v214_26 q cc gc (si - 1) 96 0 Y) 162 47 = Fi h 162 47 := (Fi_e (g2.1 162 rfl)).trans b47
  have ne1 : ∀ a, a ≠ 170 → (List.elem a [170]) = false := fun a h1 => by
    cases z : List.elem a [170] with
    | false => rfl
    | true =>
      have := List.elem_iff.mp z
      simp at this
      omega
  have cs : ∀ a, a ≠ 170 → a ≠ 162 → a ≠ 25 → (a < 13 ∨ 19 ≤ a) → v214_26 q cc gc (si - 1) 96 0 Y a = h a := fun a h1 h2 h3 h4 => (g2.1 a (ne1 a h1)).trans ((lo a h2).trans ((x0 a h4).trans (fs_ne h3)))
  have ck : ∀ a, CK.elem a = true → v214_26 q cc gc (si - 1) 96 0 Y a = h a := fun a e => by
    have w := List.all_eq_true.mp CK_un a (List.elem_iff.mp e)
    have w := of_decide_eq_true w
    exact cs a w.1 w.2.1 w.2.2.1 w.2.2.2
  have ka : kpt AK h (v214_26 q cc gc (si - 1) 96 0 Y) := fun a e => Ar_e (ck a (List.elem_iff.mpr (List.mem_append_left _ (List.elem_iff.mp e))))
  have kf : kpf FK h (v214_26 q cc gc (si - 1) 96 0 Y) := by
    intro c g e
    have e := List.elem_iff.mp e
    simp only [FK, List.mem_cons, Prod.mk.injEq, List.not_mem_nil, or_false] at e
    rcases e with ⟨rfl, rfl⟩ | ⟨rfl, rfl⟩ | ⟨rfl, rfl⟩ | ⟨rfl, rfl⟩ | ⟨rfl, rfl⟩ | ⟨rfl, rfl⟩ | ⟨rfl, rfl⟩ | ⟨rfl, rfl⟩ | ⟨rfl, rfl⟩ | ⟨rfl, rfl⟩ | ⟨rfl, rfl⟩
    · exact Fi_e (ck 0 rfl)
    · exact Fi_e (ck 5 rfl)
    · exact Fi_e (ck 5 rfl)
    · exact Fi_e (ck 159 rfl)
    · exact f47
    · exact Fi_e (ck 124 rfl)
    · exact Fi_e (ck 124 rfl)
    · exact Fi_e (ck 130 rfl)
    · exact Fi_e (ck 130 rfl)
    · exact Fi_e (ck 136 rfl)
    · exact Fi_e (ck 136 rfl)
  have k9 : k0f 9 h (v214_26 q cc gc (si - 1) 96 0 Y) := fun fs p e1 e2 => ⟨fs, (ck 0 rfl).trans e1, e2⟩
  have rw1 : ∀ k, k < 96 → Ar (v214_26 q cc gc (si - 1) 96 0 Y) 170 k = Ar h 178 (96 * (si - 1) + k) := fun k hk => (a1 k hk).trans (congrFun b178 _)
  have X13 : ∀ i, 13 ≤ i → i < 13 + 6 → v214_26 q cc gc (si - 1) 96 0 Y i = X i := fun i h1 h2 => (g2.1 i (ne1 i (by omega))).trans (lo i (by omega))
  have x25 : v214_26 q cc gc (si - 1) 96 0 Y 25 = fset h 25 2 (.int (nI (si - 1))) 25 := (g2.1 25 rfl).trans ((lo 25 (by decide)).trans (x0 25 (by decide)))
  refine ⟨SR_act c2 hc.qq s ka kf k9 ⟨RS_cg hc.cb hc.gb rw1 (RSb_e X13 n1), RI_cg hc.cb hc.gb rw1 p2⟩ ⟨fi, si - 1, hfi, by omega, ⟨?_, ?_, f27⟩, fun j hj => ?_⟩, rfl, rfl⟩
  · exact (Fi_e x25).trans ((Fi_n (Or.inr (by decide))).trans f1)
  · exact (Fi_e x25).trans (Fi_s hc.wt (by decide) rfl (by decide) rfl)
  · obtain ⟨q1, q2⟩ := pa j (by omega)
    rw [a2, b178]
    exact ⟨RSb_e (fun i h1 h2 => cs i (by omega) (by omega) (by omega) (by omega)) q1, q2⟩
end SND
end MG95zzywx2
section MG95zzywx3
/-! the rule that isn't ruling, read from object 0 -/
section OTR
variable {n fr lo k pc sl p : Nat} {L : pm_L} {S : List Value} {h h' : pm_H} {R : pm_Rs}
def OTp (p : Nat) (h : pm_H) : Prop := ∃ fs, h 0 = .inr (10, fs) ∧ fs[9]? = some (.ref p)
theorem rn_g9 {j t : Nat} (ho : OTp p h) (e : h' 0 = h 0) (hi : pm_ins PT k pc = some (.getfield j, 3)) (hf : pm_fld PT (pm_o PT k) j = some (10, 9, t)) (hh : pm_run PT n fr lo k (pc, L, .ref 0 :: S, h', 198, sl) = some R) : ∃ m, pm_run PT m fr lo k (pc + 3, L, .ref p :: S, h', 198, sl) = some R := by
  obtain ⟨fs, r1, r2⟩ := ho
  exact rn_gfo hi hf (by decide) (e.trans r1) r2 hh
end OTR
end MG95zzywx3
section MG95zzywx4
/-! runs told exactly, written by ext.py -/
section EZ
def v10_4b (q : QT) (cc gc : Nat) (h : pm_H) (i : Nat) (x2 : Int32) : Int32 × pm_H := cond (pm_cmp .eq ((v8 q cc gc (Ar h 16) i) - (v7 q cc gc (Ar h 16) i)) 0) (x2, h) (x2 + Int32.ofInt 1, aset h 153 6 (upd (Ar h 153) ((x2).toNatClampNeg) ((v8 q cc gc (Ar h 16) i) - (v7 q cc gc (Ar h 16) i))))
def v10_4 (q : QT) (cc gc : Nat) (j i : Nat) (a : Int32 × pm_H) : Int32 × pm_H := lp (fun i a => v10_4b q cc gc a.2 i a.1) j i a
def v10 (q : QT) (cc gc : Nat) (h : pm_H) : Int32 × pm_H := ((v10_4 q cc gc cc 0 ((nI 0), h)).1, (v10_4 q cc gc cc 0 ((nI 0), h)).2)
end EZ
end MG95zzywx4
end MH95zzyvx1
section MH95zzyvx2
/-! runs told exactly, written by ext.py -/
section EW
def v96w1 (q : QT) (cc gc : Nat) (g : Int32) (c : Int32) : Int32 := (Int32.ofInt (-1))
theorem v96w1_ok {n fr lo sl cc gc : Nat} {q : QT} {h : pm_H} {R : pm_Rs} {g : Int32} {c : Int32} (hw : HC q cc gc h) (hb1 : cB gc g = false) (hh : pm_run PT n fr lo 96 (0, pm_l0 [.ref 0, .int g, .int c] 7, [], h, 198, sl) = some R) : R = (some (.int (v96w1 q cc gc g c)), h, 198, sl) := by
  have hcc := hw.cb
  have hgc := hw.gb
  have hzr := hw.zr
  obtain ⟨n, hh⟩ := rn_i rfl rfl rfl rfl hh
  obtain ⟨n, hh⟩ := rn_i rfl rfl rfl rfl hh
  obtain ⟨n, hh⟩ := rn_i rfl rfl rfl rfl hh
  have hh : pm_run PT n fr lo 96 (3, [some (.ref 0), some (.int g), some (.int c), none, none, none, none], [.int c, .int g, .ref 0], h, 198, sl) = some R := hh
  obtain ⟨n, fr1, lo1, r1, hh1, hh⟩ := rn_call (w := 0) (t := 136) rfl rfl hh
  have hh1 : pm_run PT n fr1 lo1 136 (0, [some (.ref 0), some (.int g), some (.int c)], [], h, 198, sl) = some r1 := hh1
  obtain ⟨n1, hh1⟩ := rn_i rfl rfl rfl rfl hh1
  have hh1 : pm_run PT n1 fr1 lo1 136 (1, [some (.ref 0), some (.int g), some (.int c)], [.ref 0], h, 198, sl) = some r1 := hh1
  obtain ⟨n1, hh1⟩ := rn_gr hw.wt rfl rfl (by decide) rfl (by decide) (show _ = some (2, ((5 : Nat) : Int), 1) from rfl) rfl hh1
  obtain ⟨n1, hh1⟩ := rn_i rfl rfl rfl rfl hh1
  have hh1 : pm_run PT n1 fr1 lo1 136 (5, [some (.ref 0), some (.int g), some (.int c)], [.int g, .ref 5], h, 198, sl) = some r1 := hh1
  obtain ⟨n1, fr2, lo2, r2, hh2, hh1⟩ := rn_call (w := 0) (t := 25) rfl rfl hh1
  have er1 := en_xg hgc (hc_rG hw) hh2
  subst er1
  have hh1 : pm_run PT n1 fr1 lo1 136 (8, [some (.ref 0), some (.int g), some (.int c)], [.int (cond (cB gc g) 1 0)], h, 198, sl) = some r1 := hh1
  obtain ⟨n1, hh1⟩ := en_zn (cc := .eq) (off := 14) (t := 22) (b := !(cB gc g)) eb_eq rfl rfl hh1
  have hh1 := en_nf hb1 hh1
  have hh1 : pm_run PT n1 fr1 lo1 136 (22, [some (.ref 0), some (.int g), some (.int c)], [], h, 198, sl) = some r1 := hh1
  obtain ⟨n1, hh1⟩ := rn_i rfl rfl rfl rfl hh1
  have hh1 : pm_run PT n1 fr1 lo1 136 (23, [some (.ref 0), some (.int g), some (.int c)], [.int (Int32.ofInt (-1))], h, 198, sl) = some r1 := hh1
  have er2 : r1 = (some (.int (Int32.ofInt (-1))), h, 198, sl) := (rn_ret rfl (Or.inl rfl) hh1).2
  subst er2
  obtain ⟨n, hh⟩ := rn_i rfl rfl rfl rfl hh
  obtain ⟨n, hh⟩ := rn_i rfl rfl rfl rfl hh
  have hh : pm_run PT n fr lo 96 (8, [some (.ref 0), some (.int g), some (.int c), some (.int (Int32.ofInt (-1))), none, none, none], [.int (Int32.ofInt (-1))], h, 198, sl) = some R := hh
  obtain ⟨n, hh⟩ := en_zn (cc := .ge) (off := 5) (t := 13) (b := pm_cmp .ge (Int32.ofInt (-1)) 0) rfl rfl rfl hh
  have hh := en_f (by decide) hh
  have hh : pm_run PT n fr lo 96 (11, [some (.ref 0), some (.int g), some (.int c), some (.int (Int32.ofInt (-1))), none, none, none], [], h, 198, sl) = some R := hh
  obtain ⟨n, hh⟩ := rn_i rfl rfl rfl rfl hh
  have hh : pm_run PT n fr lo 96 (12, [some (.ref 0), some (.int g), some (.int c), some (.int (Int32.ofInt (-1))), none, none, none], [.int (Int32.ofInt (-1))], h, 198, sl) = some R := hh
  have er3 : R = (some (.int (Int32.ofInt (-1))), h, 198, sl) := (rn_ret rfl (Or.inl rfl) hh).2
  have ed : v96w1 q cc gc g c = (Int32.ofInt (-1)) := rfl
  rw [ed]
  exact er3
def v222w1 (q : QT) (cc gc : Nat) (h : pm_H) (u : Nat) (g : Int32) (c : Int32) : Int32 × pm_H := ((Int32.ofInt (-1)), v211 q cc gc (fset h 162 0 (.int (nI 0))) u)
theorem v222w1_ok {n fr lo sl cc gc : Nat} {q : QT} {h : pm_H} {R : pm_Rs} {u : Nat} {g : Int32} {c : Int32} (hw : HC q cc gc h) (hb1 : cB gc g = false) (hu : u ≤ 15) (e1 : Fi h 162 27 = nI u) (hh : pm_run PT n fr lo 222 (0, pm_l0 [.ref 162, .int g, .int c] 4, [], h, 198, sl) = some R) : R = (some (.int ((v222w1 q cc gc h u g c).1)), (v222w1 q cc gc h u g c).2, 198, sl) ∧ HC q cc gc ((v222w1 q cc gc h u g c).2) ∧ frm [162, 178] [(162, 0)] h ((v222w1 q cc gc h u g c).2) := by
  have hcc := hw.cb
  have hgc := hw.gb
  have hzr := hw.zr
  obtain ⟨n, hh⟩ := rn_i rfl rfl rfl rfl hh
  obtain ⟨n, hh⟩ := rn_i rfl rfl rfl rfl hh
  have hh : pm_run PT n fr lo 222 (2, [some (.ref 162), some (.int g), some (.int c), none], [.int (nI 0), .ref 162], h, 198, sl) = some R := hh
  obtain ⟨n, hh⟩ := rn_pi hw.wt rfl rfl (by decide) rfl (by decide) rfl hh
  obtain ⟨n, hh⟩ := rn_i rfl rfl rfl rfl hh
  have hh : pm_run PT n fr lo 222 (6, [some (.ref 162), some (.int g), some (.int c), none], [.ref 162], fset h 162 0 (.int (nI 0)), 198, sl) = some R := hh
  obtain ⟨n, fr1, lo1, r1, hh1, hh⟩ := rn_call (w := 0) (t := 211) rfl rfl hh
  obtain ⟨er1, hc2, hf3⟩ := v211_ok (u := u) (hc_f rfl rfl (by decide) rfl hw) hu ((Fi_n (Or.inr (by decide))).trans e1) hh1
  subst er1
  obtain ⟨n, hh⟩ := rn_i rfl rfl rfl rfl hh
  obtain ⟨n, hh⟩ := rn_i rfl rfl rfl rfl hh
  obtain ⟨n, hh⟩ := rn_i rfl rfl rfl rfl hh
  have hh : pm_run PT n fr lo 222 (12, [some (.ref 162), some (.int g), some (.int c), none], [.ref 162, .ref 162, .ref 162], v211 q cc gc (fset h 162 0 (.int (nI 0))) u, 198, sl) = some R := hh
  obtain ⟨n, hh⟩ := rn_gr hc2.wt rfl rfl (by decide) rfl (by decide) (show _ = some (2, ((170 : Nat) : Int), 1) from rfl) rfl hh
  obtain ⟨n, hh⟩ := rn_i rfl rfl rfl rfl hh
  obtain ⟨n, hh⟩ := rn_i rfl rfl rfl rfl hh
  have hh : pm_run PT n fr lo 222 (17, [some (.ref 162), some (.int g), some (.int c), none], [.int c, .int g, .ref 170, .ref 162, .ref 162], v211 q cc gc (fset h 162 0 (.int (nI 0))) u, 198, sl) = some R := hh
  obtain ⟨n, fr1, lo1, r1, hh1, hh⟩ := rn_call (w := 0) (t := 217) rfl rfl hh
  have hh1 : pm_run PT n fr1 lo1 217 (0, [some (.ref 162), some (.ref 170), some (.int g), some (.int c), none, none, none, none, none], [], v211 q cc gc (fset h 162 0 (.int (nI 0))) u, 198, sl) = some r1 := hh1
  obtain ⟨n1, hh1⟩ := rn_i rfl rfl rfl rfl hh1
  obtain ⟨n1, hh1⟩ := rn_i rfl rfl rfl rfl hh1
  have hh1 : pm_run PT n1 fr1 lo1 217 (2, [some (.ref 162), some (.ref 170), some (.int g), some (.int c), none, none, none, none, none], [.int g, .ref 162], v211 q cc gc (fset h 162 0 (.int (nI 0))) u, 198, sl) = some r1 := hh1
  obtain ⟨n1, fr2, lo2, r2, hh2, hh1⟩ := rn_call (w := 0) (t := 169) rfl rfl hh1
  have er4 := en_mg hgc (hc_m4 hc2) hh2
  subst er4
  have hh1 : pm_run PT n1 fr1 lo1 217 (5, [some (.ref 162), some (.ref 170), some (.int g), some (.int c), none, none, none, none, none], [.int (cond (cB gc g) 1 0)], v211 q cc gc (fset h 162 0 (.int (nI 0))) u, 198, sl) = some r1 := hh1
  obtain ⟨n1, hh1⟩ := en_zn (cc := .eq) (off := 11) (t := 16) (b := !(cB gc g)) eb_eq rfl rfl hh1
  have hh1 := en_nf hb1 hh1
  have hh1 : pm_run PT n1 fr1 lo1 217 (16, [some (.ref 162), some (.ref 170), some (.int g), some (.int c), none, none, none, none, none], [], v211 q cc gc (fset h 162 0 (.int (nI 0))) u, 198, sl) = some r1 := hh1
  obtain ⟨n1, hh1⟩ := rn_i rfl rfl rfl rfl hh1
  have hh1 : pm_run PT n1 fr1 lo1 217 (17, [some (.ref 162), some (.ref 170), some (.int g), some (.int c), none, none, none, none, none], [.int (Int32.ofInt (-1))], v211 q cc gc (fset h 162 0 (.int (nI 0))) u, 198, sl) = some r1 := hh1
  have er5 : r1 = (some (.int (Int32.ofInt (-1))), v211 q cc gc (fset h 162 0 (.int (nI 0))) u, 198, sl) := (rn_ret rfl (Or.inl rfl) hh1).2
  subst er5
  have hh : pm_run PT n fr lo 222 (20, [some (.ref 162), some (.int g), some (.int c), none], [.int (Int32.ofInt (-1)), .ref 162], v211 q cc gc (fset h 162 0 (.int (nI 0))) u, 198, sl) = some R := hh
  obtain ⟨n, fr1, lo1, r1, hh1, hh⟩ := rn_call (w := 0) (t := 213) rfl rfl hh
  have hh1 : pm_run PT n fr1 lo1 213 (0, [some (.ref 162), some (.int (Int32.ofInt (-1)))], [], v211 q cc gc (fset h 162 0 (.int (nI 0))) u, 198, sl) = some r1 := hh1
  obtain ⟨n1, hh1⟩ := rn_i rfl rfl rfl rfl hh1
  have hh1 : pm_run PT n1 fr1 lo1 213 (1, [some (.ref 162), some (.int (Int32.ofInt (-1)))], [.int (Int32.ofInt (-1))], v211 q cc gc (fset h 162 0 (.int (nI 0))) u, 198, sl) = some r1 := hh1
  obtain ⟨n1, hh1⟩ := en_zn (cc := .ge) (off := 7) (t := 8) (b := pm_cmp .ge (Int32.ofInt (-1)) 0) rfl rfl rfl hh1
  have hh1 := en_f (by decide) hh1
  have hh1 : pm_run PT n1 fr1 lo1 213 (4, [some (.ref 162), some (.int (Int32.ofInt (-1)))], [], v211 q cc gc (fset h 162 0 (.int (nI 0))) u, 198, sl) = some r1 := hh1
  obtain ⟨n1, hh1⟩ := rn_i rfl rfl rfl rfl hh1
  obtain ⟨n1, hh1⟩ := rn_i rfl rfl rfl rfl hh1
  have hh1 : pm_run PT n1 fr1 lo1 213 (13, [some (.ref 162), some (.int (Int32.ofInt (-1)))], [.int (Int32.ofInt (-1))], v211 q cc gc (fset h 162 0 (.int (nI 0))) u, 198, sl) = some r1 := hh1
  have er6 : r1 = (some (.int (Int32.ofInt (-1))), v211 q cc gc (fset h 162 0 (.int (nI 0))) u, 198, sl) := (rn_ret rfl (Or.inl rfl) hh1).2
  subst er6
  obtain ⟨n, hh⟩ := rn_i rfl rfl rfl rfl hh
  obtain ⟨n, hh⟩ := rn_i rfl rfl rfl rfl hh
  have hh : pm_run PT n fr lo 222 (25, [some (.ref 162), some (.int g), some (.int c), some (.int (Int32.ofInt (-1)))], [.int (Int32.ofInt (-1))], v211 q cc gc (fset h 162 0 (.int (nI 0))) u, 198, sl) = some R := hh
  obtain ⟨n, hh⟩ := en_zn (cc := .lt) (off := 26) (t := 51) (b := pm_cmp .lt (Int32.ofInt (-1)) 0) rfl rfl rfl hh
  have hh := en_t (by decide) hh
  have hh : pm_run PT n fr lo 222 (51, [some (.ref 162), some (.int g), some (.int c), some (.int (Int32.ofInt (-1)))], [], v211 q cc gc (fset h 162 0 (.int (nI 0))) u, 198, sl) = some R := hh
  obtain ⟨n, hh⟩ := rn_i rfl rfl rfl rfl hh
  have hh : pm_run PT n fr lo 222 (52, [some (.ref 162), some (.int g), some (.int c), some (.int (Int32.ofInt (-1)))], [.int (Int32.ofInt (-1))], v211 q cc gc (fset h 162 0 (.int (nI 0))) u, 198, sl) = some R := hh
  have er7 : R = (some (.int (Int32.ofInt (-1))), v211 q cc gc (fset h 162 0 (.int (nI 0))) u, 198, sl) := (rn_ret rfl (Or.inl rfl) hh).2
  have ed : v222w1 q cc gc h u g c = ((Int32.ofInt (-1)), v211 q cc gc (fset h 162 0 (.int (nI 0))) u) := rfl
  refine ⟨?_, ?_, ?_⟩ <;> rw [ed]
  · exact er7
  · exact hc2
  · exact (fr_g rfl rfl hf3 (fr_f rfl rfl fr_0))
theorem v96w2_ok {n fr lo sl cc gc : Nat} {q : QT} {h : pm_H} {R : pm_Rs} {g : Int32} {c : Int32} (hw : HC q cc gc h) (hb1 : cB gc g = true) (hb2 : cB cc c = false) (hh : pm_run PT n fr lo 96 (0, pm_l0 [.ref 0, .int g, .int c] 7, [], h, 198, sl) = some R) : R = (some (.int (v96w1 q cc gc g c)), h, 198, sl) := by
  have hcc := hw.cb
  have hgc := hw.gb
  have hzr := hw.zr
  obtain ⟨n, hh⟩ := rn_i rfl rfl rfl rfl hh
  obtain ⟨n, hh⟩ := rn_i rfl rfl rfl rfl hh
  obtain ⟨n, hh⟩ := rn_i rfl rfl rfl rfl hh
  have hh : pm_run PT n fr lo 96 (3, [some (.ref 0), some (.int g), some (.int c), none, none, none, none], [.int c, .int g, .ref 0], h, 198, sl) = some R := hh
  obtain ⟨n, fr1, lo1, r1, hh1, hh⟩ := rn_call (w := 0) (t := 136) rfl rfl hh
  have hh1 : pm_run PT n fr1 lo1 136 (0, [some (.ref 0), some (.int g), some (.int c)], [], h, 198, sl) = some r1 := hh1
  obtain ⟨n1, hh1⟩ := rn_i rfl rfl rfl rfl hh1
  have hh1 : pm_run PT n1 fr1 lo1 136 (1, [some (.ref 0), some (.int g), some (.int c)], [.ref 0], h, 198, sl) = some r1 := hh1
  obtain ⟨n1, hh1⟩ := rn_gr hw.wt rfl rfl (by decide) rfl (by decide) (show _ = some (2, ((5 : Nat) : Int), 1) from rfl) rfl hh1
  obtain ⟨n1, hh1⟩ := rn_i rfl rfl rfl rfl hh1
  have hh1 : pm_run PT n1 fr1 lo1 136 (5, [some (.ref 0), some (.int g), some (.int c)], [.int g, .ref 5], h, 198, sl) = some r1 := hh1
  obtain ⟨n1, fr2, lo2, r2, hh2, hh1⟩ := rn_call (w := 0) (t := 25) rfl rfl hh1
  have er1 := en_xg hgc (hc_rG hw) hh2
  subst er1
  have hh1 : pm_run PT n1 fr1 lo1 136 (8, [some (.ref 0), some (.int g), some (.int c)], [.int (cond (cB gc g) 1 0)], h, 198, sl) = some r1 := hh1
  obtain ⟨n1, hh1⟩ := en_zn (cc := .eq) (off := 14) (t := 22) (b := !(cB gc g)) eb_eq rfl rfl hh1
  have hh1 := en_nt hb1 hh1
  have hh1 : pm_run PT n1 fr1 lo1 136 (11, [some (.ref 0), some (.int g), some (.int c)], [], h, 198, sl) = some r1 := hh1
  obtain ⟨n1, hh1⟩ := rn_i rfl rfl rfl rfl hh1
  have hh1 : pm_run PT n1 fr1 lo1 136 (12, [some (.ref 0), some (.int g), some (.int c)], [.ref 0], h, 198, sl) = some r1 := hh1
  obtain ⟨n1, hh1⟩ := rn_gr hw.wt rfl rfl (by decide) rfl (by decide) (show _ = some (2, ((5 : Nat) : Int), 1) from rfl) rfl hh1
  obtain ⟨n1, hh1⟩ := rn_i rfl rfl rfl rfl hh1
  have hh1 : pm_run PT n1 fr1 lo1 136 (16, [some (.ref 0), some (.int g), some (.int c)], [.int c, .ref 5], h, 198, sl) = some r1 := hh1
  obtain ⟨n1, fr2, lo2, r2, hh2, hh1⟩ := rn_call (w := 0) (t := 23) rfl rfl hh1
  have er2 := xi_run hcc (hc_rC hw) hh2
  subst er2
  have hh1 : pm_run PT n1 fr1 lo1 136 (19, [some (.ref 0), some (.int g), some (.int c)], [.int (cond (cB cc c) 1 0)], h, 198, sl) = some r1 := hh1
  obtain ⟨n1, hh1⟩ := en_zn (cc := .ne) (off := 5) (t := 24) (b := cB cc c) eb_ne rfl rfl hh1
  have hh1 := en_f hb2 hh1
  have hh1 : pm_run PT n1 fr1 lo1 136 (22, [some (.ref 0), some (.int g), some (.int c)], [], h, 198, sl) = some r1 := hh1
  obtain ⟨n1, hh1⟩ := rn_i rfl rfl rfl rfl hh1
  have hh1 : pm_run PT n1 fr1 lo1 136 (23, [some (.ref 0), some (.int g), some (.int c)], [.int (Int32.ofInt (-1))], h, 198, sl) = some r1 := hh1
  have er3 : r1 = (some (.int (Int32.ofInt (-1))), h, 198, sl) := (rn_ret rfl (Or.inl rfl) hh1).2
  subst er3
  obtain ⟨n, hh⟩ := rn_i rfl rfl rfl rfl hh
  obtain ⟨n, hh⟩ := rn_i rfl rfl rfl rfl hh
  have hh : pm_run PT n fr lo 96 (8, [some (.ref 0), some (.int g), some (.int c), some (.int (Int32.ofInt (-1))), none, none, none], [.int (Int32.ofInt (-1))], h, 198, sl) = some R := hh
  obtain ⟨n, hh⟩ := en_zn (cc := .ge) (off := 5) (t := 13) (b := pm_cmp .ge (Int32.ofInt (-1)) 0) rfl rfl rfl hh
  have hh := en_f (by decide) hh
  have hh : pm_run PT n fr lo 96 (11, [some (.ref 0), some (.int g), some (.int c), some (.int (Int32.ofInt (-1))), none, none, none], [], h, 198, sl) = some R := hh
  obtain ⟨n, hh⟩ := rn_i rfl rfl rfl rfl hh
  have hh : pm_run PT n fr lo 96 (12, [some (.ref 0), some (.int g), some (.int c), some (.int (Int32.ofInt (-1))), none, none, none], [.int (Int32.ofInt (-1))], h, 198, sl) = some R := hh
  have er4 : R = (some (.int (Int32.ofInt (-1))), h, 198, sl) := (rn_ret rfl (Or.inl rfl) hh).2
  have ed : v96w1 q cc gc g c = (Int32.ofInt (-1)) := rfl
  rw [ed]
  exact er4
def v222w2 (q : QT) (cc gc : Nat) (h : pm_H) (u : Nat) (g : Int32) (c : Int32) : Int32 × pm_H := ((Int32.ofInt (-1)), v211 q cc gc (fset h 162 0 (.int (nI 0))) u)
theorem v222w2_ok {n fr lo sl cc gc : Nat} {q : QT} {h : pm_H} {R : pm_Rs} {u : Nat} {g : Int32} {c : Int32} (hw : HC q cc gc h) (hb1 : cB gc g = true) (hb2 : cB cc c = false) (hu : u ≤ 15) (e1 : Fi h 162 27 = nI u) (hh : pm_run PT n fr lo 222 (0, pm_l0 [.ref 162, .int g, .int c] 4, [], h, 198, sl) = some R) : R = (some (.int ((v222w2 q cc gc h u g c).1)), (v222w2 q cc gc h u g c).2, 198, sl) ∧ HC q cc gc ((v222w2 q cc gc h u g c).2) ∧ frm [162, 178] [(162, 0)] h ((v222w2 q cc gc h u g c).2) := by
  have hcc := hw.cb
  have hgc := hw.gb
  have hzr := hw.zr
  obtain ⟨n, hh⟩ := rn_i rfl rfl rfl rfl hh
  obtain ⟨n, hh⟩ := rn_i rfl rfl rfl rfl hh
  have hh : pm_run PT n fr lo 222 (2, [some (.ref 162), some (.int g), some (.int c), none], [.int (nI 0), .ref 162], h, 198, sl) = some R := hh
  obtain ⟨n, hh⟩ := rn_pi hw.wt rfl rfl (by decide) rfl (by decide) rfl hh
  obtain ⟨n, hh⟩ := rn_i rfl rfl rfl rfl hh
  have hh : pm_run PT n fr lo 222 (6, [some (.ref 162), some (.int g), some (.int c), none], [.ref 162], fset h 162 0 (.int (nI 0)), 198, sl) = some R := hh
  obtain ⟨n, fr1, lo1, r1, hh1, hh⟩ := rn_call (w := 0) (t := 211) rfl rfl hh
  obtain ⟨er1, hc2, hf3⟩ := v211_ok (u := u) (hc_f rfl rfl (by decide) rfl hw) hu ((Fi_n (Or.inr (by decide))).trans e1) hh1
  subst er1
  obtain ⟨n, hh⟩ := rn_i rfl rfl rfl rfl hh
  obtain ⟨n, hh⟩ := rn_i rfl rfl rfl rfl hh
  obtain ⟨n, hh⟩ := rn_i rfl rfl rfl rfl hh
  have hh : pm_run PT n fr lo 222 (12, [some (.ref 162), some (.int g), some (.int c), none], [.ref 162, .ref 162, .ref 162], v211 q cc gc (fset h 162 0 (.int (nI 0))) u, 198, sl) = some R := hh
  obtain ⟨n, hh⟩ := rn_gr hc2.wt rfl rfl (by decide) rfl (by decide) (show _ = some (2, ((170 : Nat) : Int), 1) from rfl) rfl hh
  obtain ⟨n, hh⟩ := rn_i rfl rfl rfl rfl hh
  obtain ⟨n, hh⟩ := rn_i rfl rfl rfl rfl hh
  have hh : pm_run PT n fr lo 222 (17, [some (.ref 162), some (.int g), some (.int c), none], [.int c, .int g, .ref 170, .ref 162, .ref 162], v211 q cc gc (fset h 162 0 (.int (nI 0))) u, 198, sl) = some R := hh
  obtain ⟨n, fr1, lo1, r1, hh1, hh⟩ := rn_call (w := 0) (t := 217) rfl rfl hh
  have hh1 : pm_run PT n fr1 lo1 217 (0, [some (.ref 162), some (.ref 170), some (.int g), some (.int c), none, none, none, none, none], [], v211 q cc gc (fset h 162 0 (.int (nI 0))) u, 198, sl) = some r1 := hh1
  obtain ⟨n1, hh1⟩ := rn_i rfl rfl rfl rfl hh1
  obtain ⟨n1, hh1⟩ := rn_i rfl rfl rfl rfl hh1
  have hh1 : pm_run PT n1 fr1 lo1 217 (2, [some (.ref 162), some (.ref 170), some (.int g), some (.int c), none, none, none, none, none], [.int g, .ref 162], v211 q cc gc (fset h 162 0 (.int (nI 0))) u, 198, sl) = some r1 := hh1
  obtain ⟨n1, fr2, lo2, r2, hh2, hh1⟩ := rn_call (w := 0) (t := 169) rfl rfl hh1
  have er4 := en_mg hgc (hc_m4 hc2) hh2
  subst er4
  have hh1 : pm_run PT n1 fr1 lo1 217 (5, [some (.ref 162), some (.ref 170), some (.int g), some (.int c), none, none, none, none, none], [.int (cond (cB gc g) 1 0)], v211 q cc gc (fset h 162 0 (.int (nI 0))) u, 198, sl) = some r1 := hh1
  obtain ⟨n1, hh1⟩ := en_zn (cc := .eq) (off := 11) (t := 16) (b := !(cB gc g)) eb_eq rfl rfl hh1
  have hh1 := en_nt hb1 hh1
  have hh1 : pm_run PT n1 fr1 lo1 217 (8, [some (.ref 162), some (.ref 170), some (.int g), some (.int c), none, none, none, none, none], [], v211 q cc gc (fset h 162 0 (.int (nI 0))) u, 198, sl) = some r1 := hh1
  obtain ⟨n1, hh1⟩ := rn_i rfl rfl rfl rfl hh1
  obtain ⟨n1, hh1⟩ := rn_i rfl rfl rfl rfl hh1
  have hh1 : pm_run PT n1 fr1 lo1 217 (10, [some (.ref 162), some (.ref 170), some (.int g), some (.int c), none, none, none, none, none], [.int c, .ref 162], v211 q cc gc (fset h 162 0 (.int (nI 0))) u, 198, sl) = some r1 := hh1
  obtain ⟨n1, fr2, lo2, r2, hh2, hh1⟩ := rn_call (w := 0) (t := 168) rfl rfl hh1
  have er5 := mi_run hcc (hc_m3 hc2) hh2
  subst er5
  have hh1 : pm_run PT n1 fr1 lo1 217 (13, [some (.ref 162), some (.ref 170), some (.int g), some (.int c), none, none, none, none, none], [.int (cond (cB cc c) 1 0)], v211 q cc gc (fset h 162 0 (.int (nI 0))) u, 198, sl) = some r1 := hh1
  obtain ⟨n1, hh1⟩ := en_zn (cc := .ne) (off := 5) (t := 18) (b := cB cc c) eb_ne rfl rfl hh1
  have hh1 := en_f hb2 hh1
  have hh1 : pm_run PT n1 fr1 lo1 217 (16, [some (.ref 162), some (.ref 170), some (.int g), some (.int c), none, none, none, none, none], [], v211 q cc gc (fset h 162 0 (.int (nI 0))) u, 198, sl) = some r1 := hh1
  obtain ⟨n1, hh1⟩ := rn_i rfl rfl rfl rfl hh1
  have hh1 : pm_run PT n1 fr1 lo1 217 (17, [some (.ref 162), some (.ref 170), some (.int g), some (.int c), none, none, none, none, none], [.int (Int32.ofInt (-1))], v211 q cc gc (fset h 162 0 (.int (nI 0))) u, 198, sl) = some r1 := hh1
  have er6 : r1 = (some (.int (Int32.ofInt (-1))), v211 q cc gc (fset h 162 0 (.int (nI 0))) u, 198, sl) := (rn_ret rfl (Or.inl rfl) hh1).2
  subst er6
  have hh : pm_run PT n fr lo 222 (20, [some (.ref 162), some (.int g), some (.int c), none], [.int (Int32.ofInt (-1)), .ref 162], v211 q cc gc (fset h 162 0 (.int (nI 0))) u, 198, sl) = some R := hh
  obtain ⟨n, fr1, lo1, r1, hh1, hh⟩ := rn_call (w := 0) (t := 213) rfl rfl hh
  have hh1 : pm_run PT n fr1 lo1 213 (0, [some (.ref 162), some (.int (Int32.ofInt (-1)))], [], v211 q cc gc (fset h 162 0 (.int (nI 0))) u, 198, sl) = some r1 := hh1
  obtain ⟨n1, hh1⟩ := rn_i rfl rfl rfl rfl hh1
  have hh1 : pm_run PT n1 fr1 lo1 213 (1, [some (.ref 162), some (.int (Int32.ofInt (-1)))], [.int (Int32.ofInt (-1))], v211 q cc gc (fset h 162 0 (.int (nI 0))) u, 198, sl) = some r1 := hh1
  obtain ⟨n1, hh1⟩ := en_zn (cc := .ge) (off := 7) (t := 8) (b := pm_cmp .ge (Int32.ofInt (-1)) 0) rfl rfl rfl hh1
  have hh1 := en_f (by decide) hh1
  have hh1 : pm_run PT n1 fr1 lo1 213 (4, [some (.ref 162), some (.int (Int32.ofInt (-1)))], [], v211 q cc gc (fset h 162 0 (.int (nI 0))) u, 198, sl) = some r1 := hh1
  obtain ⟨n1, hh1⟩ := rn_i rfl rfl rfl rfl hh1
  obtain ⟨n1, hh1⟩ := rn_i rfl rfl rfl rfl hh1
  have hh1 : pm_run PT n1 fr1 lo1 213 (13, [some (.ref 162), some (.int (Int32.ofInt (-1)))], [.int (Int32.ofInt (-1))], v211 q cc gc (fset h 162 0 (.int (nI 0))) u, 198, sl) = some r1 := hh1
  have er7 : r1 = (some (.int (Int32.ofInt (-1))), v211 q cc gc (fset h 162 0 (.int (nI 0))) u, 198, sl) := (rn_ret rfl (Or.inl rfl) hh1).2
  subst er7
  obtain ⟨n, hh⟩ := rn_i rfl rfl rfl rfl hh
  obtain ⟨n, hh⟩ := rn_i rfl rfl rfl rfl hh
  have hh : pm_run PT n fr lo 222 (25, [some (.ref 162), some (.int g), some (.int c), some (.int (Int32.ofInt (-1)))], [.int (Int32.ofInt (-1))], v211 q cc gc (fset h 162 0 (.int (nI 0))) u, 198, sl) = some R := hh
  obtain ⟨n, hh⟩ := en_zn (cc := .lt) (off := 26) (t := 51) (b := pm_cmp .lt (Int32.ofInt (-1)) 0) rfl rfl rfl hh
  have hh := en_t (by decide) hh
  have hh : pm_run PT n fr lo 222 (51, [some (.ref 162), some (.int g), some (.int c), some (.int (Int32.ofInt (-1)))], [], v211 q cc gc (fset h 162 0 (.int (nI 0))) u, 198, sl) = some R := hh
  obtain ⟨n, hh⟩ := rn_i rfl rfl rfl rfl hh
  have hh : pm_run PT n fr lo 222 (52, [some (.ref 162), some (.int g), some (.int c), some (.int (Int32.ofInt (-1)))], [.int (Int32.ofInt (-1))], v211 q cc gc (fset h 162 0 (.int (nI 0))) u, 198, sl) = some R := hh
  have er8 : R = (some (.int (Int32.ofInt (-1))), v211 q cc gc (fset h 162 0 (.int (nI 0))) u, 198, sl) := (rn_ret rfl (Or.inl rfl) hh).2
  have ed : v222w2 q cc gc h u g c = ((Int32.ofInt (-1)), v211 q cc gc (fset h 162 0 (.int (nI 0))) u) := rfl
  refine ⟨?_, ?_, ?_⟩ <;> rw [ed]
  · exact er8
  · exact hc2
  · exact (fr_g rfl rfl hf3 (fr_f rfl rfl fr_0))
def v98w (q : QT) (cc gc : Nat) (a : Int32) (b : Int32) (m : Int32) : Int32 := (Int32.ofInt (-1))
theorem v98w_ok {n fr lo sl cc gc : Nat} {q : QT} {h : pm_H} {R : pm_Rs} {a : Int32} {b : Int32} {m : Int32} (hw : HC q cc gc h) (hb : pP cc a b = false) (hh : pm_run PT n fr lo 98 (0, pm_l0 [.ref 0, .int a, .int b, .int m] 4, [], h, 198, sl) = some R) : R = (some (.int (v98w q cc gc a b m)), h, 198, sl) := by
  have hcc := hw.cb
  have hgc := hw.gb
  have hzr := hw.zr
  obtain ⟨n, hh⟩ := rn_i rfl rfl rfl rfl hh
  obtain ⟨n, hh⟩ := rn_i rfl rfl rfl rfl hh
  obtain ⟨n, hh⟩ := rn_i rfl rfl rfl rfl hh
  obtain ⟨n, hh⟩ := rn_i rfl rfl rfl rfl hh
  have hh : pm_run PT n fr lo 98 (4, [some (.ref 0), some (.int a), some (.int b), some (.int m)], [.int m, .int b, .int a, .ref 0], h, 198, sl) = some R := hh
  obtain ⟨n, fr1, lo1, r1, hh1, hh⟩ := rn_call (w := 0) (t := 137) rfl rfl hh
  have hh1 : pm_run PT n fr1 lo1 137 (0, [some (.ref 0), some (.int a), some (.int b), some (.int m)], [], h, 198, sl) = some r1 := hh1
  obtain ⟨n1, hh1⟩ := rn_i rfl rfl rfl rfl hh1
  have hh1 : pm_run PT n1 fr1 lo1 137 (1, [some (.ref 0), some (.int a), some (.int b), some (.int m)], [.ref 0], h, 198, sl) = some r1 := hh1
  obtain ⟨n1, hh1⟩ := rn_gr hw.wt rfl rfl (by decide) rfl (by decide) (show _ = some (2, ((5 : Nat) : Int), 1) from rfl) rfl hh1
  obtain ⟨n1, hh1⟩ := rn_i rfl rfl rfl rfl hh1
  obtain ⟨n1, hh1⟩ := rn_i rfl rfl rfl rfl hh1
  have hh1 : pm_run PT n1 fr1 lo1 137 (6, [some (.ref 0), some (.int a), some (.int b), some (.int m)], [.int b, .int a, .ref 5], h, 198, sl) = some r1 := hh1
  obtain ⟨n1, fr2, lo2, r2, hh2, hh1⟩ := rn_call (w := 0) (t := 24) rfl rfl hh1
  have er1 := xa_run hcc (hc_rC hw) hh2
  subst er1
  have hh1 : pm_run PT n1 fr1 lo1 137 (9, [some (.ref 0), some (.int a), some (.int b), some (.int m)], [.int (cond (pP cc a b) 1 0)], h, 198, sl) = some r1 := hh1
  obtain ⟨n1, hh1⟩ := en_zn (cc := .eq) (off := 19) (t := 28) (b := !(pP cc a b)) eb_eq rfl rfl hh1
  have hh1 := en_nf hb hh1
  have hh1 : pm_run PT n1 fr1 lo1 137 (28, [some (.ref 0), some (.int a), some (.int b), some (.int m)], [], h, 198, sl) = some r1 := hh1
  obtain ⟨n1, hh1⟩ := rn_i rfl rfl rfl rfl hh1
  obtain ⟨n1, hh1⟩ := rn_i rfl rfl rfl rfl hh1
  have hh1 : pm_run PT n1 fr1 lo1 137 (33, [some (.ref 0), some (.int a), some (.int b), some (.int m)], [.int (nI 1)], h, 198, sl) = some r1 := hh1
  have er2 : r1 = (some (.int (nI 1)), h, 198, sl) := (rn_ret rfl (Or.inr rfl) hh1).2
  subst er2
  have hh : pm_run PT n fr lo 98 (7, [some (.ref 0), some (.int a), some (.int b), some (.int m)], [.int (nI 1)], h, 198, sl) = some R := hh
  obtain ⟨n, hh⟩ := en_zn (cc := .eq) (off := 5) (t := 12) (b := false) (by decide) rfl rfl hh
  have hh : pm_run PT n fr lo 98 (10, [some (.ref 0), some (.int a), some (.int b), some (.int m)], [], h, 198, sl) = some R := hh
  obtain ⟨n, hh⟩ := rn_i rfl rfl rfl rfl hh
  have hh : pm_run PT n fr lo 98 (11, [some (.ref 0), some (.int a), some (.int b), some (.int m)], [.int (Int32.ofInt (-1))], h, 198, sl) = some R := hh
  have er3 : R = (some (.int (Int32.ofInt (-1))), h, 198, sl) := (rn_ret rfl (Or.inl rfl) hh).2
  have ed : v98w q cc gc a b m = (Int32.ofInt (-1)) := rfl
  rw [ed]
  exact er3
def v99w (q : QT) (cc gc : Nat) (a : Int32) (b : Int32) : Int32 := (Int32.ofInt (-1))
theorem v99w_ok {n fr lo sl cc gc : Nat} {q : QT} {h : pm_H} {R : pm_Rs} {a : Int32} {b : Int32} (hw : HC q cc gc h) (hb : pP cc a b = false) (hh : pm_run PT n fr lo 99 (0, pm_l0 [.ref 0, .int a, .int b] 5, [], h, 198, sl) = some R) : R = (some (.int (v99w q cc gc a b)), h, 198, sl) := by
  have hcc := hw.cb
  have hgc := hw.gb
  have hzr := hw.zr
  obtain ⟨n, hh⟩ := rn_i rfl rfl rfl rfl hh
  obtain ⟨n, hh⟩ := rn_i rfl rfl rfl rfl hh
  obtain ⟨n, hh⟩ := rn_i rfl rfl rfl rfl hh
  have hh : pm_run PT n fr lo 99 (3, [some (.ref 0), some (.int a), some (.int b), none, none], [.int b, .int a, .ref 0], h, 198, sl) = some R := hh
  obtain ⟨n, fr1, lo1, r1, hh1, hh⟩ := rn_call (w := 0) (t := 139) rfl rfl hh
  have hh1 : pm_run PT n fr1 lo1 139 (0, [some (.ref 0), some (.int a), some (.int b)], [], h, 198, sl) = some r1 := hh1
  obtain ⟨n1, hh1⟩ := rn_i rfl rfl rfl rfl hh1
  have hh1 : pm_run PT n1 fr1 lo1 139 (1, [some (.ref 0), some (.int a), some (.int b)], [.ref 0], h, 198, sl) = some r1 := hh1
  obtain ⟨n1, hh1⟩ := rn_gr hw.wt rfl rfl (by decide) rfl (by decide) (show _ = some (2, ((5 : Nat) : Int), 1) from rfl) rfl hh1
  obtain ⟨n1, hh1⟩ := rn_i rfl rfl rfl rfl hh1
  obtain ⟨n1, hh1⟩ := rn_i rfl rfl rfl rfl hh1
  have hh1 : pm_run PT n1 fr1 lo1 139 (6, [some (.ref 0), some (.int a), some (.int b)], [.int b, .int a, .ref 5], h, 198, sl) = some r1 := hh1
  obtain ⟨n1, fr2, lo2, r2, hh2, hh1⟩ := rn_call (w := 0) (t := 24) rfl rfl hh1
  have er1 := xa_run hcc (hc_rC hw) hh2
  subst er1
  have hh1 : pm_run PT n1 fr1 lo1 139 (9, [some (.ref 0), some (.int a), some (.int b)], [.int (cond (pP cc a b) 1 0)], h, 198, sl) = some r1 := hh1
  obtain ⟨n1, hh1⟩ := en_zn (cc := .ne) (off := 5) (t := 14) (b := pP cc a b) eb_ne rfl rfl hh1
  have hh1 := en_f hb hh1
  have hh1 : pm_run PT n1 fr1 lo1 139 (12, [some (.ref 0), some (.int a), some (.int b)], [], h, 198, sl) = some r1 := hh1
  obtain ⟨n1, hh1⟩ := rn_i rfl rfl rfl rfl hh1
  have hh1 : pm_run PT n1 fr1 lo1 139 (13, [some (.ref 0), some (.int a), some (.int b)], [.int (Int32.ofInt (-1))], h, 198, sl) = some r1 := hh1
  have er2 : r1 = (some (.int (Int32.ofInt (-1))), h, 198, sl) := (rn_ret rfl (Or.inl rfl) hh1).2
  subst er2
  obtain ⟨n, hh⟩ := rn_i rfl rfl rfl rfl hh
  obtain ⟨n, hh⟩ := rn_i rfl rfl rfl rfl hh
  have hh : pm_run PT n fr lo 99 (8, [some (.ref 0), some (.int a), some (.int b), some (.int (Int32.ofInt (-1))), none], [.int (Int32.ofInt (-1))], h, 198, sl) = some R := hh
  obtain ⟨n, hh⟩ := en_zn (cc := .ge) (off := 5) (t := 13) (b := pm_cmp .ge (Int32.ofInt (-1)) 0) rfl rfl rfl hh
  have hh := en_f (by decide) hh
  have hh : pm_run PT n fr lo 99 (11, [some (.ref 0), some (.int a), some (.int b), some (.int (Int32.ofInt (-1))), none], [], h, 198, sl) = some R := hh
  obtain ⟨n, hh⟩ := rn_i rfl rfl rfl rfl hh
  have hh : pm_run PT n fr lo 99 (12, [some (.ref 0), some (.int a), some (.int b), some (.int (Int32.ofInt (-1))), none], [.int (Int32.ofInt (-1))], h, 198, sl) = some R := hh
  have er3 : R = (some (.int (Int32.ofInt (-1))), h, 198, sl) := (rn_ret rfl (Or.inl rfl) hh).2
  have ed : v99w q cc gc a b = (Int32.ofInt (-1)) := rfl
  rw [ed]
  exact er3
def v224w (q : QT) (cc gc : Nat) (h : pm_H) (u : Nat) (a : Int32) (b : Int32) (m : Int32) : Int32 × pm_H := ((Int32.ofInt (-1)), v211 q cc gc (fset h 162 0 (.int (nI 0))) u)
theorem v224w_ok {n fr lo sl cc gc : Nat} {q : QT} {h : pm_H} {R : pm_Rs} {u : Nat} {a : Int32} {b : Int32} {m : Int32} (hw : HC q cc gc h) (hb : pP cc a b = false) (hu : u ≤ 15) (e1 : Fi h 162 27 = nI u) (hh : pm_run PT n fr lo 224 (0, pm_l0 [.ref 162, .int a, .int b, .int m] 4, [], h, 198, sl) = some R) : R = (some (.int ((v224w q cc gc h u a b m).1)), (v224w q cc gc h u a b m).2, 198, sl) ∧ HC q cc gc ((v224w q cc gc h u a b m).2) ∧ frm [162, 178] [(162, 0)] h ((v224w q cc gc h u a b m).2) := by
  have hcc := hw.cb
  have hgc := hw.gb
  have hzr := hw.zr
  obtain ⟨n, hh⟩ := rn_i rfl rfl rfl rfl hh
  obtain ⟨n, hh⟩ := rn_i rfl rfl rfl rfl hh
  have hh : pm_run PT n fr lo 224 (2, [some (.ref 162), some (.int a), some (.int b), some (.int m)], [.int (nI 0), .ref 162], h, 198, sl) = some R := hh
  obtain ⟨n, hh⟩ := rn_pi hw.wt rfl rfl (by decide) rfl (by decide) rfl hh
  obtain ⟨n, hh⟩ := rn_i rfl rfl rfl rfl hh
  have hh : pm_run PT n fr lo 224 (6, [some (.ref 162), some (.int a), some (.int b), some (.int m)], [.ref 162], fset h 162 0 (.int (nI 0)), 198, sl) = some R := hh
  obtain ⟨n, fr1, lo1, r1, hh1, hh⟩ := rn_call (w := 0) (t := 211) rfl rfl hh
  obtain ⟨er1, hc2, hf3⟩ := v211_ok (u := u) (hc_f rfl rfl (by decide) rfl hw) hu ((Fi_n (Or.inr (by decide))).trans e1) hh1
  subst er1
  obtain ⟨n, hh⟩ := rn_i rfl rfl rfl rfl hh
  obtain ⟨n, hh⟩ := rn_i rfl rfl rfl rfl hh
  obtain ⟨n, hh⟩ := rn_i rfl rfl rfl rfl hh
  obtain ⟨n, hh⟩ := rn_i rfl rfl rfl rfl hh
  obtain ⟨n, hh⟩ := rn_i rfl rfl rfl rfl hh
  have hh : pm_run PT n fr lo 224 (14, [some (.ref 162), some (.int a), some (.int b), some (.int m)], [.int m, .int b, .int a, .ref 162, .ref 162], v211 q cc gc (fset h 162 0 (.int (nI 0))) u, 198, sl) = some R := hh
  obtain ⟨n, fr1, lo1, r1, hh1, hh⟩ := rn_call (w := 0) (t := 220) rfl rfl hh
  have hh1 : pm_run PT n fr1 lo1 220 (0, [some (.ref 162), some (.int a), some (.int b), some (.int m)], [], v211 q cc gc (fset h 162 0 (.int (nI 0))) u, 198, sl) = some r1 := hh1
  obtain ⟨n1, hh1⟩ := rn_i rfl rfl rfl rfl hh1
  obtain ⟨n1, hh1⟩ := rn_i rfl rfl rfl rfl hh1
  obtain ⟨n1, hh1⟩ := rn_i rfl rfl rfl rfl hh1
  have hh1 : pm_run PT n1 fr1 lo1 220 (3, [some (.ref 162), some (.int a), some (.int b), some (.int m)], [.int b, .int a, .ref 162], v211 q cc gc (fset h 162 0 (.int (nI 0))) u, 198, sl) = some r1 := hh1
  obtain ⟨n1, fr2, lo2, r2, hh2, hh1⟩ := rn_call (w := 0) (t := 170) rfl rfl hh1
  have er4 := ma_run hcc (hc_m3 hc2) hh2
  subst er4
  have hh1 : pm_run PT n1 fr1 lo1 220 (6, [some (.ref 162), some (.int a), some (.int b), some (.int m)], [.int (cond (pP cc a b) 1 0)], v211 q cc gc (fset h 162 0 (.int (nI 0))) u, 198, sl) = some r1 := hh1
  obtain ⟨n1, hh1⟩ := en_zn (cc := .eq) (off := 21) (t := 27) (b := !(pP cc a b)) eb_eq rfl rfl hh1
  have hh1 := en_nf hb hh1
  have hh1 : pm_run PT n1 fr1 lo1 220 (27, [some (.ref 162), some (.int a), some (.int b), some (.int m)], [], v211 q cc gc (fset h 162 0 (.int (nI 0))) u, 198, sl) = some r1 := hh1
  obtain ⟨n1, hh1⟩ := rn_i rfl rfl rfl rfl hh1
  have hh1 : pm_run PT n1 fr1 lo1 220 (28, [some (.ref 162), some (.int a), some (.int b), some (.int m)], [.int (Int32.ofInt (-1))], v211 q cc gc (fset h 162 0 (.int (nI 0))) u, 198, sl) = some r1 := hh1
  have er5 : r1 = (some (.int (Int32.ofInt (-1))), v211 q cc gc (fset h 162 0 (.int (nI 0))) u, 198, sl) := (rn_ret rfl (Or.inl rfl) hh1).2
  subst er5
  have hh : pm_run PT n fr lo 224 (17, [some (.ref 162), some (.int a), some (.int b), some (.int m)], [.int (Int32.ofInt (-1)), .ref 162], v211 q cc gc (fset h 162 0 (.int (nI 0))) u, 198, sl) = some R := hh
  obtain ⟨n, fr1, lo1, r1, hh1, hh⟩ := rn_call (w := 0) (t := 213) rfl rfl hh
  have hh1 : pm_run PT n fr1 lo1 213 (0, [some (.ref 162), some (.int (Int32.ofInt (-1)))], [], v211 q cc gc (fset h 162 0 (.int (nI 0))) u, 198, sl) = some r1 := hh1
  obtain ⟨n1, hh1⟩ := rn_i rfl rfl rfl rfl hh1
  have hh1 : pm_run PT n1 fr1 lo1 213 (1, [some (.ref 162), some (.int (Int32.ofInt (-1)))], [.int (Int32.ofInt (-1))], v211 q cc gc (fset h 162 0 (.int (nI 0))) u, 198, sl) = some r1 := hh1
  obtain ⟨n1, hh1⟩ := en_zn (cc := .ge) (off := 7) (t := 8) (b := pm_cmp .ge (Int32.ofInt (-1)) 0) rfl rfl rfl hh1
  have hh1 := en_f (by decide) hh1
  have hh1 : pm_run PT n1 fr1 lo1 213 (4, [some (.ref 162), some (.int (Int32.ofInt (-1)))], [], v211 q cc gc (fset h 162 0 (.int (nI 0))) u, 198, sl) = some r1 := hh1
  obtain ⟨n1, hh1⟩ := rn_i rfl rfl rfl rfl hh1
  obtain ⟨n1, hh1⟩ := rn_i rfl rfl rfl rfl hh1
  have hh1 : pm_run PT n1 fr1 lo1 213 (13, [some (.ref 162), some (.int (Int32.ofInt (-1)))], [.int (Int32.ofInt (-1))], v211 q cc gc (fset h 162 0 (.int (nI 0))) u, 198, sl) = some r1 := hh1
  have er6 : r1 = (some (.int (Int32.ofInt (-1))), v211 q cc gc (fset h 162 0 (.int (nI 0))) u, 198, sl) := (rn_ret rfl (Or.inl rfl) hh1).2
  subst er6
  have hh : pm_run PT n fr lo 224 (20, [some (.ref 162), some (.int a), some (.int b), some (.int m)], [.int (Int32.ofInt (-1))], v211 q cc gc (fset h 162 0 (.int (nI 0))) u, 198, sl) = some R := hh
  have er7 : R = (some (.int (Int32.ofInt (-1))), v211 q cc gc (fset h 162 0 (.int (nI 0))) u, 198, sl) := (rn_ret rfl (Or.inl rfl) hh).2
  have ed : v224w q cc gc h u a b m = ((Int32.ofInt (-1)), v211 q cc gc (fset h 162 0 (.int (nI 0))) u) := rfl
  refine ⟨?_, ?_, ?_⟩ <;> rw [ed]
  · exact er7
  · exact hc2
  · exact (fr_g rfl rfl hf3 (fr_f rfl rfl fr_0))
def v225w (q : QT) (cc gc : Nat) (h : pm_H) (u : Nat) (a : Int32) (b : Int32) : Int32 × pm_H := ((Int32.ofInt (-1)), v211 q cc gc (fset h 162 0 (.int (nI 0))) u)
theorem v225w_ok {n fr lo sl cc gc : Nat} {q : QT} {h : pm_H} {R : pm_Rs} {u : Nat} {a : Int32} {b : Int32} (hw : HC q cc gc h) (hb : pP cc a b = false) (hu : u ≤ 15) (e1 : Fi h 162 27 = nI u) (hh : pm_run PT n fr lo 225 (0, pm_l0 [.ref 162, .int a, .int b] 3, [], h, 198, sl) = some R) : R = (some (.int ((v225w q cc gc h u a b).1)), (v225w q cc gc h u a b).2, 198, sl) ∧ HC q cc gc ((v225w q cc gc h u a b).2) ∧ frm [162, 178] [(162, 0)] h ((v225w q cc gc h u a b).2) := by
  have hcc := hw.cb
  have hgc := hw.gb
  have hzr := hw.zr
  obtain ⟨n, hh⟩ := rn_i rfl rfl rfl rfl hh
  obtain ⟨n, hh⟩ := rn_i rfl rfl rfl rfl hh
  have hh : pm_run PT n fr lo 225 (2, [some (.ref 162), some (.int a), some (.int b)], [.int (nI 0), .ref 162], h, 198, sl) = some R := hh
  obtain ⟨n, hh⟩ := rn_pi hw.wt rfl rfl (by decide) rfl (by decide) rfl hh
  obtain ⟨n, hh⟩ := rn_i rfl rfl rfl rfl hh
  have hh : pm_run PT n fr lo 225 (6, [some (.ref 162), some (.int a), some (.int b)], [.ref 162], fset h 162 0 (.int (nI 0)), 198, sl) = some R := hh
  obtain ⟨n, fr1, lo1, r1, hh1, hh⟩ := rn_call (w := 0) (t := 211) rfl rfl hh
  obtain ⟨er1, hc2, hf3⟩ := v211_ok (u := u) (hc_f rfl rfl (by decide) rfl hw) hu ((Fi_n (Or.inr (by decide))).trans e1) hh1
  subst er1
  obtain ⟨n, hh⟩ := rn_i rfl rfl rfl rfl hh
  obtain ⟨n, hh⟩ := rn_i rfl rfl rfl rfl hh
  obtain ⟨n, hh⟩ := rn_i rfl rfl rfl rfl hh
  obtain ⟨n, hh⟩ := rn_i rfl rfl rfl rfl hh
  have hh : pm_run PT n fr lo 225 (13, [some (.ref 162), some (.int a), some (.int b)], [.int b, .int a, .ref 162, .ref 162], v211 q cc gc (fset h 162 0 (.int (nI 0))) u, 198, sl) = some R := hh
  obtain ⟨n, fr1, lo1, r1, hh1, hh⟩ := rn_call (w := 0) (t := 221) rfl rfl hh
  have hh1 : pm_run PT n fr1 lo1 221 (0, [some (.ref 162), some (.int a), some (.int b), none, none], [], v211 q cc gc (fset h 162 0 (.int (nI 0))) u, 198, sl) = some r1 := hh1
  obtain ⟨n1, hh1⟩ := rn_i rfl rfl rfl rfl hh1
  obtain ⟨n1, hh1⟩ := rn_i rfl rfl rfl rfl hh1
  obtain ⟨n1, hh1⟩ := rn_i rfl rfl rfl rfl hh1
  have hh1 : pm_run PT n1 fr1 lo1 221 (3, [some (.ref 162), some (.int a), some (.int b), none, none], [.int b, .int a, .ref 162], v211 q cc gc (fset h 162 0 (.int (nI 0))) u, 198, sl) = some r1 := hh1
  obtain ⟨n1, fr2, lo2, r2, hh2, hh1⟩ := rn_call (w := 0) (t := 170) rfl rfl hh1
  have er4 := ma_run hcc (hc_m3 hc2) hh2
  subst er4
  have hh1 : pm_run PT n1 fr1 lo1 221 (6, [some (.ref 162), some (.int a), some (.int b), none, none], [.int (cond (pP cc a b) 1 0)], v211 q cc gc (fset h 162 0 (.int (nI 0))) u, 198, sl) = some r1 := hh1
  obtain ⟨n1, hh1⟩ := en_zn (cc := .ne) (off := 5) (t := 11) (b := pP cc a b) eb_ne rfl rfl hh1
  have hh1 := en_f hb hh1
  have hh1 : pm_run PT n1 fr1 lo1 221 (9, [some (.ref 162), some (.int a), some (.int b), none, none], [], v211 q cc gc (fset h 162 0 (.int (nI 0))) u, 198, sl) = some r1 := hh1
  obtain ⟨n1, hh1⟩ := rn_i rfl rfl rfl rfl hh1
  have hh1 : pm_run PT n1 fr1 lo1 221 (10, [some (.ref 162), some (.int a), some (.int b), none, none], [.int (Int32.ofInt (-1))], v211 q cc gc (fset h 162 0 (.int (nI 0))) u, 198, sl) = some r1 := hh1
  have er5 : r1 = (some (.int (Int32.ofInt (-1))), v211 q cc gc (fset h 162 0 (.int (nI 0))) u, 198, sl) := (rn_ret rfl (Or.inl rfl) hh1).2
  subst er5
  have hh : pm_run PT n fr lo 225 (16, [some (.ref 162), some (.int a), some (.int b)], [.int (Int32.ofInt (-1)), .ref 162], v211 q cc gc (fset h 162 0 (.int (nI 0))) u, 198, sl) = some R := hh
  obtain ⟨n, fr1, lo1, r1, hh1, hh⟩ := rn_call (w := 0) (t := 213) rfl rfl hh
  have hh1 : pm_run PT n fr1 lo1 213 (0, [some (.ref 162), some (.int (Int32.ofInt (-1)))], [], v211 q cc gc (fset h 162 0 (.int (nI 0))) u, 198, sl) = some r1 := hh1
  obtain ⟨n1, hh1⟩ := rn_i rfl rfl rfl rfl hh1
  have hh1 : pm_run PT n1 fr1 lo1 213 (1, [some (.ref 162), some (.int (Int32.ofInt (-1)))], [.int (Int32.ofInt (-1))], v211 q cc gc (fset h 162 0 (.int (nI 0))) u, 198, sl) = some r1 := hh1
  obtain ⟨n1, hh1⟩ := en_zn (cc := .ge) (off := 7) (t := 8) (b := pm_cmp .ge (Int32.ofInt (-1)) 0) rfl rfl rfl hh1
  have hh1 := en_f (by decide) hh1
  have hh1 : pm_run PT n1 fr1 lo1 213 (4, [some (.ref 162), some (.int (Int32.ofInt (-1)))], [], v211 q cc gc (fset h 162 0 (.int (nI 0))) u, 198, sl) = some r1 := hh1
  obtain ⟨n1, hh1⟩ := rn_i rfl rfl rfl rfl hh1
  obtain ⟨n1, hh1⟩ := rn_i rfl rfl rfl rfl hh1
  have hh1 : pm_run PT n1 fr1 lo1 213 (13, [some (.ref 162), some (.int (Int32.ofInt (-1)))], [.int (Int32.ofInt (-1))], v211 q cc gc (fset h 162 0 (.int (nI 0))) u, 198, sl) = some r1 := hh1
  have er6 : r1 = (some (.int (Int32.ofInt (-1))), v211 q cc gc (fset h 162 0 (.int (nI 0))) u, 198, sl) := (rn_ret rfl (Or.inl rfl) hh1).2
  subst er6
  have hh : pm_run PT n fr lo 225 (19, [some (.ref 162), some (.int a), some (.int b)], [.int (Int32.ofInt (-1))], v211 q cc gc (fset h 162 0 (.int (nI 0))) u, 198, sl) = some R := hh
  have er7 : R = (some (.int (Int32.ofInt (-1))), v211 q cc gc (fset h 162 0 (.int (nI 0))) u, 198, sl) := (rn_ret rfl (Or.inl rfl) hh).2
  have ed : v225w q cc gc h u a b = ((Int32.ofInt (-1)), v211 q cc gc (fset h 162 0 (.int (nI 0))) u) := rfl
  refine ⟨?_, ?_, ?_⟩ <;> rw [ed]
  · exact er7
  · exact hc2
  · exact (fr_g rfl rfl hf3 (fr_f rfl rfl fr_0))
def v97w1 (q : QT) (cc gc : Nat) (m : Int32) : Int32 := (Int32.ofInt (-1))
theorem v97w1_ok {n fr lo sl cc gc : Nat} {q : QT} {h : pm_H} {R : pm_Rs} {m : Int32} (hw : HC q cc gc h) (hb : pm_cmp .lt m 0 = true) (hh : pm_run PT n fr lo 97 (0, pm_l0 [.ref 0, .int m] 4, [], h, 198, sl) = some R) : R = (some (.int (v97w1 q cc gc m)), h, 198, sl) := by
  have hcc := hw.cb
  have hgc := hw.gb
  have hzr := hw.zr
  obtain ⟨n, hh⟩ := rn_i rfl rfl rfl rfl hh
  have hh : pm_run PT n fr lo 97 (1, [some (.ref 0), some (.int m), none, none], [.int m], h, 198, sl) = some R := hh
  obtain ⟨n, hh⟩ := en_zn (cc := .lt) (off := 9) (t := 10) (b := pm_cmp .lt m 0) rfl rfl rfl hh
  have hh := en_t hb hh
  have hh : pm_run PT n fr lo 97 (10, [some (.ref 0), some (.int m), none, none], [], h, 198, sl) = some R := hh
  obtain ⟨n, hh⟩ := rn_i rfl rfl rfl rfl hh
  have hh : pm_run PT n fr lo 97 (11, [some (.ref 0), some (.int m), none, none], [.int (Int32.ofInt (-1))], h, 198, sl) = some R := hh
  have er1 : R = (some (.int (Int32.ofInt (-1))), h, 198, sl) := (rn_ret rfl (Or.inl rfl) hh).2
  have ed : v97w1 q cc gc m = (Int32.ofInt (-1)) := rfl
  rw [ed]
  exact er1
theorem v97w2_ok {n fr lo sl cc gc : Nat} {q : QT} {h : pm_H} {R : pm_Rs} {m : Int32} (hw : HC q cc gc h) (hb1 : pm_cmp .lt m 0 = false) (hb2 : pm_cmp .le m (nI 60) = false) (hh : pm_run PT n fr lo 97 (0, pm_l0 [.ref 0, .int m] 4, [], h, 198, sl) = some R) : R = (some (.int (v97w1 q cc gc m)), h, 198, sl) := by
  have hcc := hw.cb
  have hgc := hw.gb
  have hzr := hw.zr
  obtain ⟨n, hh⟩ := rn_i rfl rfl rfl rfl hh
  have hh : pm_run PT n fr lo 97 (1, [some (.ref 0), some (.int m), none, none], [.int m], h, 198, sl) = some R := hh
  obtain ⟨n, hh⟩ := en_zn (cc := .lt) (off := 9) (t := 10) (b := pm_cmp .lt m 0) rfl rfl rfl hh
  have hh := en_f hb1 hh
  have hh : pm_run PT n fr lo 97 (4, [some (.ref 0), some (.int m), none, none], [], h, 198, sl) = some R := hh
  obtain ⟨n, hh⟩ := rn_i rfl rfl rfl rfl hh
  obtain ⟨n, hh⟩ := rn_i rfl rfl rfl rfl hh
  have hh : pm_run PT n fr lo 97 (7, [some (.ref 0), some (.int m), none, none], [.int (nI 60), .int m], h, 198, sl) = some R := hh
  obtain ⟨n, hh⟩ := en_cn (cc := .le) (off := 5) (t := 12) (b := pm_cmp .le m (nI 60)) rfl rfl rfl hh
  have hh := en_f hb2 hh
  have hh : pm_run PT n fr lo 97 (10, [some (.ref 0), some (.int m), none, none], [], h, 198, sl) = some R := hh
  obtain ⟨n, hh⟩ := rn_i rfl rfl rfl rfl hh
  have hh : pm_run PT n fr lo 97 (11, [some (.ref 0), some (.int m), none, none], [.int (Int32.ofInt (-1))], h, 198, sl) = some R := hh
  have er1 : R = (some (.int (Int32.ofInt (-1))), h, 198, sl) := (rn_ret rfl (Or.inl rfl) hh).2
  have ed : v97w1 q cc gc m = (Int32.ofInt (-1)) := rfl
  rw [ed]
  exact er1
def v223w (q : QT) (cc gc : Nat) (h : pm_H) (m : Int32) : Int32 × pm_H := ((Int32.ofInt (-1)), fset h 162 0 (.int (nI 0)))
theorem v223w_ok {n fr lo sl cc gc : Nat} {q : QT} {h : pm_H} {R : pm_Rs} {m : Int32} (hw : HC q cc gc h) (hb : in_b ((m).toInt64) (Int64.ofNat 0) (60 : Int64) = false) (hh : pm_run PT n fr lo 223 (0, pm_l0 [.ref 162, .int m] 4, [], h, 198, sl) = some R) : R = (some (.int ((v223w q cc gc h m).1)), (v223w q cc gc h m).2, 198, sl) ∧ HC q cc gc ((v223w q cc gc h m).2) ∧ frm [162] [(162, 0)] h ((v223w q cc gc h m).2) := by
  have hcc := hw.cb
  have hgc := hw.gb
  have hzr := hw.zr
  obtain ⟨n, hh⟩ := rn_i rfl rfl rfl rfl hh
  obtain ⟨n, hh⟩ := rn_i rfl rfl rfl rfl hh
  have hh : pm_run PT n fr lo 223 (2, [some (.ref 162), some (.int m), none, none], [.int (nI 0), .ref 162], h, 198, sl) = some R := hh
  obtain ⟨n, hh⟩ := rn_pi hw.wt rfl rfl (by decide) rfl (by decide) rfl hh
  obtain ⟨n, hh⟩ := rn_i rfl rfl rfl rfl hh
  obtain ⟨n, hh⟩ := rn_i rfl rfl rfl rfl hh
  obtain ⟨n, hh⟩ := rn_i rfl rfl rfl rfl hh
  obtain ⟨n, hh⟩ := rn_i rfl rfl rfl rfl hh
  have hh : pm_run PT n fr lo 223 (11, [some (.ref 162), some (.int m), none, none], [.long (60 : Int64), .long (Int64.ofNat 0), .long ((m).toInt64)], fset h 162 0 (.int (nI 0)), 198, sl) = some R := hh
  obtain ⟨n, fr1, lo1, r1, hh1, hh⟩ := rn_call (w := 2) (t := 163) rfl rfl hh
  have er1 := rn_dt (F := 10) (Lo := 1000) (hd_in (fr := 10) (lo := 1000) (h := fset h 162 0 (.int (nI 0))) (sl := sl) ((m).toInt64) (Int64.ofNat 0) (60 : Int64)) hh1
  subst er1
  have hh : pm_run PT n fr lo 223 (14, [some (.ref 162), some (.int m), none, none], [.int (cond (in_b ((m).toInt64) (Int64.ofNat 0) (60 : Int64)) 1 0)], fset h 162 0 (.int (nI 0)), 198, sl) = some R := hh
  obtain ⟨n, hh⟩ := en_zn (cc := .ne) (off := 5) (t := 19) (b := in_b ((m).toInt64) (Int64.ofNat 0) (60 : Int64)) eb_ne rfl rfl hh
  have hh := en_f hb hh
  have hh : pm_run PT n fr lo 223 (17, [some (.ref 162), some (.int m), none, none], [], fset h 162 0 (.int (nI 0)), 198, sl) = some R := hh
  obtain ⟨n, hh⟩ := rn_i rfl rfl rfl rfl hh
  have hh : pm_run PT n fr lo 223 (18, [some (.ref 162), some (.int m), none, none], [.int (Int32.ofInt (-1))], fset h 162 0 (.int (nI 0)), 198, sl) = some R := hh
  have er2 : R = (some (.int (Int32.ofInt (-1))), fset h 162 0 (.int (nI 0)), 198, sl) := (rn_ret rfl (Or.inl rfl) hh).2
  have ed : v223w q cc gc h m = ((Int32.ofInt (-1)), fset h 162 0 (.int (nI 0))) := rfl
  refine ⟨?_, ?_, ?_⟩ <;> rw [ed]
  · exact er2
  · exact (hc_f rfl rfl (by decide) rfl hw)
  · exact (fr_f rfl rfl fr_0)
def v102w1 (q : QT) (cc gc : Nat) (g : Int32) (c : Int32) : Int32 := (Int32.ofInt (-1))
theorem v102w1_ok {n fr lo sl cc gc : Nat} {q : QT} {h : pm_H} {R : pm_Rs} {g : Int32} {c : Int32} (hw : HC q cc gc h) (hb1 : cB gc g = false) (hh : pm_run PT n fr lo 102 (0, pm_l0 [.ref 0, .int g, .int c] 3, [], h, 198, sl) = some R) : R = (some (.int (v102w1 q cc gc g c)), h, 198, sl) := by
  have hcc := hw.cb
  have hgc := hw.gb
  have hzr := hw.zr
  obtain ⟨n, hh⟩ := rn_i rfl rfl rfl rfl hh
  have hh : pm_run PT n fr lo 102 (1, [some (.ref 0), some (.int g), some (.int c)], [.ref 0], h, 198, sl) = some R := hh
  obtain ⟨n, hh⟩ := rn_gr hw.wt rfl rfl (by decide) rfl (by decide) (show _ = some (2, ((5 : Nat) : Int), 1) from rfl) rfl hh
  obtain ⟨n, hh⟩ := rn_i rfl rfl rfl rfl hh
  have hh : pm_run PT n fr lo 102 (5, [some (.ref 0), some (.int g), some (.int c)], [.int g, .ref 5], h, 198, sl) = some R := hh
  obtain ⟨n, fr1, lo1, r1, hh1, hh⟩ := rn_call (w := 0) (t := 25) rfl rfl hh
  have er1 := en_xg hgc (hc_rG hw) hh1
  subst er1
  have hh : pm_run PT n fr lo 102 (8, [some (.ref 0), some (.int g), some (.int c)], [.int (cond (cB gc g) 1 0)], h, 198, sl) = some R := hh
  obtain ⟨n, hh⟩ := en_zn (cc := .eq) (off := 14) (t := 22) (b := !(cB gc g)) eb_eq rfl rfl hh
  have hh := en_nf hb1 hh
  have hh : pm_run PT n fr lo 102 (22, [some (.ref 0), some (.int g), some (.int c)], [], h, 198, sl) = some R := hh
  obtain ⟨n, hh⟩ := rn_i rfl rfl rfl rfl hh
  have hh : pm_run PT n fr lo 102 (23, [some (.ref 0), some (.int g), some (.int c)], [.int (Int32.ofInt (-1))], h, 198, sl) = some R := hh
  have er2 : R = (some (.int (Int32.ofInt (-1))), h, 198, sl) := (rn_ret rfl (Or.inl rfl) hh).2
  have ed : v102w1 q cc gc g c = (Int32.ofInt (-1)) := rfl
  rw [ed]
  exact er2
def v230w1 (q : QT) (cc gc : Nat) (h : pm_H) (g : Int32) (c : Int32) : Int32 × pm_H := ((Int32.ofInt (-1)), fset h 162 0 (.int (nI 0)))
theorem v230w1_ok {n fr lo sl cc gc : Nat} {q : QT} {h : pm_H} {R : pm_Rs} {g : Int32} {c : Int32} (hw : HC q cc gc h) (hb1 : cB gc g = false) (hh : pm_run PT n fr lo 230 (0, pm_l0 [.ref 162, .int g, .int c] 3, [], h, 198, sl) = some R) : R = (some (.int ((v230w1 q cc gc h g c).1)), (v230w1 q cc gc h g c).2, 198, sl) ∧ HC q cc gc ((v230w1 q cc gc h g c).2) ∧ frm [162] [(162, 0)] h ((v230w1 q cc gc h g c).2) := by
  have hcc := hw.cb
  have hgc := hw.gb
  have hzr := hw.zr
  obtain ⟨n, hh⟩ := rn_i rfl rfl rfl rfl hh
  obtain ⟨n, hh⟩ := rn_i rfl rfl rfl rfl hh
  have hh : pm_run PT n fr lo 230 (2, [some (.ref 162), some (.int g), some (.int c)], [.int (nI 0), .ref 162], h, 198, sl) = some R := hh
  obtain ⟨n, hh⟩ := rn_pi hw.wt rfl rfl (by decide) rfl (by decide) rfl hh
  obtain ⟨n, hh⟩ := rn_i rfl rfl rfl rfl hh
  obtain ⟨n, hh⟩ := rn_i rfl rfl rfl rfl hh
  have hh : pm_run PT n fr lo 230 (7, [some (.ref 162), some (.int g), some (.int c)], [.int g, .ref 162], fset h 162 0 (.int (nI 0)), 198, sl) = some R := hh
  obtain ⟨n, fr1, lo1, r1, hh1, hh⟩ := rn_call (w := 0) (t := 169) rfl rfl hh
  have er1 := en_mg hgc (hc_m4 (hc_f rfl rfl (by decide) rfl hw)) hh1
  subst er1
  have hh : pm_run PT n fr lo 230 (10, [some (.ref 162), some (.int g), some (.int c)], [.int (cond (cB gc g) 1 0)], fset h 162 0 (.int (nI 0)), 198, sl) = some R := hh
  obtain ⟨n, hh⟩ := en_zn (cc := .eq) (off := 24) (t := 34) (b := !(cB gc g)) eb_eq rfl rfl hh
  have hh := en_nf hb1 hh
  have hh : pm_run PT n fr lo 230 (34, [some (.ref 162), some (.int g), some (.int c)], [], fset h 162 0 (.int (nI 0)), 198, sl) = some R := hh
  obtain ⟨n, hh⟩ := rn_i rfl rfl rfl rfl hh
  have hh : pm_run PT n fr lo 230 (35, [some (.ref 162), some (.int g), some (.int c)], [.int (Int32.ofInt (-1))], fset h 162 0 (.int (nI 0)), 198, sl) = some R := hh
  have er2 : R = (some (.int (Int32.ofInt (-1))), fset h 162 0 (.int (nI 0)), 198, sl) := (rn_ret rfl (Or.inl rfl) hh).2
  have ed : v230w1 q cc gc h g c = ((Int32.ofInt (-1)), fset h 162 0 (.int (nI 0))) := rfl
  refine ⟨?_, ?_, ?_⟩ <;> rw [ed]
  · exact er2
  · exact (hc_f rfl rfl (by decide) rfl hw)
  · exact (fr_f rfl rfl fr_0)
theorem v102w2_ok {n fr lo sl cc gc : Nat} {q : QT} {h : pm_H} {R : pm_Rs} {g : Int32} {c : Int32} (hw : HC q cc gc h) (hb1 : cB gc g = true) (hb2 : cB cc c = false) (hh : pm_run PT n fr lo 102 (0, pm_l0 [.ref 0, .int g, .int c] 3, [], h, 198, sl) = some R) : R = (some (.int (v102w1 q cc gc g c)), h, 198, sl) := by
  have hcc := hw.cb
  have hgc := hw.gb
  have hzr := hw.zr
  obtain ⟨n, hh⟩ := rn_i rfl rfl rfl rfl hh
  have hh : pm_run PT n fr lo 102 (1, [some (.ref 0), some (.int g), some (.int c)], [.ref 0], h, 198, sl) = some R := hh
  obtain ⟨n, hh⟩ := rn_gr hw.wt rfl rfl (by decide) rfl (by decide) (show _ = some (2, ((5 : Nat) : Int), 1) from rfl) rfl hh
  obtain ⟨n, hh⟩ := rn_i rfl rfl rfl rfl hh
  have hh : pm_run PT n fr lo 102 (5, [some (.ref 0), some (.int g), some (.int c)], [.int g, .ref 5], h, 198, sl) = some R := hh
  obtain ⟨n, fr1, lo1, r1, hh1, hh⟩ := rn_call (w := 0) (t := 25) rfl rfl hh
  have er1 := en_xg hgc (hc_rG hw) hh1
  subst er1
  have hh : pm_run PT n fr lo 102 (8, [some (.ref 0), some (.int g), some (.int c)], [.int (cond (cB gc g) 1 0)], h, 198, sl) = some R := hh
  obtain ⟨n, hh⟩ := en_zn (cc := .eq) (off := 14) (t := 22) (b := !(cB gc g)) eb_eq rfl rfl hh
  have hh := en_nt hb1 hh
  have hh : pm_run PT n fr lo 102 (11, [some (.ref 0), some (.int g), some (.int c)], [], h, 198, sl) = some R := hh
  obtain ⟨n, hh⟩ := rn_i rfl rfl rfl rfl hh
  have hh : pm_run PT n fr lo 102 (12, [some (.ref 0), some (.int g), some (.int c)], [.ref 0], h, 198, sl) = some R := hh
  obtain ⟨n, hh⟩ := rn_gr hw.wt rfl rfl (by decide) rfl (by decide) (show _ = some (2, ((5 : Nat) : Int), 1) from rfl) rfl hh
  obtain ⟨n, hh⟩ := rn_i rfl rfl rfl rfl hh
  have hh : pm_run PT n fr lo 102 (16, [some (.ref 0), some (.int g), some (.int c)], [.int c, .ref 5], h, 198, sl) = some R := hh
  obtain ⟨n, fr1, lo1, r1, hh1, hh⟩ := rn_call (w := 0) (t := 23) rfl rfl hh
  have er2 := xi_run hcc (hc_rC hw) hh1
  subst er2
  have hh : pm_run PT n fr lo 102 (19, [some (.ref 0), some (.int g), some (.int c)], [.int (cond (cB cc c) 1 0)], h, 198, sl) = some R := hh
  obtain ⟨n, hh⟩ := en_zn (cc := .ne) (off := 5) (t := 24) (b := cB cc c) eb_ne rfl rfl hh
  have hh := en_f hb2 hh
  have hh : pm_run PT n fr lo 102 (22, [some (.ref 0), some (.int g), some (.int c)], [], h, 198, sl) = some R := hh
  obtain ⟨n, hh⟩ := rn_i rfl rfl rfl rfl hh
  have hh : pm_run PT n fr lo 102 (23, [some (.ref 0), some (.int g), some (.int c)], [.int (Int32.ofInt (-1))], h, 198, sl) = some R := hh
  have er3 : R = (some (.int (Int32.ofInt (-1))), h, 198, sl) := (rn_ret rfl (Or.inl rfl) hh).2
  have ed : v102w1 q cc gc g c = (Int32.ofInt (-1)) := rfl
  rw [ed]
  exact er3
def v230w2 (q : QT) (cc gc : Nat) (h : pm_H) (g : Int32) (c : Int32) : Int32 × pm_H := ((Int32.ofInt (-1)), fset h 162 0 (.int (nI 0)))
theorem v230w2_ok {n fr lo sl cc gc : Nat} {q : QT} {h : pm_H} {R : pm_Rs} {g : Int32} {c : Int32} (hw : HC q cc gc h) (hb1 : cB gc g = true) (hb2 : cB cc c = false) (hh : pm_run PT n fr lo 230 (0, pm_l0 [.ref 162, .int g, .int c] 3, [], h, 198, sl) = some R) : R = (some (.int ((v230w2 q cc gc h g c).1)), (v230w2 q cc gc h g c).2, 198, sl) ∧ HC q cc gc ((v230w2 q cc gc h g c).2) ∧ frm [162] [(162, 0)] h ((v230w2 q cc gc h g c).2) := by
  have hcc := hw.cb
  have hgc := hw.gb
  have hzr := hw.zr
  obtain ⟨n, hh⟩ := rn_i rfl rfl rfl rfl hh
  obtain ⟨n, hh⟩ := rn_i rfl rfl rfl rfl hh
  have hh : pm_run PT n fr lo 230 (2, [some (.ref 162), some (.int g), some (.int c)], [.int (nI 0), .ref 162], h, 198, sl) = some R := hh
  obtain ⟨n, hh⟩ := rn_pi hw.wt rfl rfl (by decide) rfl (by decide) rfl hh
  obtain ⟨n, hh⟩ := rn_i rfl rfl rfl rfl hh
  obtain ⟨n, hh⟩ := rn_i rfl rfl rfl rfl hh
  have hh : pm_run PT n fr lo 230 (7, [some (.ref 162), some (.int g), some (.int c)], [.int g, .ref 162], fset h 162 0 (.int (nI 0)), 198, sl) = some R := hh
  obtain ⟨n, fr1, lo1, r1, hh1, hh⟩ := rn_call (w := 0) (t := 169) rfl rfl hh
  have er1 := en_mg hgc (hc_m4 (hc_f rfl rfl (by decide) rfl hw)) hh1
  subst er1
  have hh : pm_run PT n fr lo 230 (10, [some (.ref 162), some (.int g), some (.int c)], [.int (cond (cB gc g) 1 0)], fset h 162 0 (.int (nI 0)), 198, sl) = some R := hh
  obtain ⟨n, hh⟩ := en_zn (cc := .eq) (off := 24) (t := 34) (b := !(cB gc g)) eb_eq rfl rfl hh
  have hh := en_nt hb1 hh
  have hh : pm_run PT n fr lo 230 (13, [some (.ref 162), some (.int g), some (.int c)], [], fset h 162 0 (.int (nI 0)), 198, sl) = some R := hh
  obtain ⟨n, hh⟩ := rn_i rfl rfl rfl rfl hh
  obtain ⟨n, hh⟩ := rn_i rfl rfl rfl rfl hh
  have hh : pm_run PT n fr lo 230 (15, [some (.ref 162), some (.int g), some (.int c)], [.int c, .ref 162], fset h 162 0 (.int (nI 0)), 198, sl) = some R := hh
  obtain ⟨n, fr1, lo1, r1, hh1, hh⟩ := rn_call (w := 0) (t := 168) rfl rfl hh
  have er2 := mi_run hcc (hc_m3 (hc_f rfl rfl (by decide) rfl hw)) hh1
  subst er2
  have hh : pm_run PT n fr lo 230 (18, [some (.ref 162), some (.int g), some (.int c)], [.int (cond (cB cc c) 1 0)], fset h 162 0 (.int (nI 0)), 198, sl) = some R := hh
  obtain ⟨n, hh⟩ := en_zn (cc := .eq) (off := 16) (t := 34) (b := !(cB cc c)) eb_eq rfl rfl hh
  have hh := en_nf hb2 hh
  have hh : pm_run PT n fr lo 230 (34, [some (.ref 162), some (.int g), some (.int c)], [], fset h 162 0 (.int (nI 0)), 198, sl) = some R := hh
  obtain ⟨n, hh⟩ := rn_i rfl rfl rfl rfl hh
  have hh : pm_run PT n fr lo 230 (35, [some (.ref 162), some (.int g), some (.int c)], [.int (Int32.ofInt (-1))], fset h 162 0 (.int (nI 0)), 198, sl) = some R := hh
  have er3 : R = (some (.int (Int32.ofInt (-1))), fset h 162 0 (.int (nI 0)), 198, sl) := (rn_ret rfl (Or.inl rfl) hh).2
  have ed : v230w2 q cc gc h g c = ((Int32.ofInt (-1)), fset h 162 0 (.int (nI 0))) := rfl
  refine ⟨?_, ?_, ?_⟩ <;> rw [ed]
  · exact er3
  · exact (hc_f rfl rfl (by decide) rfl hw)
  · exact (fr_f rfl rfl fr_0)
def v103w (q : QT) (cc gc : Nat) (g : Int32) : Int32 := (Int32.ofInt (-1))
theorem v103w_ok {n fr lo sl cc gc : Nat} {q : QT} {h : pm_H} {R : pm_Rs} {g : Int32} (hw : HC q cc gc h) (hb : cB gc g = false) (hh : pm_run PT n fr lo 103 (0, pm_l0 [.ref 0, .int g] 7, [], h, 198, sl) = some R) : R = (some (.int (v103w q cc gc g)), h, 198, sl) := by
  have hcc := hw.cb
  have hgc := hw.gb
  have hzr := hw.zr
  obtain ⟨n, hh⟩ := rn_i rfl rfl rfl rfl hh
  have hh : pm_run PT n fr lo 103 (1, [some (.ref 0), some (.int g), none, none, none, none, none], [.ref 0], h, 198, sl) = some R := hh
  obtain ⟨n, hh⟩ := rn_gr hw.wt rfl rfl (by decide) rfl (by decide) (show _ = some (2, ((5 : Nat) : Int), 1) from rfl) rfl hh
  obtain ⟨n, hh⟩ := rn_i rfl rfl rfl rfl hh
  have hh : pm_run PT n fr lo 103 (5, [some (.ref 0), some (.int g), none, none, none, none, none], [.int g, .ref 5], h, 198, sl) = some R := hh
  obtain ⟨n, fr1, lo1, r1, hh1, hh⟩ := rn_call (w := 0) (t := 25) rfl rfl hh
  have er1 := en_xg hgc (hc_rG hw) hh1
  subst er1
  have hh : pm_run PT n fr lo 103 (8, [some (.ref 0), some (.int g), none, none, none, none, none], [.int (cond (cB gc g) 1 0)], h, 198, sl) = some R := hh
  obtain ⟨n, hh⟩ := en_zn (cc := .ne) (off := 5) (t := 13) (b := cB gc g) eb_ne rfl rfl hh
  have hh := en_f hb hh
  have hh : pm_run PT n fr lo 103 (11, [some (.ref 0), some (.int g), none, none, none, none, none], [], h, 198, sl) = some R := hh
  obtain ⟨n, hh⟩ := rn_i rfl rfl rfl rfl hh
  have hh : pm_run PT n fr lo 103 (12, [some (.ref 0), some (.int g), none, none, none, none, none], [.int (Int32.ofInt (-1))], h, 198, sl) = some R := hh
  have er2 : R = (some (.int (Int32.ofInt (-1))), h, 198, sl) := (rn_ret rfl (Or.inl rfl) hh).2
  have ed : v103w q cc gc g = (Int32.ofInt (-1)) := rfl
  rw [ed]
  exact er2
def v231w (q : QT) (cc gc : Nat) (h : pm_H) (g : Int32) : Int32 × pm_H := ((Int32.ofInt (-1)), fset h 162 0 (.int (nI 0)))
theorem v231w_ok {n fr lo sl cc gc : Nat} {q : QT} {h : pm_H} {R : pm_Rs} {g : Int32} (hw : HC q cc gc h) (hb : cB gc g = false) (hh : pm_run PT n fr lo 231 (0, pm_l0 [.ref 162, .int g] 7, [], h, 198, sl) = some R) : R = (some (.int ((v231w q cc gc h g).1)), (v231w q cc gc h g).2, 198, sl) ∧ HC q cc gc ((v231w q cc gc h g).2) ∧ frm [162] [(162, 0)] h ((v231w q cc gc h g).2) := by
  have hcc := hw.cb
  have hgc := hw.gb
  have hzr := hw.zr
  obtain ⟨n, hh⟩ := rn_i rfl rfl rfl rfl hh
  obtain ⟨n, hh⟩ := rn_i rfl rfl rfl rfl hh
  have hh : pm_run PT n fr lo 231 (2, [some (.ref 162), some (.int g), none, none, none, none, none], [.int (nI 0), .ref 162], h, 198, sl) = some R := hh
  obtain ⟨n, hh⟩ := rn_pi hw.wt rfl rfl (by decide) rfl (by decide) rfl hh
  obtain ⟨n, hh⟩ := rn_i rfl rfl rfl rfl hh
  obtain ⟨n, hh⟩ := rn_i rfl rfl rfl rfl hh
  have hh : pm_run PT n fr lo 231 (7, [some (.ref 162), some (.int g), none, none, none, none, none], [.int g, .ref 162], fset h 162 0 (.int (nI 0)), 198, sl) = some R := hh
  obtain ⟨n, fr1, lo1, r1, hh1, hh⟩ := rn_call (w := 0) (t := 169) rfl rfl hh
  have er1 := en_mg hgc (hc_m4 (hc_f rfl rfl (by decide) rfl hw)) hh1
  subst er1
  have hh : pm_run PT n fr lo 231 (10, [some (.ref 162), some (.int g), none, none, none, none, none], [.int (cond (cB gc g) 1 0)], fset h 162 0 (.int (nI 0)), 198, sl) = some R := hh
  obtain ⟨n, hh⟩ := en_zn (cc := .ne) (off := 5) (t := 15) (b := cB gc g) eb_ne rfl rfl hh
  have hh := en_f hb hh
  have hh : pm_run PT n fr lo 231 (13, [some (.ref 162), some (.int g), none, none, none, none, none], [], fset h 162 0 (.int (nI 0)), 198, sl) = some R := hh
  obtain ⟨n, hh⟩ := rn_i rfl rfl rfl rfl hh
  have hh : pm_run PT n fr lo 231 (14, [some (.ref 162), some (.int g), none, none, none, none, none], [.int (Int32.ofInt (-1))], fset h 162 0 (.int (nI 0)), 198, sl) = some R := hh
  have er2 : R = (some (.int (Int32.ofInt (-1))), fset h 162 0 (.int (nI 0)), 198, sl) := (rn_ret rfl (Or.inl rfl) hh).2
  have ed : v231w q cc gc h g = ((Int32.ofInt (-1)), fset h 162 0 (.int (nI 0))) := rfl
  refine ⟨?_, ?_, ?_⟩ <;> rw [ed]
  · exact er2
  · exact (hc_f rfl rfl (by decide) rfl hw)
  · exact (fr_f rfl rfl fr_0)
def v111w (q : QT) (cc gc : Nat) (c : Int32) : Int32 := (Int32.ofInt (-1))
theorem v111w_ok {n fr lo sl cc gc : Nat} {q : QT} {h : pm_H} {R : pm_Rs} {c : Int32} (hw : HC q cc gc h) (hb : cB cc c = false) (hh : pm_run PT n fr lo 111 (0, pm_l0 [.ref 0, .int c] 3, [], h, 198, sl) = some R) : R = (some (.int (v111w q cc gc c)), h, 198, sl) := by
  have hcc := hw.cb
  have hgc := hw.gb
  have hzr := hw.zr
  obtain ⟨n, hh⟩ := rn_i rfl rfl rfl rfl hh
  have hh : pm_run PT n fr lo 111 (1, [some (.ref 0), some (.int c), none], [.ref 0], h, 198, sl) = some R := hh
  obtain ⟨n, hh⟩ := rn_gr hw.wt rfl rfl (by decide) rfl (by decide) (show _ = some (2, ((5 : Nat) : Int), 1) from rfl) rfl hh
  obtain ⟨n, hh⟩ := rn_i rfl rfl rfl rfl hh
  have hh : pm_run PT n fr lo 111 (5, [some (.ref 0), some (.int c), none], [.int c, .ref 5], h, 198, sl) = some R := hh
  obtain ⟨n, fr1, lo1, r1, hh1, hh⟩ := rn_call (w := 0) (t := 23) rfl rfl hh
  have er1 := xi_run hcc (hc_rC hw) hh1
  subst er1
  have hh : pm_run PT n fr lo 111 (8, [some (.ref 0), some (.int c), none], [.int (cond (cB cc c) 1 0)], h, 198, sl) = some R := hh
  obtain ⟨n, hh⟩ := en_zn (cc := .ne) (off := 5) (t := 13) (b := cB cc c) eb_ne rfl rfl hh
  have hh := en_f hb hh
  have hh : pm_run PT n fr lo 111 (11, [some (.ref 0), some (.int c), none], [], h, 198, sl) = some R := hh
  obtain ⟨n, hh⟩ := rn_i rfl rfl rfl rfl hh
  have hh : pm_run PT n fr lo 111 (12, [some (.ref 0), some (.int c), none], [.int (Int32.ofInt (-1))], h, 198, sl) = some R := hh
  have er2 : R = (some (.int (Int32.ofInt (-1))), h, 198, sl) := (rn_ret rfl (Or.inl rfl) hh).2
  have ed : v111w q cc gc c = (Int32.ofInt (-1)) := rfl
  rw [ed]
  exact er2
def v242w (q : QT) (cc gc : Nat) (h : pm_H) (c : Int32) : Int32 × pm_H := ((Int32.ofInt (-1)), fset h 162 0 (.int (nI 0)))
theorem v242w_ok {n fr lo sl cc gc : Nat} {q : QT} {h : pm_H} {R : pm_Rs} {c : Int32} (hw : HC q cc gc h) (hb : cB cc c = false) (hh : pm_run PT n fr lo 242 (0, pm_l0 [.ref 162, .int c] 3, [], h, 198, sl) = some R) : R = (some (.int ((v242w q cc gc h c).1)), (v242w q cc gc h c).2, 198, sl) ∧ HC q cc gc ((v242w q cc gc h c).2) ∧ frm [162] [(162, 0)] h ((v242w q cc gc h c).2) := by
  have hcc := hw.cb
  have hgc := hw.gb
  have hzr := hw.zr
  obtain ⟨n, hh⟩ := rn_i rfl rfl rfl rfl hh
  obtain ⟨n, hh⟩ := rn_i rfl rfl rfl rfl hh
  have hh : pm_run PT n fr lo 242 (2, [some (.ref 162), some (.int c), none], [.int (nI 0), .ref 162], h, 198, sl) = some R := hh
  obtain ⟨n, hh⟩ := rn_pi hw.wt rfl rfl (by decide) rfl (by decide) rfl hh
  obtain ⟨n, hh⟩ := rn_i rfl rfl rfl rfl hh
  obtain ⟨n, hh⟩ := rn_i rfl rfl rfl rfl hh
  have hh : pm_run PT n fr lo 242 (7, [some (.ref 162), some (.int c), none], [.int c, .ref 162], fset h 162 0 (.int (nI 0)), 198, sl) = some R := hh
  obtain ⟨n, fr1, lo1, r1, hh1, hh⟩ := rn_call (w := 0) (t := 168) rfl rfl hh
  have er1 := mi_run hcc (hc_m3 (hc_f rfl rfl (by decide) rfl hw)) hh1
  subst er1
  have hh : pm_run PT n fr lo 242 (10, [some (.ref 162), some (.int c), none], [.int (cond (cB cc c) 1 0)], fset h 162 0 (.int (nI 0)), 198, sl) = some R := hh
  obtain ⟨n, hh⟩ := en_zn (cc := .ne) (off := 5) (t := 15) (b := cB cc c) eb_ne rfl rfl hh
  have hh := en_f hb hh
  have hh : pm_run PT n fr lo 242 (13, [some (.ref 162), some (.int c), none], [], fset h 162 0 (.int (nI 0)), 198, sl) = some R := hh
  obtain ⟨n, hh⟩ := rn_i rfl rfl rfl rfl hh
  have hh : pm_run PT n fr lo 242 (14, [some (.ref 162), some (.int c), none], [.int (Int32.ofInt (-1))], fset h 162 0 (.int (nI 0)), 198, sl) = some R := hh
  have er2 : R = (some (.int (Int32.ofInt (-1))), fset h 162 0 (.int (nI 0)), 198, sl) := (rn_ret rfl (Or.inl rfl) hh).2
  have ed : v242w q cc gc h c = ((Int32.ofInt (-1)), fset h 162 0 (.int (nI 0))) := rfl
  refine ⟨?_, ?_, ?_⟩ <;> rw [ed]
  · exact er2
  · exact (hc_f rfl rfl (by decide) rfl hw)
  · exact (fr_f rfl rfl fr_0)
def v112w (q : QT) (cc gc : Nat) (a : Int32) (b : Int32) : Int32 := (Int32.ofInt (-1))
theorem v112w_ok {n fr lo sl cc gc : Nat} {q : QT} {h : pm_H} {R : pm_Rs} {a : Int32} {b : Int32} (hw : HC q cc gc h) (hb : pP cc a b = false) (hh : pm_run PT n fr lo 112 (0, pm_l0 [.ref 0, .int a, .int b] 7, [], h, 198, sl) = some R) : R = (some (.int (v112w q cc gc a b)), h, 198, sl) := by
  have hcc := hw.cb
  have hgc := hw.gb
  have hzr := hw.zr
  obtain ⟨n, hh⟩ := rn_i rfl rfl rfl rfl hh
  have hh : pm_run PT n fr lo 112 (1, [some (.ref 0), some (.int a), some (.int b), none, none, none, none], [.ref 0], h, 198, sl) = some R := hh
  obtain ⟨n, hh⟩ := rn_gr hw.wt rfl rfl (by decide) rfl (by decide) (show _ = some (2, ((5 : Nat) : Int), 1) from rfl) rfl hh
  obtain ⟨n, hh⟩ := rn_i rfl rfl rfl rfl hh
  obtain ⟨n, hh⟩ := rn_i rfl rfl rfl rfl hh
  have hh : pm_run PT n fr lo 112 (6, [some (.ref 0), some (.int a), some (.int b), none, none, none, none], [.int b, .int a, .ref 5], h, 198, sl) = some R := hh
  obtain ⟨n, fr1, lo1, r1, hh1, hh⟩ := rn_call (w := 0) (t := 24) rfl rfl hh
  have er1 := xa_run hcc (hc_rC hw) hh1
  subst er1
  have hh : pm_run PT n fr lo 112 (9, [some (.ref 0), some (.int a), some (.int b), none, none, none, none], [.int (cond (pP cc a b) 1 0)], h, 198, sl) = some R := hh
  obtain ⟨n, hh⟩ := en_zn (cc := .ne) (off := 5) (t := 14) (b := pP cc a b) eb_ne rfl rfl hh
  have hh := en_f hb hh
  have hh : pm_run PT n fr lo 112 (12, [some (.ref 0), some (.int a), some (.int b), none, none, none, none], [], h, 198, sl) = some R := hh
  obtain ⟨n, hh⟩ := rn_i rfl rfl rfl rfl hh
  have hh : pm_run PT n fr lo 112 (13, [some (.ref 0), some (.int a), some (.int b), none, none, none, none], [.int (Int32.ofInt (-1))], h, 198, sl) = some R := hh
  have er2 : R = (some (.int (Int32.ofInt (-1))), h, 198, sl) := (rn_ret rfl (Or.inl rfl) hh).2
  have ed : v112w q cc gc a b = (Int32.ofInt (-1)) := rfl
  rw [ed]
  exact er2
def v243w (q : QT) (cc gc : Nat) (h : pm_H) (a : Int32) (b : Int32) : Int32 × pm_H := ((Int32.ofInt (-1)), fset h 162 0 (.int (nI 0)))
theorem v243w_ok {n fr lo sl cc gc : Nat} {q : QT} {h : pm_H} {R : pm_Rs} {a : Int32} {b : Int32} (hw : HC q cc gc h) (hb : pP cc a b = false) (hh : pm_run PT n fr lo 243 (0, pm_l0 [.ref 162, .int a, .int b] 7, [], h, 198, sl) = some R) : R = (some (.int ((v243w q cc gc h a b).1)), (v243w q cc gc h a b).2, 198, sl) ∧ HC q cc gc ((v243w q cc gc h a b).2) ∧ frm [162] [(162, 0)] h ((v243w q cc gc h a b).2) := by
  have hcc := hw.cb
  have hgc := hw.gb
  have hzr := hw.zr
  obtain ⟨n, hh⟩ := rn_i rfl rfl rfl rfl hh
  obtain ⟨n, hh⟩ := rn_i rfl rfl rfl rfl hh
  have hh : pm_run PT n fr lo 243 (2, [some (.ref 162), some (.int a), some (.int b), none, none, none, none], [.int (nI 0), .ref 162], h, 198, sl) = some R := hh
  obtain ⟨n, hh⟩ := rn_pi hw.wt rfl rfl (by decide) rfl (by decide) rfl hh
  obtain ⟨n, hh⟩ := rn_i rfl rfl rfl rfl hh
  obtain ⟨n, hh⟩ := rn_i rfl rfl rfl rfl hh
  obtain ⟨n, hh⟩ := rn_i rfl rfl rfl rfl hh
  have hh : pm_run PT n fr lo 243 (8, [some (.ref 162), some (.int a), some (.int b), none, none, none, none], [.int b, .int a, .ref 162], fset h 162 0 (.int (nI 0)), 198, sl) = some R := hh
  obtain ⟨n, fr1, lo1, r1, hh1, hh⟩ := rn_call (w := 0) (t := 170) rfl rfl hh
  have er1 := ma_run hcc (hc_m3 (hc_f rfl rfl (by decide) rfl hw)) hh1
  subst er1
  have hh : pm_run PT n fr lo 243 (11, [some (.ref 162), some (.int a), some (.int b), none, none, none, none], [.int (cond (pP cc a b) 1 0)], fset h 162 0 (.int (nI 0)), 198, sl) = some R := hh
  obtain ⟨n, hh⟩ := en_zn (cc := .ne) (off := 5) (t := 16) (b := pP cc a b) eb_ne rfl rfl hh
  have hh := en_f hb hh
  have hh : pm_run PT n fr lo 243 (14, [some (.ref 162), some (.int a), some (.int b), none, none, none, none], [], fset h 162 0 (.int (nI 0)), 198, sl) = some R := hh
  obtain ⟨n, hh⟩ := rn_i rfl rfl rfl rfl hh
  have hh : pm_run PT n fr lo 243 (15, [some (.ref 162), some (.int a), some (.int b), none, none, none, none], [.int (Int32.ofInt (-1))], fset h 162 0 (.int (nI 0)), 198, sl) = some R := hh
  have er2 : R = (some (.int (Int32.ofInt (-1))), fset h 162 0 (.int (nI 0)), 198, sl) := (rn_ret rfl (Or.inl rfl) hh).2
  have ed : v243w q cc gc h a b = ((Int32.ofInt (-1)), fset h 162 0 (.int (nI 0))) := rfl
  refine ⟨?_, ?_, ?_⟩ <;> rw [ed]
  · exact er2
  · exact (hc_f rfl rfl (by decide) rfl hw)
  · exact (fr_f rfl rfl fr_0)
def v118 (q : QT) (cc gc : Nat) (h : pm_H) (w : Nat) (a : Int32) (b : Int32) : Int32 × pm_H := (cond ((v1 q cc gc h w a b).1) (Fi ((v1 q cc gc h w a b).2) 159 0) (Int32.ofInt (-1)), (v1 q cc gc h w a b).2)
theorem v118_ok {n fr lo sl cc gc : Nat} {q : QT} {h : pm_H} {R : pm_Rs} {w : Nat} {a : Int32} {b : Int32} (hw : HC q cc gc h) (hw3 : w ≤ 12) (e3 : Fi h 159 0 = nI w) (hh : pm_run PT n fr lo 118 (0, pm_l0 [.ref 0, .int a, .int b] 3, [], h, 198, sl) = some R) : R = (some (.int ((v118 q cc gc h w a b).1)), (v118 q cc gc h w a b).2, 198, sl) ∧ HC q cc gc ((v118 q cc gc h w a b).2) ∧ frm [159, 160, 161] [(159, 0)] h ((v118 q cc gc h w a b).2) := by
  have hcc := hw.cb
  have hgc := hw.gb
  have hzr := hw.zr
  obtain ⟨n, hh⟩ := rn_i rfl rfl rfl rfl hh
  have hh : pm_run PT n fr lo 118 (1, [some (.ref 0), some (.int a), some (.int b)], [.ref 0], h, 198, sl) = some R := hh
  obtain ⟨n, hh⟩ := rn_gr hw.wt rfl rfl (by decide) rfl (by decide) (show _ = some (2, ((159 : Nat) : Int), 1) from rfl) rfl hh
  obtain ⟨n, hh⟩ := rn_i rfl rfl rfl rfl hh
  obtain ⟨n, hh⟩ := rn_i rfl rfl rfl rfl hh
  have hh : pm_run PT n fr lo 118 (6, [some (.ref 0), some (.int a), some (.int b)], [.int b, .int a, .ref 159], h, 198, sl) = some R := hh
  obtain ⟨n, fr1, lo1, r1, hh1, hh⟩ := rn_call (w := 0) (t := 1) rfl rfl hh
  obtain ⟨er1, hc2, hf3⟩ := v1_ok (w := w) (a := a) (b := b) hw hw3 e3 hh1
  subst er1
  have hh : pm_run PT n fr lo 118 (9, [some (.ref 0), some (.int a), some (.int b)], [.int (cond ((v1 q cc gc h w a b).1) 1 0)], (v1 q cc gc h w a b).2, 198, sl) = some R := hh
  obtain ⟨n, hh⟩ := en_zn (cc := .eq) (off := 13) (t := 22) (b := !((v1 q cc gc h w a b).1)) eb_eq rfl rfl hh
  have hj5 : ∃ mJ, pm_run PT mJ fr lo 118 (cond ((v1 q cc gc h w a b).1) (23, [some (.ref 0), some (.int a), some (.int b)], [.int (Fi ((v1 q cc gc h w a b).2) 159 0)], (v1 q cc gc h w a b).2, 198, sl) (23, [some (.ref 0), some (.int a), some (.int b)], [.int (Int32.ofInt (-1))], (v1 q cc gc h w a b).2, 198, sl)) = some R := en_J (fun z4 => by
      have hh := en_nt z4 hh
      have hh : pm_run PT n fr lo 118 (12, [some (.ref 0), some (.int a), some (.int b)], [], (v1 q cc gc h w a b).2, 198, sl) = some R := hh
      obtain ⟨n, hh⟩ := rn_i rfl rfl rfl rfl hh
      have hh : pm_run PT n fr lo 118 (13, [some (.ref 0), some (.int a), some (.int b)], [.ref 0], (v1 q cc gc h w a b).2, 198, sl) = some R := hh
      obtain ⟨n, hh⟩ := rn_gr hc2.wt rfl rfl (by decide) rfl (by decide) (show _ = some (2, ((159 : Nat) : Int), 1) from rfl) rfl hh
      have hh : pm_run PT n fr lo 118 (16, [some (.ref 0), some (.int a), some (.int b)], [.ref 159], (v1 q cc gc h w a b).2, 198, sl) = some R := hh
      obtain ⟨n, hh⟩ := rn_gi (x := Fi ((v1 q cc gc h w a b).2) 159 0) hc2.wt rfl rfl (by decide) rfl (by decide) rfl rfl hh
      obtain ⟨n, hh⟩ := rn_i rfl rfl rfl rfl hh
      exact ⟨n, hh⟩) (fun z4 => by
      have hh := en_nf z4 hh
      have hh : pm_run PT n fr lo 118 (22, [some (.ref 0), some (.int a), some (.int b)], [], (v1 q cc gc h w a b).2, 198, sl) = some R := hh
      obtain ⟨n, hh⟩ := rn_i rfl rfl rfl rfl hh
      exact ⟨n, hh⟩)
  obtain ⟨n, hh⟩ := hj5
  rw [show (cond ((v1 q cc gc h w a b).1) (23, [some (.ref 0), some (.int a), some (.int b)], [.int (Fi ((v1 q cc gc h w a b).2) 159 0)], (v1 q cc gc h w a b).2, 198, sl) (23, [some (.ref 0), some (.int a), some (.int b)], [.int (Int32.ofInt (-1))], (v1 q cc gc h w a b).2, 198, sl) : pm_St) = (23, [some (.ref 0), some (.int a), some (.int b)], [.int (cond ((v1 q cc gc h w a b).1) (Fi ((v1 q cc gc h w a b).2) 159 0) (Int32.ofInt (-1)))], (v1 q cc gc h w a b).2, 198, sl) from by cases ((v1 q cc gc h w a b).1) <;> rfl] at hh
  have hh : pm_run PT n fr lo 118 (23, [some (.ref 0), some (.int a), some (.int b)], [.int (cond ((v1 q cc gc h w a b).1) (Fi ((v1 q cc gc h w a b).2) 159 0) (Int32.ofInt (-1)))], (v1 q cc gc h w a b).2, 198, sl) = some R := hh
  have er6 : R = (some (.int (cond ((v1 q cc gc h w a b).1) (Fi ((v1 q cc gc h w a b).2) 159 0) (Int32.ofInt (-1)))), (v1 q cc gc h w a b).2, 198, sl) := (rn_ret rfl (Or.inl rfl) hh).2
  have ed : v118 q cc gc h w a b = (cond ((v1 q cc gc h w a b).1) (Fi ((v1 q cc gc h w a b).2) 159 0) (Int32.ofInt (-1)), (v1 q cc gc h w a b).2) := rfl
  refine ⟨?_, ?_, ?_⟩ <;> rw [ed]
  · exact er6
  · exact hc2
  · exact (fr_g rfl rfl hf3 fr_0)
def v119 (q : QT) (cc gc : Nat) (h : pm_H) (w : Nat) : Int32 × pm_H := (nI w, fset h 159 0 (.int (nI 0)))
theorem v119_ok {n fr lo sl cc gc : Nat} {q : QT} {h : pm_H} {R : pm_Rs} {w : Nat} (hw : HC q cc gc h) (hw3 : w ≤ 12) (e3 : Fi h 159 0 = nI w) (hh : pm_run PT n fr lo 119 (0, pm_l0 [.ref 0] 2, [], h, 198, sl) = some R) : R = (some (.int ((v119 q cc gc h w).1)), (v119 q cc gc h w).2, 198, sl) ∧ HC q cc gc ((v119 q cc gc h w).2) ∧ frm [159] [(159, 0)] h ((v119 q cc gc h w).2) := by
  have hcc := hw.cb
  have hgc := hw.gb
  have hzr := hw.zr
  obtain ⟨n, hh⟩ := rn_i rfl rfl rfl rfl hh
  have hh : pm_run PT n fr lo 119 (1, [some (.ref 0), none], [.ref 0], h, 198, sl) = some R := hh
  obtain ⟨n, hh⟩ := rn_gr hw.wt rfl rfl (by decide) rfl (by decide) (show _ = some (2, ((159 : Nat) : Int), 1) from rfl) rfl hh
  have hh : pm_run PT n fr lo 119 (4, [some (.ref 0), none], [.ref 159], h, 198, sl) = some R := hh
  obtain ⟨n, hh⟩ := rn_gi (x := nI w) hw.wt rfl rfl (by decide) rfl (by decide) rfl e3 hh
  obtain ⟨n, hh⟩ := rn_i rfl rfl rfl rfl hh
  obtain ⟨n, hh⟩ := rn_i rfl rfl rfl rfl hh
  have hh : pm_run PT n fr lo 119 (9, [some (.ref 0), some (.int (nI w))], [.ref 0], h, 198, sl) = some R := hh
  obtain ⟨n, hh⟩ := rn_gr hw.wt rfl rfl (by decide) rfl (by decide) (show _ = some (2, ((159 : Nat) : Int), 1) from rfl) rfl hh
  obtain ⟨n, hh⟩ := rn_i rfl rfl rfl rfl hh
  have hh : pm_run PT n fr lo 119 (13, [some (.ref 0), some (.int (nI w))], [.int (nI 0), .ref 159], h, 198, sl) = some R := hh
  obtain ⟨n, hh⟩ := rn_pi hw.wt rfl rfl (by decide) rfl (by decide) rfl hh
  obtain ⟨n, hh⟩ := rn_i rfl rfl rfl rfl hh
  have hh : pm_run PT n fr lo 119 (17, [some (.ref 0), some (.int (nI w))], [.int (nI w)], fset h 159 0 (.int (nI 0)), 198, sl) = some R := hh
  have er1 : R = (some (.int (nI w)), fset h 159 0 (.int (nI 0)), 198, sl) := (rn_ret rfl (Or.inl rfl) hh).2
  have ed : v119 q cc gc h w = (nI w, fset h 159 0 (.int (nI 0))) := rfl
  refine ⟨?_, ?_, ?_⟩ <;> rw [ed]
  · exact er1
  · exact (hc_f rfl rfl (by decide) rfl hw)
  · exact (fr_f rfl rfl fr_0)
def v252 (q : QT) (cc gc : Nat) (h : pm_H) (u : Nat) : Int32 × pm_H := (nI u, fset (fset h 162 0 (.int (nI 0))) 162 47 (.int (nI 0)))
theorem v252_ok {n fr lo sl cc gc : Nat} {q : QT} {h : pm_H} {R : pm_Rs} {u : Nat} (hw : HC q cc gc h) (hu : u ≤ 12) (e1 : Fi h 162 47 = nI u) (hh : pm_run PT n fr lo 252 (0, pm_l0 [.ref 162] 2, [], h, 198, sl) = some R) : R = (some (.int ((v252 q cc gc h u).1)), (v252 q cc gc h u).2, 198, sl) ∧ HC q cc gc ((v252 q cc gc h u).2) ∧ frm [162] [(162, 0), (162, 47)] h ((v252 q cc gc h u).2) := by
  have hcc := hw.cb
  have hgc := hw.gb
  have hzr := hw.zr
  obtain ⟨n, hh⟩ := rn_i rfl rfl rfl rfl hh
  obtain ⟨n, hh⟩ := rn_i rfl rfl rfl rfl hh
  have hh : pm_run PT n fr lo 252 (2, [some (.ref 162), none], [.int (nI 0), .ref 162], h, 198, sl) = some R := hh
  obtain ⟨n, hh⟩ := rn_pi hw.wt rfl rfl (by decide) rfl (by decide) rfl hh
  obtain ⟨n, hh⟩ := rn_i rfl rfl rfl rfl hh
  have hh : pm_run PT n fr lo 252 (6, [some (.ref 162), none], [.ref 162], fset h 162 0 (.int (nI 0)), 198, sl) = some R := hh
  obtain ⟨n, hh⟩ := rn_gi (x := nI u) (hc_f rfl rfl (by decide) rfl hw).wt rfl rfl (by decide) rfl (by decide) rfl ((Fi_n (Or.inr (by decide))).trans e1) hh
  obtain ⟨n, hh⟩ := rn_i rfl rfl rfl rfl hh
  obtain ⟨n, hh⟩ := rn_i rfl rfl rfl rfl hh
  obtain ⟨n, hh⟩ := rn_i rfl rfl rfl rfl hh
  have hh : pm_run PT n fr lo 252 (12, [some (.ref 162), some (.int (nI u))], [.int (nI 0), .ref 162], fset h 162 0 (.int (nI 0)), 198, sl) = some R := hh
  obtain ⟨n, hh⟩ := rn_pi (hc_f rfl rfl (by decide) rfl hw).wt rfl rfl (by decide) rfl (by decide) rfl hh
  obtain ⟨n, hh⟩ := rn_i rfl rfl rfl rfl hh
  have hh : pm_run PT n fr lo 252 (16, [some (.ref 162), some (.int (nI u))], [.int (nI u)], fset (fset h 162 0 (.int (nI 0))) 162 47 (.int (nI 0)), 198, sl) = some R := hh
  have er1 : R = (some (.int (nI u)), fset (fset h 162 0 (.int (nI 0))) 162 47 (.int (nI 0)), 198, sl) := (rn_ret rfl (Or.inl rfl) hh).2
  have ed : v252 q cc gc h u = (nI u, fset (fset h 162 0 (.int (nI 0))) 162 47 (.int (nI 0))) := rfl
  refine ⟨?_, ?_, ?_⟩ <;> rw [ed]
  · exact er1
  · exact (hc_f rfl rfl (by decide) rfl (hc_f rfl rfl (by decide) rfl hw))
  · exact (fr_f rfl rfl (fr_f rfl rfl fr_0))
def v126w1 (q : QT) (cc gc : Nat) (i : Int32) : Bool := false
theorem v126w1_ok {n fr lo sl cc gc : Nat} {q : QT} {h : pm_H} {R : pm_Rs} {i : Int32} (hw : HC q cc gc h) (hb : pm_cmp .lt i 0 = true) (hh : pm_run PT n fr lo 126 (0, pm_l0 [.ref 0, .int i] 2, [], h, 198, sl) = some R) : R = (some (.int (cond (v126w1 q cc gc i) 1 0)), h, 198, sl) := by
  have hcc := hw.cb
  have hgc := hw.gb
  have hzr := hw.zr
  obtain ⟨n, hh⟩ := rn_i rfl rfl rfl rfl hh
  have hh : pm_run PT n fr lo 126 (1, [some (.ref 0), some (.int i)], [.int i], h, 198, sl) = some R := hh
  obtain ⟨n, hh⟩ := en_zn (cc := .lt) (off := 19) (t := 20) (b := pm_cmp .lt i 0) rfl rfl rfl hh
  have hh := en_t hb hh
  have hh : pm_run PT n fr lo 126 (20, [some (.ref 0), some (.int i)], [], h, 198, sl) = some R := hh
  obtain ⟨n, hh⟩ := rn_i rfl rfl rfl rfl hh
  have hh : pm_run PT n fr lo 126 (21, [some (.ref 0), some (.int i)], [.int (nI 0)], h, 198, sl) = some R := hh
  have er1 : R = (some (.int (nI 0)), h, 198, sl) := (rn_ret rfl (Or.inr rfl) hh).2
  have ed : v126w1 q cc gc i = false := rfl
  rw [ed]
  exact er1
theorem v126w2_ok {n fr lo sl cc gc : Nat} {q : QT} {h : pm_H} {R : pm_Rs} {i : Int32} (hw : HC q cc gc h) (hb1 : pm_cmp .lt i 0 = false) (hb2 : pm_cmp .ge i (nI 3) = true) (hh : pm_run PT n fr lo 126 (0, pm_l0 [.ref 0, .int i] 2, [], h, 198, sl) = some R) : R = (some (.int (cond (v126w1 q cc gc i) 1 0)), h, 198, sl) := by
  have hcc := hw.cb
  have hgc := hw.gb
  have hzr := hw.zr
  obtain ⟨n, hh⟩ := rn_i rfl rfl rfl rfl hh
  have hh : pm_run PT n fr lo 126 (1, [some (.ref 0), some (.int i)], [.int i], h, 198, sl) = some R := hh
  obtain ⟨n, hh⟩ := en_zn (cc := .lt) (off := 19) (t := 20) (b := pm_cmp .lt i 0) rfl rfl rfl hh
  have hh := en_f hb1 hh
  have hh : pm_run PT n fr lo 126 (4, [some (.ref 0), some (.int i)], [], h, 198, sl) = some R := hh
  obtain ⟨n, hh⟩ := rn_i rfl rfl rfl rfl hh
  obtain ⟨n, hh⟩ := rn_i rfl rfl rfl rfl hh
  have hh : pm_run PT n fr lo 126 (6, [some (.ref 0), some (.int i)], [.int (nI 3), .int i], h, 198, sl) = some R := hh
  obtain ⟨n, hh⟩ := en_cn (cc := .ge) (off := 14) (t := 20) (b := pm_cmp .ge i (nI 3)) rfl rfl rfl hh
  have hh := en_t hb2 hh
  have hh : pm_run PT n fr lo 126 (20, [some (.ref 0), some (.int i)], [], h, 198, sl) = some R := hh
  obtain ⟨n, hh⟩ := rn_i rfl rfl rfl rfl hh
  have hh : pm_run PT n fr lo 126 (21, [some (.ref 0), some (.int i)], [.int (nI 0)], h, 198, sl) = some R := hh
  have er1 : R = (some (.int (nI 0)), h, 198, sl) := (rn_ret rfl (Or.inr rfl) hh).2
  have ed : v126w1 q cc gc i = false := rfl
  rw [ed]
  exact er1
def v39a (q : QT) (cc gc : Nat) (h : pm_H) (z : Nat) (g : Nat) (c : Nat) : Int32 × pm_H := (imax (nI 0) (imin (nI 999) ((v68a q cc gc (aset h 12 7 (upd (upd (upd (upd (upd (upd (upd (Ar h 12) 0 ((Ar h 10) g)) 1 (v28t q cc gc (Ar h 7) c ((Ar h 9) g))) 2 ((Ar h 6) c)) 3 ((Ar h 6) (((Ar h 17) g).toNatClampNeg))) 4 (v270 q cc gc ((Ar h 18) g))) 5 ((Ar h 11) g)) 6 (cond (cond (v74 q cc gc (Fi h 13 5) g) true false) 1 0))) z).1)), (v68a q cc gc (aset h 12 7 (upd (upd (upd (upd (upd (upd (upd (Ar h 12) 0 ((Ar h 10) g)) 1 (v28t q cc gc (Ar h 7) c ((Ar h 9) g))) 2 ((Ar h 6) c)) 3 ((Ar h 6) (((Ar h 17) g).toNatClampNeg))) 4 (v270 q cc gc ((Ar h 18) g))) 5 ((Ar h 11) g)) 6 (cond (cond (v74 q cc gc (Fi h 13 5) g) true false) 1 0))) z).2)
theorem v39a_ok {n fr lo sl cc gc : Nat} {q : QT} {h : pm_H} {R : pm_Rs} {z : Nat} {g : Nat} {c : Nat} (hw : HC q cc gc h) (h_g : g < 10000) (h_c : c < 10000) (hz : z ≤ 40) (e1 : Fi h 142 1 = nI z) (hh : pm_run PT n fr lo 39 (0, pm_l0 [.ref 5, .ref 142, .ref 13, .int (nI g), .int (nI c)] 5, [], h, 198, sl) = some R) : R = (some (.int ((v39a q cc gc h z g c).1)), (v39a q cc gc h z g c).2, 198, sl) ∧ HC q cc gc ((v39a q cc gc h z g c).2) ∧ frm [12, 142, 144] [(142, 3)] h ((v39a q cc gc h z g c).2) := by
  have hcc := hw.cb
  have hgc := hw.gb
  have hzr := hw.zr
  obtain ⟨n, hh⟩ := rn_i rfl rfl rfl rfl hh
  have hh : pm_run PT n fr lo 39 (1, [some (.ref 5), some (.ref 142), some (.ref 13), some (.int (nI g)), some (.int (nI c))], [.ref 5], h, 198, sl) = some R := hh
  obtain ⟨n, hh⟩ := rn_gr hw.wt rfl rfl (by decide) rfl (by decide) (show _ = some (2, ((12 : Nat) : Int), 1) from rfl) rfl hh
  obtain ⟨n, hh⟩ := rn_i rfl rfl rfl rfl hh
  obtain ⟨n, hh⟩ := rn_i rfl rfl rfl rfl hh
  have hh : pm_run PT n fr lo 39 (6, [some (.ref 5), some (.ref 142), some (.ref 13), some (.int (nI g)), some (.int (nI c))], [.ref 5, .int (nI 0), .ref 12], h, 198, sl) = some R := hh
  obtain ⟨n, hh⟩ := rn_gr hw.wt rfl rfl (by decide) rfl (by decide) (show _ = some (2, ((10 : Nat) : Int), 1) from rfl) rfl hh
  obtain ⟨n, hh⟩ := rn_i rfl rfl rfl rfl hh
  have hh : pm_run PT n fr lo 39 (10, [some (.ref 5), some (.ref 142), some (.ref 13), some (.int (nI g)), some (.int (nI c))], [.int (nI g), .ref 10, .int (nI 0), .ref 12], h, 198, sl) = some R := hh
  obtain ⟨n, hx1, hh⟩ := en_lu (t := g) (f := Ar h 10) (w := (Ar h 10) g) (nI_clamp (by omega)) hw.wt rfl (by decide) rfl (by decide) rfl (fun _ => rfl) hh
  have hh : pm_run PT n fr lo 39 (11, [some (.ref 5), some (.ref 142), some (.ref 13), some (.int (nI g)), some (.int (nI c))], [.int ((Ar h 10) g), .int (nI 0), .ref 12], h, 198, sl) = some R := hh
  obtain ⟨n, hx2, hh⟩ := en_st (t := 0) (f := Ar h 12) (nI_clamp (by omega)) hw.wt rfl (by decide) rfl (by decide) rfl hh
  obtain ⟨n, hh⟩ := rn_i rfl rfl rfl rfl hh
  have hh : pm_run PT n fr lo 39 (13, [some (.ref 5), some (.ref 142), some (.ref 13), some (.int (nI g)), some (.int (nI c))], [.ref 5], aset h 12 7 (upd (Ar h 12) 0 ((Ar h 10) g)), 198, sl) = some R := hh
  obtain ⟨n, hh⟩ := rn_gr (hc_a rfl rfl hw).wt rfl rfl (by decide) rfl (by decide) (show _ = some (2, ((12 : Nat) : Int), 1) from rfl) rfl hh
  obtain ⟨n, hh⟩ := rn_i rfl rfl rfl rfl hh
  obtain ⟨n, hh⟩ := rn_i rfl rfl rfl rfl hh
  obtain ⟨n, hh⟩ := rn_i rfl rfl rfl rfl hh
  obtain ⟨n, hh⟩ := rn_i rfl rfl rfl rfl hh
  have hh : pm_run PT n fr lo 39 (21, [some (.ref 5), some (.ref 142), some (.ref 13), some (.int (nI g)), some (.int (nI c))], [.ref 5, .int (nI c), .ref 5, .int (nI 1), .ref 12], aset h 12 7 (upd (Ar h 12) 0 ((Ar h 10) g)), 198, sl) = some R := hh
  obtain ⟨n, hh⟩ := rn_gr (hc_a rfl rfl hw).wt rfl rfl (by decide) rfl (by decide) (show _ = some (2, ((9 : Nat) : Int), 1) from rfl) rfl hh
  obtain ⟨n, hh⟩ := rn_i rfl rfl rfl rfl hh
  have hh : pm_run PT n fr lo 39 (25, [some (.ref 5), some (.ref 142), some (.ref 13), some (.int (nI g)), some (.int (nI c))], [.int (nI g), .ref 9, .int (nI c), .ref 5, .int (nI 1), .ref 12], aset h 12 7 (upd (Ar h 12) 0 ((Ar h 10) g)), 198, sl) = some R := hh
  obtain ⟨n, hx3, hh⟩ := en_lu (t := g) (f := Ar h 9) (w := (Ar h 9) g) (nI_clamp (by omega)) (hc_a rfl rfl hw).wt rfl (by decide) rfl (by decide) ((Ar_n (by decide)).trans rfl) (fun _ => rfl) hh
  have hh : pm_run PT n fr lo 39 (26, [some (.ref 5), some (.ref 142), some (.ref 13), some (.int (nI g)), some (.int (nI c))], [.int ((Ar h 9) g), .int (nI c), .ref 5, .int (nI 1), .ref 12], aset h 12 7 (upd (Ar h 12) 0 ((Ar h 10) g)), 198, sl) = some R := hh
  obtain ⟨n, fr1, lo1, r1, hh1, hh⟩ := rn_call (w := 0) (t := 28) rfl rfl hh
  have er4 := v28t_ok (c := c) (d := ((Ar h 9) g)) (hc_a rfl rfl hw) (by omega) hh1
  rw [show Ar (aset h 12 7 (upd (Ar h 12) 0 ((Ar h 10) g))) 7 = Ar h 7 from ((Ar_n (by decide)).trans rfl)] at er4
  subst er4
  have hh : pm_run PT n fr lo 39 (29, [some (.ref 5), some (.ref 142), some (.ref 13), some (.int (nI g)), some (.int (nI c))], [.int (v28t q cc gc (Ar h 7) c ((Ar h 9) g)), .int (nI 1), .ref 12], aset h 12 7 (upd (Ar h 12) 0 ((Ar h 10) g)), 198, sl) = some R := hh
  obtain ⟨n, hx5, hh⟩ := en_st (t := 1) (f := upd (Ar h 12) 0 ((Ar h 10) g)) (nI_clamp (by omega)) (hc_a rfl rfl hw).wt rfl (by decide) rfl (by decide) Ar_s hh
  have hh : pm_run PT n fr lo 39 (30, [some (.ref 5), some (.ref 142), some (.ref 13), some (.int (nI g)), some (.int (nI c))], [], aset (aset h 12 7 (upd (Ar h 12) 0 ((Ar h 10) g))) 12 7 (upd (upd (Ar h 12) 0 ((Ar h 10) g)) 1 (v28t q cc gc (Ar h 7) c ((Ar h 9) g))), 198, sl) = some R := hh
  rw [aset_aset] at hh
  obtain ⟨n, hh⟩ := rn_i rfl rfl rfl rfl hh
  have hh : pm_run PT n fr lo 39 (31, [some (.ref 5), some (.ref 142), some (.ref 13), some (.int (nI g)), some (.int (nI c))], [.ref 5], aset h 12 7 (upd (upd (Ar h 12) 0 ((Ar h 10) g)) 1 (v28t q cc gc (Ar h 7) c ((Ar h 9) g))), 198, sl) = some R := hh
  obtain ⟨n, hh⟩ := rn_gr (hc_a rfl rfl hw).wt rfl rfl (by decide) rfl (by decide) (show _ = some (2, ((12 : Nat) : Int), 1) from rfl) rfl hh
  obtain ⟨n, hh⟩ := rn_i rfl rfl rfl rfl hh
  obtain ⟨n, hh⟩ := rn_i rfl rfl rfl rfl hh
  have hh : pm_run PT n fr lo 39 (36, [some (.ref 5), some (.ref 142), some (.ref 13), some (.int (nI g)), some (.int (nI c))], [.ref 5, .int (nI 2), .ref 12], aset h 12 7 (upd (upd (Ar h 12) 0 ((Ar h 10) g)) 1 (v28t q cc gc (Ar h 7) c ((Ar h 9) g))), 198, sl) = some R := hh
  obtain ⟨n, hh⟩ := rn_gr (hc_a rfl rfl hw).wt rfl rfl (by decide) rfl (by decide) (show _ = some (2, ((6 : Nat) : Int), 1) from rfl) rfl hh
  obtain ⟨n, hh⟩ := rn_i rfl rfl rfl rfl hh
  have hh : pm_run PT n fr lo 39 (41, [some (.ref 5), some (.ref 142), some (.ref 13), some (.int (nI g)), some (.int (nI c))], [.int (nI c), .ref 6, .int (nI 2), .ref 12], aset h 12 7 (upd (upd (Ar h 12) 0 ((Ar h 10) g)) 1 (v28t q cc gc (Ar h 7) c ((Ar h 9) g))), 198, sl) = some R := hh
  obtain ⟨n, hx6, hh⟩ := en_lu (t := c) (f := Ar h 6) (w := (Ar h 6) c) (nI_clamp (by omega)) (hc_a rfl rfl hw).wt rfl (by decide) rfl (by decide) ((Ar_n (by decide)).trans rfl) (fun _ => rfl) hh
  have hh : pm_run PT n fr lo 39 (42, [some (.ref 5), some (.ref 142), some (.ref 13), some (.int (nI g)), some (.int (nI c))], [.int ((Ar h 6) c), .int (nI 2), .ref 12], aset h 12 7 (upd (upd (Ar h 12) 0 ((Ar h 10) g)) 1 (v28t q cc gc (Ar h 7) c ((Ar h 9) g))), 198, sl) = some R := hh
  obtain ⟨n, hx7, hh⟩ := en_st (t := 2) (f := upd (upd (Ar h 12) 0 ((Ar h 10) g)) 1 (v28t q cc gc (Ar h 7) c ((Ar h 9) g))) (nI_clamp (by omega)) (hc_a rfl rfl hw).wt rfl (by decide) rfl (by decide) Ar_s hh
  have hh : pm_run PT n fr lo 39 (43, [some (.ref 5), some (.ref 142), some (.ref 13), some (.int (nI g)), some (.int (nI c))], [], aset (aset h 12 7 (upd (upd (Ar h 12) 0 ((Ar h 10) g)) 1 (v28t q cc gc (Ar h 7) c ((Ar h 9) g)))) 12 7 (upd (upd (upd (Ar h 12) 0 ((Ar h 10) g)) 1 (v28t q cc gc (Ar h 7) c ((Ar h 9) g))) 2 ((Ar h 6) c)), 198, sl) = some R := hh
  rw [aset_aset] at hh
  obtain ⟨n, hh⟩ := rn_i rfl rfl rfl rfl hh
  have hh : pm_run PT n fr lo 39 (44, [some (.ref 5), some (.ref 142), some (.ref 13), some (.int (nI g)), some (.int (nI c))], [.ref 5], aset h 12 7 (upd (upd (upd (Ar h 12) 0 ((Ar h 10) g)) 1 (v28t q cc gc (Ar h 7) c ((Ar h 9) g))) 2 ((Ar h 6) c)), 198, sl) = some R := hh
  obtain ⟨n, hh⟩ := rn_gr (hc_a rfl rfl hw).wt rfl rfl (by decide) rfl (by decide) (show _ = some (2, ((12 : Nat) : Int), 1) from rfl) rfl hh
  obtain ⟨n, hh⟩ := rn_i rfl rfl rfl rfl hh
  obtain ⟨n, hh⟩ := rn_i rfl rfl rfl rfl hh
  have hh : pm_run PT n fr lo 39 (49, [some (.ref 5), some (.ref 142), some (.ref 13), some (.int (nI g)), some (.int (nI c))], [.ref 5, .int (nI 3), .ref 12], aset h 12 7 (upd (upd (upd (Ar h 12) 0 ((Ar h 10) g)) 1 (v28t q cc gc (Ar h 7) c ((Ar h 9) g))) 2 ((Ar h 6) c)), 198, sl) = some R := hh
  obtain ⟨n, hh⟩ := rn_gr (hc_a rfl rfl hw).wt rfl rfl (by decide) rfl (by decide) (show _ = some (2, ((6 : Nat) : Int), 1) from rfl) rfl hh
  obtain ⟨n, hh⟩ := rn_i rfl rfl rfl rfl hh
  have hh : pm_run PT n fr lo 39 (53, [some (.ref 5), some (.ref 142), some (.ref 13), some (.int (nI g)), some (.int (nI c))], [.ref 13, .ref 6, .int (nI 3), .ref 12], aset h 12 7 (upd (upd (upd (Ar h 12) 0 ((Ar h 10) g)) 1 (v28t q cc gc (Ar h 7) c ((Ar h 9) g))) 2 ((Ar h 6) c)), 198, sl) = some R := hh
  obtain ⟨n, hh⟩ := rn_gr (hc_a rfl rfl hw).wt rfl rfl (by decide) rfl (by decide) (show _ = some (2, ((17 : Nat) : Int), 1) from rfl) rfl hh
  obtain ⟨n, hh⟩ := rn_i rfl rfl rfl rfl hh
  have hh : pm_run PT n fr lo 39 (57, [some (.ref 5), some (.ref 142), some (.ref 13), some (.int (nI g)), some (.int (nI c))], [.int (nI g), .ref 17, .ref 6, .int (nI 3), .ref 12], aset h 12 7 (upd (upd (upd (Ar h 12) 0 ((Ar h 10) g)) 1 (v28t q cc gc (Ar h 7) c ((Ar h 9) g))) 2 ((Ar h 6) c)), 198, sl) = some R := hh
  obtain ⟨n, hx8, hh⟩ := en_lu (t := g) (f := Ar h 17) (w := (Ar h 17) g) (nI_clamp (by omega)) (hc_a rfl rfl hw).wt rfl (by decide) rfl (by decide) ((Ar_n (by decide)).trans rfl) (fun _ => rfl) hh
  have hh : pm_run PT n fr lo 39 (58, [some (.ref 5), some (.ref 142), some (.ref 13), some (.int (nI g)), some (.int (nI c))], [.int ((Ar h 17) g), .ref 6, .int (nI 3), .ref 12], aset h 12 7 (upd (upd (upd (Ar h 12) 0 ((Ar h 10) g)) 1 (v28t q cc gc (Ar h 7) c ((Ar h 9) g))) 2 ((Ar h 6) c)), 198, sl) = some R := hh
  obtain ⟨n, hx9, hh⟩ := en_lu (t := ((Ar h 17) g).toNatClampNeg) (f := Ar h 6) (w := (Ar h 6) (((Ar h 17) g).toNatClampNeg)) rfl (hc_a rfl rfl hw).wt rfl (by decide) rfl (by decide) ((Ar_n (by decide)).trans rfl) (fun _ => rfl) hh
  have hh : pm_run PT n fr lo 39 (59, [some (.ref 5), some (.ref 142), some (.ref 13), some (.int (nI g)), some (.int (nI c))], [.int ((Ar h 6) (((Ar h 17) g).toNatClampNeg)), .int (nI 3), .ref 12], aset h 12 7 (upd (upd (upd (Ar h 12) 0 ((Ar h 10) g)) 1 (v28t q cc gc (Ar h 7) c ((Ar h 9) g))) 2 ((Ar h 6) c)), 198, sl) = some R := hh
  obtain ⟨n, hx10, hh⟩ := en_st (t := 3) (f := upd (upd (upd (Ar h 12) 0 ((Ar h 10) g)) 1 (v28t q cc gc (Ar h 7) c ((Ar h 9) g))) 2 ((Ar h 6) c)) (nI_clamp (by omega)) (hc_a rfl rfl hw).wt rfl (by decide) rfl (by decide) Ar_s hh
  have hh : pm_run PT n fr lo 39 (60, [some (.ref 5), some (.ref 142), some (.ref 13), some (.int (nI g)), some (.int (nI c))], [], aset (aset h 12 7 (upd (upd (upd (Ar h 12) 0 ((Ar h 10) g)) 1 (v28t q cc gc (Ar h 7) c ((Ar h 9) g))) 2 ((Ar h 6) c))) 12 7 (upd (upd (upd (upd (Ar h 12) 0 ((Ar h 10) g)) 1 (v28t q cc gc (Ar h 7) c ((Ar h 9) g))) 2 ((Ar h 6) c)) 3 ((Ar h 6) (((Ar h 17) g).toNatClampNeg))), 198, sl) = some R := hh
  rw [aset_aset] at hh
  obtain ⟨n, hh⟩ := rn_i rfl rfl rfl rfl hh
  have hh : pm_run PT n fr lo 39 (61, [some (.ref 5), some (.ref 142), some (.ref 13), some (.int (nI g)), some (.int (nI c))], [.ref 5], aset h 12 7 (upd (upd (upd (upd (Ar h 12) 0 ((Ar h 10) g)) 1 (v28t q cc gc (Ar h 7) c ((Ar h 9) g))) 2 ((Ar h 6) c)) 3 ((Ar h 6) (((Ar h 17) g).toNatClampNeg))), 198, sl) = some R := hh
  obtain ⟨n, hh⟩ := rn_gr (hc_a rfl rfl hw).wt rfl rfl (by decide) rfl (by decide) (show _ = some (2, ((12 : Nat) : Int), 1) from rfl) rfl hh
  obtain ⟨n, hh⟩ := rn_i rfl rfl rfl rfl hh
  obtain ⟨n, hh⟩ := rn_i rfl rfl rfl rfl hh
  have hh : pm_run PT n fr lo 39 (66, [some (.ref 5), some (.ref 142), some (.ref 13), some (.int (nI g)), some (.int (nI c))], [.ref 13, .int (nI 4), .ref 12], aset h 12 7 (upd (upd (upd (upd (Ar h 12) 0 ((Ar h 10) g)) 1 (v28t q cc gc (Ar h 7) c ((Ar h 9) g))) 2 ((Ar h 6) c)) 3 ((Ar h 6) (((Ar h 17) g).toNatClampNeg))), 198, sl) = some R := hh
  obtain ⟨n, hh⟩ := rn_gr (hc_a rfl rfl hw).wt rfl rfl (by decide) rfl (by decide) (show _ = some (2, ((18 : Nat) : Int), 1) from rfl) rfl hh
  obtain ⟨n, hh⟩ := rn_i rfl rfl rfl rfl hh
  have hh : pm_run PT n fr lo 39 (70, [some (.ref 5), some (.ref 142), some (.ref 13), some (.int (nI g)), some (.int (nI c))], [.int (nI g), .ref 18, .int (nI 4), .ref 12], aset h 12 7 (upd (upd (upd (upd (Ar h 12) 0 ((Ar h 10) g)) 1 (v28t q cc gc (Ar h 7) c ((Ar h 9) g))) 2 ((Ar h 6) c)) 3 ((Ar h 6) (((Ar h 17) g).toNatClampNeg))), 198, sl) = some R := hh
  obtain ⟨n, hx11, hh⟩ := en_lu (t := g) (f := Ar h 18) (w := (Ar h 18) g) (nI_clamp (by omega)) (hc_a rfl rfl hw).wt rfl (by decide) rfl (by decide) ((Ar_n (by decide)).trans rfl) (fun _ => rfl) hh
  have hh : pm_run PT n fr lo 39 (71, [some (.ref 5), some (.ref 142), some (.ref 13), some (.int (nI g)), some (.int (nI c))], [.int ((Ar h 18) g), .int (nI 4), .ref 12], aset h 12 7 (upd (upd (upd (upd (Ar h 12) 0 ((Ar h 10) g)) 1 (v28t q cc gc (Ar h 7) c ((Ar h 9) g))) 2 ((Ar h 6) c)) 3 ((Ar h 6) (((Ar h 17) g).toNatClampNeg))), 198, sl) = some R := hh
  obtain ⟨n, fr1, lo1, r1, hh1, hh⟩ := rn_call (w := 2) (t := 270) rfl rfl hh
  have er12 := v270_ok (a := ((Ar h 18) g)) (hc_a rfl rfl hw) hh1
  subst er12
  have hh : pm_run PT n fr lo 39 (74, [some (.ref 5), some (.ref 142), some (.ref 13), some (.int (nI g)), some (.int (nI c))], [.int (v270 q cc gc ((Ar h 18) g)), .int (nI 4), .ref 12], aset h 12 7 (upd (upd (upd (upd (Ar h 12) 0 ((Ar h 10) g)) 1 (v28t q cc gc (Ar h 7) c ((Ar h 9) g))) 2 ((Ar h 6) c)) 3 ((Ar h 6) (((Ar h 17) g).toNatClampNeg))), 198, sl) = some R := hh
  obtain ⟨n, hx13, hh⟩ := en_st (t := 4) (f := upd (upd (upd (upd (Ar h 12) 0 ((Ar h 10) g)) 1 (v28t q cc gc (Ar h 7) c ((Ar h 9) g))) 2 ((Ar h 6) c)) 3 ((Ar h 6) (((Ar h 17) g).toNatClampNeg))) (nI_clamp (by omega)) (hc_a rfl rfl hw).wt rfl (by decide) rfl (by decide) Ar_s hh
  have hh : pm_run PT n fr lo 39 (75, [some (.ref 5), some (.ref 142), some (.ref 13), some (.int (nI g)), some (.int (nI c))], [], aset (aset h 12 7 (upd (upd (upd (upd (Ar h 12) 0 ((Ar h 10) g)) 1 (v28t q cc gc (Ar h 7) c ((Ar h 9) g))) 2 ((Ar h 6) c)) 3 ((Ar h 6) (((Ar h 17) g).toNatClampNeg)))) 12 7 (upd (upd (upd (upd (upd (Ar h 12) 0 ((Ar h 10) g)) 1 (v28t q cc gc (Ar h 7) c ((Ar h 9) g))) 2 ((Ar h 6) c)) 3 ((Ar h 6) (((Ar h 17) g).toNatClampNeg))) 4 (v270 q cc gc ((Ar h 18) g))), 198, sl) = some R := hh
  rw [aset_aset] at hh
  obtain ⟨n, hh⟩ := rn_i rfl rfl rfl rfl hh
  have hh : pm_run PT n fr lo 39 (76, [some (.ref 5), some (.ref 142), some (.ref 13), some (.int (nI g)), some (.int (nI c))], [.ref 5], aset h 12 7 (upd (upd (upd (upd (upd (Ar h 12) 0 ((Ar h 10) g)) 1 (v28t q cc gc (Ar h 7) c ((Ar h 9) g))) 2 ((Ar h 6) c)) 3 ((Ar h 6) (((Ar h 17) g).toNatClampNeg))) 4 (v270 q cc gc ((Ar h 18) g))), 198, sl) = some R := hh
  obtain ⟨n, hh⟩ := rn_gr (hc_a rfl rfl hw).wt rfl rfl (by decide) rfl (by decide) (show _ = some (2, ((12 : Nat) : Int), 1) from rfl) rfl hh
  obtain ⟨n, hh⟩ := rn_i rfl rfl rfl rfl hh
  obtain ⟨n, hh⟩ := rn_i rfl rfl rfl rfl hh
  have hh : pm_run PT n fr lo 39 (81, [some (.ref 5), some (.ref 142), some (.ref 13), some (.int (nI g)), some (.int (nI c))], [.ref 5, .int (nI 5), .ref 12], aset h 12 7 (upd (upd (upd (upd (upd (Ar h 12) 0 ((Ar h 10) g)) 1 (v28t q cc gc (Ar h 7) c ((Ar h 9) g))) 2 ((Ar h 6) c)) 3 ((Ar h 6) (((Ar h 17) g).toNatClampNeg))) 4 (v270 q cc gc ((Ar h 18) g))), 198, sl) = some R := hh
  obtain ⟨n, hh⟩ := rn_gr (hc_a rfl rfl hw).wt rfl rfl (by decide) rfl (by decide) (show _ = some (2, ((11 : Nat) : Int), 1) from rfl) rfl hh
  obtain ⟨n, hh⟩ := rn_i rfl rfl rfl rfl hh
  have hh : pm_run PT n fr lo 39 (85, [some (.ref 5), some (.ref 142), some (.ref 13), some (.int (nI g)), some (.int (nI c))], [.int (nI g), .ref 11, .int (nI 5), .ref 12], aset h 12 7 (upd (upd (upd (upd (upd (Ar h 12) 0 ((Ar h 10) g)) 1 (v28t q cc gc (Ar h 7) c ((Ar h 9) g))) 2 ((Ar h 6) c)) 3 ((Ar h 6) (((Ar h 17) g).toNatClampNeg))) 4 (v270 q cc gc ((Ar h 18) g))), 198, sl) = some R := hh
  obtain ⟨n, hx14, hh⟩ := en_lu (t := g) (f := Ar h 11) (w := (Ar h 11) g) (nI_clamp (by omega)) (hc_a rfl rfl hw).wt rfl (by decide) rfl (by decide) ((Ar_n (by decide)).trans rfl) (fun _ => rfl) hh
  have hh : pm_run PT n fr lo 39 (86, [some (.ref 5), some (.ref 142), some (.ref 13), some (.int (nI g)), some (.int (nI c))], [.int ((Ar h 11) g), .int (nI 5), .ref 12], aset h 12 7 (upd (upd (upd (upd (upd (Ar h 12) 0 ((Ar h 10) g)) 1 (v28t q cc gc (Ar h 7) c ((Ar h 9) g))) 2 ((Ar h 6) c)) 3 ((Ar h 6) (((Ar h 17) g).toNatClampNeg))) 4 (v270 q cc gc ((Ar h 18) g))), 198, sl) = some R := hh
  obtain ⟨n, hx15, hh⟩ := en_st (t := 5) (f := upd (upd (upd (upd (upd (Ar h 12) 0 ((Ar h 10) g)) 1 (v28t q cc gc (Ar h 7) c ((Ar h 9) g))) 2 ((Ar h 6) c)) 3 ((Ar h 6) (((Ar h 17) g).toNatClampNeg))) 4 (v270 q cc gc ((Ar h 18) g))) (nI_clamp (by omega)) (hc_a rfl rfl hw).wt rfl (by decide) rfl (by decide) Ar_s hh
  have hh : pm_run PT n fr lo 39 (87, [some (.ref 5), some (.ref 142), some (.ref 13), some (.int (nI g)), some (.int (nI c))], [], aset (aset h 12 7 (upd (upd (upd (upd (upd (Ar h 12) 0 ((Ar h 10) g)) 1 (v28t q cc gc (Ar h 7) c ((Ar h 9) g))) 2 ((Ar h 6) c)) 3 ((Ar h 6) (((Ar h 17) g).toNatClampNeg))) 4 (v270 q cc gc ((Ar h 18) g)))) 12 7 (upd (upd (upd (upd (upd (upd (Ar h 12) 0 ((Ar h 10) g)) 1 (v28t q cc gc (Ar h 7) c ((Ar h 9) g))) 2 ((Ar h 6) c)) 3 ((Ar h 6) (((Ar h 17) g).toNatClampNeg))) 4 (v270 q cc gc ((Ar h 18) g))) 5 ((Ar h 11) g)), 198, sl) = some R := hh
  rw [aset_aset] at hh
  obtain ⟨n, hh⟩ := rn_i rfl rfl rfl rfl hh
  have hh : pm_run PT n fr lo 39 (88, [some (.ref 5), some (.ref 142), some (.ref 13), some (.int (nI g)), some (.int (nI c))], [.ref 5], aset h 12 7 (upd (upd (upd (upd (upd (upd (Ar h 12) 0 ((Ar h 10) g)) 1 (v28t q cc gc (Ar h 7) c ((Ar h 9) g))) 2 ((Ar h 6) c)) 3 ((Ar h 6) (((Ar h 17) g).toNatClampNeg))) 4 (v270 q cc gc ((Ar h 18) g))) 5 ((Ar h 11) g)), 198, sl) = some R := hh
  obtain ⟨n, hh⟩ := rn_gr (hc_a rfl rfl hw).wt rfl rfl (by decide) rfl (by decide) (show _ = some (2, ((12 : Nat) : Int), 1) from rfl) rfl hh
  obtain ⟨n, hh⟩ := rn_i rfl rfl rfl rfl hh
  obtain ⟨n, hh⟩ := rn_i rfl rfl rfl rfl hh
  obtain ⟨n, hh⟩ := rn_i rfl rfl rfl rfl hh
  have hh : pm_run PT n fr lo 39 (95, [some (.ref 5), some (.ref 142), some (.ref 13), some (.int (nI g)), some (.int (nI c))], [.int (nI g), .ref 13, .int (nI 6), .ref 12], aset h 12 7 (upd (upd (upd (upd (upd (upd (Ar h 12) 0 ((Ar h 10) g)) 1 (v28t q cc gc (Ar h 7) c ((Ar h 9) g))) 2 ((Ar h 6) c)) 3 ((Ar h 6) (((Ar h 17) g).toNatClampNeg))) 4 (v270 q cc gc ((Ar h 18) g))) 5 ((Ar h 11) g)), 198, sl) = some R := hh
  obtain ⟨n, fr1, lo1, r1, hh1, hh⟩ := rn_call (w := 0) (t := 74) rfl rfl hh
  have er16 := v74_ok (g := g) (hc_a rfl rfl hw) (by omega) hh1
  rw [show Fi (aset h 12 7 (upd (upd (upd (upd (upd (upd (Ar h 12) 0 ((Ar h 10) g)) 1 (v28t q cc gc (Ar h 7) c ((Ar h 9) g))) 2 ((Ar h 6) c)) 3 ((Ar h 6) (((Ar h 17) g).toNatClampNeg))) 4 (v270 q cc gc ((Ar h 18) g))) 5 ((Ar h 11) g))) 13 5 = Fi h 13 5 from ((Fi_a (by decide)).trans rfl)] at er16
  subst er16
  have hh : pm_run PT n fr lo 39 (98, [some (.ref 5), some (.ref 142), some (.ref 13), some (.int (nI g)), some (.int (nI c))], [.int (cond (v74 q cc gc (Fi h 13 5) g) 1 0), .int (nI 6), .ref 12], aset h 12 7 (upd (upd (upd (upd (upd (upd (Ar h 12) 0 ((Ar h 10) g)) 1 (v28t q cc gc (Ar h 7) c ((Ar h 9) g))) 2 ((Ar h 6) c)) 3 ((Ar h 6) (((Ar h 17) g).toNatClampNeg))) 4 (v270 q cc gc ((Ar h 18) g))) 5 ((Ar h 11) g)), 198, sl) = some R := hh
  obtain ⟨n, hh⟩ := en_zn (cc := .eq) (off := 7) (t := 105) (b := !(v74 q cc gc (Fi h 13 5) g)) eb_eq rfl rfl hh
  have hj18 : ∃ mJ, pm_run PT mJ fr lo 39 (cond (v74 q cc gc (Fi h 13 5) g) (106, [some (.ref 5), some (.ref 142), some (.ref 13), some (.int (nI g)), some (.int (nI c))], [.int (nI 1), .int (nI 6), .ref 12], aset h 12 7 (upd (upd (upd (upd (upd (upd (Ar h 12) 0 ((Ar h 10) g)) 1 (v28t q cc gc (Ar h 7) c ((Ar h 9) g))) 2 ((Ar h 6) c)) 3 ((Ar h 6) (((Ar h 17) g).toNatClampNeg))) 4 (v270 q cc gc ((Ar h 18) g))) 5 ((Ar h 11) g)), 198, sl) (106, [some (.ref 5), some (.ref 142), some (.ref 13), some (.int (nI g)), some (.int (nI c))], [.int (nI 0), .int (nI 6), .ref 12], aset h 12 7 (upd (upd (upd (upd (upd (upd (Ar h 12) 0 ((Ar h 10) g)) 1 (v28t q cc gc (Ar h 7) c ((Ar h 9) g))) 2 ((Ar h 6) c)) 3 ((Ar h 6) (((Ar h 17) g).toNatClampNeg))) 4 (v270 q cc gc ((Ar h 18) g))) 5 ((Ar h 11) g)), 198, sl)) = some R := en_J (fun z17 => by
      have hh := en_nt z17 hh
      have hh : pm_run PT n fr lo 39 (101, [some (.ref 5), some (.ref 142), some (.ref 13), some (.int (nI g)), some (.int (nI c))], [.int (nI 6), .ref 12], aset h 12 7 (upd (upd (upd (upd (upd (upd (Ar h 12) 0 ((Ar h 10) g)) 1 (v28t q cc gc (Ar h 7) c ((Ar h 9) g))) 2 ((Ar h 6) c)) 3 ((Ar h 6) (((Ar h 17) g).toNatClampNeg))) 4 (v270 q cc gc ((Ar h 18) g))) 5 ((Ar h 11) g)), 198, sl) = some R := hh
      obtain ⟨n, hh⟩ := rn_i rfl rfl rfl rfl hh
      obtain ⟨n, hh⟩ := rn_i rfl rfl rfl rfl hh
      exact ⟨n, hh⟩) (fun z17 => by
      have hh := en_nf z17 hh
      have hh : pm_run PT n fr lo 39 (105, [some (.ref 5), some (.ref 142), some (.ref 13), some (.int (nI g)), some (.int (nI c))], [.int (nI 6), .ref 12], aset h 12 7 (upd (upd (upd (upd (upd (upd (Ar h 12) 0 ((Ar h 10) g)) 1 (v28t q cc gc (Ar h 7) c ((Ar h 9) g))) 2 ((Ar h 6) c)) 3 ((Ar h 6) (((Ar h 17) g).toNatClampNeg))) 4 (v270 q cc gc ((Ar h 18) g))) 5 ((Ar h 11) g)), 198, sl) = some R := hh
      obtain ⟨n, hh⟩ := rn_i rfl rfl rfl rfl hh
      exact ⟨n, hh⟩)
  obtain ⟨n, hh⟩ := hj18
  rw [show (cond (v74 q cc gc (Fi h 13 5) g) (106, [some (.ref 5), some (.ref 142), some (.ref 13), some (.int (nI g)), some (.int (nI c))], [.int (nI 1), .int (nI 6), .ref 12], aset h 12 7 (upd (upd (upd (upd (upd (upd (Ar h 12) 0 ((Ar h 10) g)) 1 (v28t q cc gc (Ar h 7) c ((Ar h 9) g))) 2 ((Ar h 6) c)) 3 ((Ar h 6) (((Ar h 17) g).toNatClampNeg))) 4 (v270 q cc gc ((Ar h 18) g))) 5 ((Ar h 11) g)), 198, sl) (106, [some (.ref 5), some (.ref 142), some (.ref 13), some (.int (nI g)), some (.int (nI c))], [.int (nI 0), .int (nI 6), .ref 12], aset h 12 7 (upd (upd (upd (upd (upd (upd (Ar h 12) 0 ((Ar h 10) g)) 1 (v28t q cc gc (Ar h 7) c ((Ar h 9) g))) 2 ((Ar h 6) c)) 3 ((Ar h 6) (((Ar h 17) g).toNatClampNeg))) 4 (v270 q cc gc ((Ar h 18) g))) 5 ((Ar h 11) g)), 198, sl) : pm_St) = (106, [some (.ref 5), some (.ref 142), some (.ref 13), some (.int (nI g)), some (.int (nI c))], [.int (cond (cond (v74 q cc gc (Fi h 13 5) g) true false) 1 0), .int (nI 6), .ref 12], aset h 12 7 (upd (upd (upd (upd (upd (upd (Ar h 12) 0 ((Ar h 10) g)) 1 (v28t q cc gc (Ar h 7) c ((Ar h 9) g))) 2 ((Ar h 6) c)) 3 ((Ar h 6) (((Ar h 17) g).toNatClampNeg))) 4 (v270 q cc gc ((Ar h 18) g))) 5 ((Ar h 11) g)), 198, sl) from by cases (v74 q cc gc (Fi h 13 5) g) <;> rfl] at hh
  have hh : pm_run PT n fr lo 39 (106, [some (.ref 5), some (.ref 142), some (.ref 13), some (.int (nI g)), some (.int (nI c))], [.int (cond (cond (v74 q cc gc (Fi h 13 5) g) true false) 1 0), .int (nI 6), .ref 12], aset h 12 7 (upd (upd (upd (upd (upd (upd (Ar h 12) 0 ((Ar h 10) g)) 1 (v28t q cc gc (Ar h 7) c ((Ar h 9) g))) 2 ((Ar h 6) c)) 3 ((Ar h 6) (((Ar h 17) g).toNatClampNeg))) 4 (v270 q cc gc ((Ar h 18) g))) 5 ((Ar h 11) g)), 198, sl) = some R := hh
  obtain ⟨n, hx19, hh⟩ := en_st (t := 6) (f := upd (upd (upd (upd (upd (upd (Ar h 12) 0 ((Ar h 10) g)) 1 (v28t q cc gc (Ar h 7) c ((Ar h 9) g))) 2 ((Ar h 6) c)) 3 ((Ar h 6) (((Ar h 17) g).toNatClampNeg))) 4 (v270 q cc gc ((Ar h 18) g))) 5 ((Ar h 11) g)) (nI_clamp (by omega)) (hc_a rfl rfl hw).wt rfl (by decide) rfl (by decide) Ar_s hh
  have hh : pm_run PT n fr lo 39 (107, [some (.ref 5), some (.ref 142), some (.ref 13), some (.int (nI g)), some (.int (nI c))], [], aset (aset h 12 7 (upd (upd (upd (upd (upd (upd (Ar h 12) 0 ((Ar h 10) g)) 1 (v28t q cc gc (Ar h 7) c ((Ar h 9) g))) 2 ((Ar h 6) c)) 3 ((Ar h 6) (((Ar h 17) g).toNatClampNeg))) 4 (v270 q cc gc ((Ar h 18) g))) 5 ((Ar h 11) g))) 12 7 (upd (upd (upd (upd (upd (upd (upd (Ar h 12) 0 ((Ar h 10) g)) 1 (v28t q cc gc (Ar h 7) c ((Ar h 9) g))) 2 ((Ar h 6) c)) 3 ((Ar h 6) (((Ar h 17) g).toNatClampNeg))) 4 (v270 q cc gc ((Ar h 18) g))) 5 ((Ar h 11) g)) 6 (cond (cond (v74 q cc gc (Fi h 13 5) g) true false) 1 0)), 198, sl) = some R := hh
  rw [aset_aset] at hh
  obtain ⟨n, hh⟩ := rn_i rfl rfl rfl rfl hh
  obtain ⟨n, hh⟩ := rn_i rfl rfl rfl rfl hh
  have hh : pm_run PT n fr lo 39 (109, [some (.ref 5), some (.ref 142), some (.ref 13), some (.int (nI g)), some (.int (nI c))], [.ref 5, .ref 142], aset h 12 7 (upd (upd (upd (upd (upd (upd (upd (Ar h 12) 0 ((Ar h 10) g)) 1 (v28t q cc gc (Ar h 7) c ((Ar h 9) g))) 2 ((Ar h 6) c)) 3 ((Ar h 6) (((Ar h 17) g).toNatClampNeg))) 4 (v270 q cc gc ((Ar h 18) g))) 5 ((Ar h 11) g)) 6 (cond (cond (v74 q cc gc (Fi h 13 5) g) true false) 1 0)), 198, sl) = some R := hh
  obtain ⟨n, hh⟩ := rn_gr (hc_a rfl rfl hw).wt rfl rfl (by decide) rfl (by decide) (show _ = some (2, ((12 : Nat) : Int), 1) from rfl) rfl hh
  have hh : pm_run PT n fr lo 39 (112, [some (.ref 5), some (.ref 142), some (.ref 13), some (.int (nI g)), some (.int (nI c))], [.ref 12, .ref 142], aset h 12 7 (upd (upd (upd (upd (upd (upd (upd (Ar h 12) 0 ((Ar h 10) g)) 1 (v28t q cc gc (Ar h 7) c ((Ar h 9) g))) 2 ((Ar h 6) c)) 3 ((Ar h 6) (((Ar h 17) g).toNatClampNeg))) 4 (v270 q cc gc ((Ar h 18) g))) 5 ((Ar h 11) g)) 6 (cond (cond (v74 q cc gc (Fi h 13 5) g) true false) 1 0)), 198, sl) = some R := hh
  obtain ⟨n, fr1, lo1, r1, hh1, hh⟩ := rn_call (w := 0) (t := 68) rfl rfl hh
  obtain ⟨er20, hc21, hf22⟩ := v68a_ok (z := z) (hc_a rfl rfl hw) hz ((Fi_a (by decide)).trans e1) hh1
  subst er20
  obtain ⟨n, hh⟩ := rn_i rfl rfl rfl rfl hh
  have hh : pm_run PT n fr lo 39 (118, [some (.ref 5), some (.ref 142), some (.ref 13), some (.int (nI g)), some (.int (nI c))], [.int (nI 999), .int ((v68a q cc gc (aset h 12 7 (upd (upd (upd (upd (upd (upd (upd (Ar h 12) 0 ((Ar h 10) g)) 1 (v28t q cc gc (Ar h 7) c ((Ar h 9) g))) 2 ((Ar h 6) c)) 3 ((Ar h 6) (((Ar h 17) g).toNatClampNeg))) 4 (v270 q cc gc ((Ar h 18) g))) 5 ((Ar h 11) g)) 6 (cond (cond (v74 q cc gc (Fi h 13 5) g) true false) 1 0))) z).1)], (v68a q cc gc (aset h 12 7 (upd (upd (upd (upd (upd (upd (upd (Ar h 12) 0 ((Ar h 10) g)) 1 (v28t q cc gc (Ar h 7) c ((Ar h 9) g))) 2 ((Ar h 6) c)) 3 ((Ar h 6) (((Ar h 17) g).toNatClampNeg))) 4 (v270 q cc gc ((Ar h 18) g))) 5 ((Ar h 11) g)) 6 (cond (cond (v74 q cc gc (Fi h 13 5) g) true false) 1 0))) z).2, 198, sl) = some R := hh
  obtain ⟨n, fr1, lo1, r1, hh1, hh⟩ := rn_call (w := 3) (t := 159) rfl rfl hh
  have hh1 : pm_run PT n fr1 lo1 159 (0, [some (.int ((v68a q cc gc (aset h 12 7 (upd (upd (upd (upd (upd (upd (upd (Ar h 12) 0 ((Ar h 10) g)) 1 (v28t q cc gc (Ar h 7) c ((Ar h 9) g))) 2 ((Ar h 6) c)) 3 ((Ar h 6) (((Ar h 17) g).toNatClampNeg))) 4 (v270 q cc gc ((Ar h 18) g))) 5 ((Ar h 11) g)) 6 (cond (cond (v74 q cc gc (Fi h 13 5) g) true false) 1 0))) z).1)), some (.int (nI 999))], [], (v68a q cc gc (aset h 12 7 (upd (upd (upd (upd (upd (upd (upd (Ar h 12) 0 ((Ar h 10) g)) 1 (v28t q cc gc (Ar h 7) c ((Ar h 9) g))) 2 ((Ar h 6) c)) 3 ((Ar h 6) (((Ar h 17) g).toNatClampNeg))) 4 (v270 q cc gc ((Ar h 18) g))) 5 ((Ar h 11) g)) 6 (cond (cond (v74 q cc gc (Fi h 13 5) g) true false) 1 0))) z).2, 198, sl) = some r1 := hh1
  obtain ⟨n1, hh1⟩ := rn_i rfl rfl rfl rfl hh1
  obtain ⟨n1, hh1⟩ := rn_i rfl rfl rfl rfl hh1
  obtain ⟨n1, hh1⟩ := rn_i rfl rfl rfl rfl hh1
  have hh1 : pm_run PT n1 fr1 lo1 159 (3, [some (.int ((v68a q cc gc (aset h 12 7 (upd (upd (upd (upd (upd (upd (upd (Ar h 12) 0 ((Ar h 10) g)) 1 (v28t q cc gc (Ar h 7) c ((Ar h 9) g))) 2 ((Ar h 6) c)) 3 ((Ar h 6) (((Ar h 17) g).toNatClampNeg))) 4 (v270 q cc gc ((Ar h 18) g))) 5 ((Ar h 11) g)) 6 (cond (cond (v74 q cc gc (Fi h 13 5) g) true false) 1 0))) z).1)), some (.int (nI 999))], [.int ((v68a q cc gc (aset h 12 7 (upd (upd (upd (upd (upd (upd (upd (Ar h 12) 0 ((Ar h 10) g)) 1 (v28t q cc gc (Ar h 7) c ((Ar h 9) g))) 2 ((Ar h 6) c)) 3 ((Ar h 6) (((Ar h 17) g).toNatClampNeg))) 4 (v270 q cc gc ((Ar h 18) g))) 5 ((Ar h 11) g)) 6 (cond (cond (v74 q cc gc (Fi h 13 5) g) true false) 1 0))) z).1), .int (nI 999), .int (nI 0)], (v68a q cc gc (aset h 12 7 (upd (upd (upd (upd (upd (upd (upd (Ar h 12) 0 ((Ar h 10) g)) 1 (v28t q cc gc (Ar h 7) c ((Ar h 9) g))) 2 ((Ar h 6) c)) 3 ((Ar h 6) (((Ar h 17) g).toNatClampNeg))) 4 (v270 q cc gc ((Ar h 18) g))) 5 ((Ar h 11) g)) 6 (cond (cond (v74 q cc gc (Fi h 13 5) g) true false) 1 0))) z).2, 198, sl) = some r1 := hh1
  obtain ⟨n1, hh1⟩ := en_min rfl rfl rfl hh1
  have hh1 : pm_run PT n1 fr1 lo1 159 (6, [some (.int ((v68a q cc gc (aset h 12 7 (upd (upd (upd (upd (upd (upd (upd (Ar h 12) 0 ((Ar h 10) g)) 1 (v28t q cc gc (Ar h 7) c ((Ar h 9) g))) 2 ((Ar h 6) c)) 3 ((Ar h 6) (((Ar h 17) g).toNatClampNeg))) 4 (v270 q cc gc ((Ar h 18) g))) 5 ((Ar h 11) g)) 6 (cond (cond (v74 q cc gc (Fi h 13 5) g) true false) 1 0))) z).1)), some (.int (nI 999))], [.int (imin (nI 999) ((v68a q cc gc (aset h 12 7 (upd (upd (upd (upd (upd (upd (upd (Ar h 12) 0 ((Ar h 10) g)) 1 (v28t q cc gc (Ar h 7) c ((Ar h 9) g))) 2 ((Ar h 6) c)) 3 ((Ar h 6) (((Ar h 17) g).toNatClampNeg))) 4 (v270 q cc gc ((Ar h 18) g))) 5 ((Ar h 11) g)) 6 (cond (cond (v74 q cc gc (Fi h 13 5) g) true false) 1 0))) z).1)), .int (nI 0)], (v68a q cc gc (aset h 12 7 (upd (upd (upd (upd (upd (upd (upd (Ar h 12) 0 ((Ar h 10) g)) 1 (v28t q cc gc (Ar h 7) c ((Ar h 9) g))) 2 ((Ar h 6) c)) 3 ((Ar h 6) (((Ar h 17) g).toNatClampNeg))) 4 (v270 q cc gc ((Ar h 18) g))) 5 ((Ar h 11) g)) 6 (cond (cond (v74 q cc gc (Fi h 13 5) g) true false) 1 0))) z).2, 198, sl) = some r1 := hh1
  obtain ⟨n1, hh1⟩ := en_max rfl rfl rfl hh1
  have hh1 : pm_run PT n1 fr1 lo1 159 (9, [some (.int ((v68a q cc gc (aset h 12 7 (upd (upd (upd (upd (upd (upd (upd (Ar h 12) 0 ((Ar h 10) g)) 1 (v28t q cc gc (Ar h 7) c ((Ar h 9) g))) 2 ((Ar h 6) c)) 3 ((Ar h 6) (((Ar h 17) g).toNatClampNeg))) 4 (v270 q cc gc ((Ar h 18) g))) 5 ((Ar h 11) g)) 6 (cond (cond (v74 q cc gc (Fi h 13 5) g) true false) 1 0))) z).1)), some (.int (nI 999))], [.int (imax (nI 0) (imin (nI 999) ((v68a q cc gc (aset h 12 7 (upd (upd (upd (upd (upd (upd (upd (Ar h 12) 0 ((Ar h 10) g)) 1 (v28t q cc gc (Ar h 7) c ((Ar h 9) g))) 2 ((Ar h 6) c)) 3 ((Ar h 6) (((Ar h 17) g).toNatClampNeg))) 4 (v270 q cc gc ((Ar h 18) g))) 5 ((Ar h 11) g)) 6 (cond (cond (v74 q cc gc (Fi h 13 5) g) true false) 1 0))) z).1)))], (v68a q cc gc (aset h 12 7 (upd (upd (upd (upd (upd (upd (upd (Ar h 12) 0 ((Ar h 10) g)) 1 (v28t q cc gc (Ar h 7) c ((Ar h 9) g))) 2 ((Ar h 6) c)) 3 ((Ar h 6) (((Ar h 17) g).toNatClampNeg))) 4 (v270 q cc gc ((Ar h 18) g))) 5 ((Ar h 11) g)) 6 (cond (cond (v74 q cc gc (Fi h 13 5) g) true false) 1 0))) z).2, 198, sl) = some r1 := hh1
  have er23 : r1 = (some (.int (imax (nI 0) (imin (nI 999) ((v68a q cc gc (aset h 12 7 (upd (upd (upd (upd (upd (upd (upd (Ar h 12) 0 ((Ar h 10) g)) 1 (v28t q cc gc (Ar h 7) c ((Ar h 9) g))) 2 ((Ar h 6) c)) 3 ((Ar h 6) (((Ar h 17) g).toNatClampNeg))) 4 (v270 q cc gc ((Ar h 18) g))) 5 ((Ar h 11) g)) 6 (cond (cond (v74 q cc gc (Fi h 13 5) g) true false) 1 0))) z).1)))), (v68a q cc gc (aset h 12 7 (upd (upd (upd (upd (upd (upd (upd (Ar h 12) 0 ((Ar h 10) g)) 1 (v28t q cc gc (Ar h 7) c ((Ar h 9) g))) 2 ((Ar h 6) c)) 3 ((Ar h 6) (((Ar h 17) g).toNatClampNeg))) 4 (v270 q cc gc ((Ar h 18) g))) 5 ((Ar h 11) g)) 6 (cond (cond (v74 q cc gc (Fi h 13 5) g) true false) 1 0))) z).2, 198, sl) := (rn_ret rfl (Or.inl rfl) hh1).2
  subst er23
  have hh : pm_run PT n fr lo 39 (121, [some (.ref 5), some (.ref 142), some (.ref 13), some (.int (nI g)), some (.int (nI c))], [.int (imax (nI 0) (imin (nI 999) ((v68a q cc gc (aset h 12 7 (upd (upd (upd (upd (upd (upd (upd (Ar h 12) 0 ((Ar h 10) g)) 1 (v28t q cc gc (Ar h 7) c ((Ar h 9) g))) 2 ((Ar h 6) c)) 3 ((Ar h 6) (((Ar h 17) g).toNatClampNeg))) 4 (v270 q cc gc ((Ar h 18) g))) 5 ((Ar h 11) g)) 6 (cond (cond (v74 q cc gc (Fi h 13 5) g) true false) 1 0))) z).1)))], (v68a q cc gc (aset h 12 7 (upd (upd (upd (upd (upd (upd (upd (Ar h 12) 0 ((Ar h 10) g)) 1 (v28t q cc gc (Ar h 7) c ((Ar h 9) g))) 2 ((Ar h 6) c)) 3 ((Ar h 6) (((Ar h 17) g).toNatClampNeg))) 4 (v270 q cc gc ((Ar h 18) g))) 5 ((Ar h 11) g)) 6 (cond (cond (v74 q cc gc (Fi h 13 5) g) true false) 1 0))) z).2, 198, sl) = some R := hh
  have er24 : R = (some (.int (imax (nI 0) (imin (nI 999) ((v68a q cc gc (aset h 12 7 (upd (upd (upd (upd (upd (upd (upd (Ar h 12) 0 ((Ar h 10) g)) 1 (v28t q cc gc (Ar h 7) c ((Ar h 9) g))) 2 ((Ar h 6) c)) 3 ((Ar h 6) (((Ar h 17) g).toNatClampNeg))) 4 (v270 q cc gc ((Ar h 18) g))) 5 ((Ar h 11) g)) 6 (cond (cond (v74 q cc gc (Fi h 13 5) g) true false) 1 0))) z).1)))), (v68a q cc gc (aset h 12 7 (upd (upd (upd (upd (upd (upd (upd (Ar h 12) 0 ((Ar h 10) g)) 1 (v28t q cc gc (Ar h 7) c ((Ar h 9) g))) 2 ((Ar h 6) c)) 3 ((Ar h 6) (((Ar h 17) g).toNatClampNeg))) 4 (v270 q cc gc ((Ar h 18) g))) 5 ((Ar h 11) g)) 6 (cond (cond (v74 q cc gc (Fi h 13 5) g) true false) 1 0))) z).2, 198, sl) := (rn_ret rfl (Or.inl rfl) hh).2
  have ed : v39a q cc gc h z g c = (imax (nI 0) (imin (nI 999) ((v68a q cc gc (aset h 12 7 (upd (upd (upd (upd (upd (upd (upd (Ar h 12) 0 ((Ar h 10) g)) 1 (v28t q cc gc (Ar h 7) c ((Ar h 9) g))) 2 ((Ar h 6) c)) 3 ((Ar h 6) (((Ar h 17) g).toNatClampNeg))) 4 (v270 q cc gc ((Ar h 18) g))) 5 ((Ar h 11) g)) 6 (cond (cond (v74 q cc gc (Fi h 13 5) g) true false) 1 0))) z).1)), (v68a q cc gc (aset h 12 7 (upd (upd (upd (upd (upd (upd (upd (Ar h 12) 0 ((Ar h 10) g)) 1 (v28t q cc gc (Ar h 7) c ((Ar h 9) g))) 2 ((Ar h 6) c)) 3 ((Ar h 6) (((Ar h 17) g).toNatClampNeg))) 4 (v270 q cc gc ((Ar h 18) g))) 5 ((Ar h 11) g)) 6 (cond (cond (v74 q cc gc (Fi h 13 5) g) true false) 1 0))) z).2) := rfl
  refine ⟨?_, ?_, ?_⟩ <;> rw [ed]
  · exact er24
  · exact hc21
  · exact (fr_g rfl rfl hf22 (fr_a rfl rfl fr_0))
def v149a_4b (q : QT) (cc gc : Nat) (h : pm_H) (z : Nat) (i : Nat) (x2 : Int32) : Int32 × pm_H := (x2 + ((v39a q cc gc h z i (((Ar h 17) i).toNatClampNeg)).1), (v39a q cc gc h z i (((Ar h 17) i).toNatClampNeg)).2)
def v149a_4 (q : QT) (cc gc : Nat) (z : Nat) (j i : Nat) (a : Int32 × pm_H) : Int32 × pm_H := lp (fun i a => v149a_4b q cc gc a.2 z i a.1) j i a
theorem v149a_4_e {n fr lo sl cc gc : Nat} {q : QT} {h : pm_H} {R : pm_Rs} {z : Nat} {i : Nat} {x2 : Int32} (hw : HC q cc gc h) (hz : z ≤ 40) (e1 : Fi h 142 1 = nI z) (hol : NA h 17 0 8 6) (hi : gc ≤ i) (hI : i < 1000000) (hh : pm_run PT n fr lo 149 (4, [some (.ref 0), some (.ref 142), some (.int x2), some (.int (nI i))], [], h, 198, sl) = some R) : ∃ m, pm_run PT m fr lo 149 (46, [some (.ref 0), some (.ref 142), some (.int x2), some (.int (nI i))], [], h, 198, sl) = some R := by
  have hcc := hw.cb
  have hgc := hw.gb
  have hzr := hw.zr
  obtain ⟨n, hh⟩ := rn_i rfl rfl rfl rfl hh
  obtain ⟨n, hh⟩ := rn_i rfl rfl rfl rfl hh
  have hh : pm_run PT n fr lo 149 (6, [some (.ref 0), some (.ref 142), some (.int x2), some (.int (nI i))], [.ref 0, .int (nI i)], h, 198, sl) = some R := hh
  obtain ⟨n, hh⟩ := rn_gr hw.wt rfl rfl (by decide) rfl (by decide) (show _ = some (2, ((5 : Nat) : Int), 1) from rfl) rfl hh
  have hh : pm_run PT n fr lo 149 (9, [some (.ref 0), some (.ref 142), some (.int x2), some (.int (nI i))], [.ref 5, .int (nI i)], h, 198, sl) = some R := hh
  obtain ⟨n, hh⟩ := rn_gi (x := nI gc) hw.wt rfl rfl (by decide) rfl (by decide) rfl hw.x1 hh
  have hh : pm_run PT n fr lo 149 (12, [some (.ref 0), some (.ref 142), some (.int x2), some (.int (nI i))], [.int (nI gc), .int (nI i)], h, 198, sl) = some R := hh
  obtain ⟨n, hh⟩ := en_cn (cc := .ge) (off := 34) (t := 46) (b := decide (gc ≤ i)) (hI_ge (by omega) (by omega)) rfl rfl hh
  have hh := en_t (show decide (gc ≤ i) = true from decide_eq_true (by omega)) hh
  have hh : pm_run PT n fr lo 149 (46, [some (.ref 0), some (.ref 142), some (.int x2), some (.int (nI i))], [], h, 198, sl) = some R := hh
  exact ⟨n, hh⟩
theorem v149a_4_s {n fr lo sl cc gc : Nat} {q : QT} {h : pm_H} {R : pm_Rs} {z : Nat} {i : Nat} {x2 : Int32} (hw : HC q cc gc h) (hz : z ≤ 40) (e1 : Fi h 142 1 = nI z) (hol : NA h 17 0 8 6) (hi : i < gc) (hI : i < 1000000) (hh : pm_run PT n fr lo 149 (4, [some (.ref 0), some (.ref 142), some (.int x2), some (.int (nI i))], [], h, 198, sl) = some R) : ∃ m, HC q cc gc ((v149a_4b q cc gc h z i x2).2) ∧ frm [12, 142, 144] [(142, 3)] h ((v149a_4b q cc gc h z i x2).2) ∧ Fi ((v149a_4b q cc gc h z i x2).2) 142 1 = nI z ∧ NA ((v149a_4b q cc gc h z i x2).2) 17 0 8 6 ∧ pm_run PT m fr lo 149 (4, [some (.ref 0), some (.ref 142), some (.int ((v149a_4b q cc gc h z i x2).1)), some (.int (nI (i + 1)))], [], (v149a_4b q cc gc h z i x2).2, 198, sl) = some R := by
  have hcc := hw.cb
  have hgc := hw.gb
  have hzr := hw.zr
  obtain ⟨n, hh⟩ := rn_i rfl rfl rfl rfl hh
  obtain ⟨n, hh⟩ := rn_i rfl rfl rfl rfl hh
  have hh : pm_run PT n fr lo 149 (6, [some (.ref 0), some (.ref 142), some (.int x2), some (.int (nI i))], [.ref 0, .int (nI i)], h, 198, sl) = some R := hh
  obtain ⟨n, hh⟩ := rn_gr hw.wt rfl rfl (by decide) rfl (by decide) (show _ = some (2, ((5 : Nat) : Int), 1) from rfl) rfl hh
  have hh : pm_run PT n fr lo 149 (9, [some (.ref 0), some (.ref 142), some (.int x2), some (.int (nI i))], [.ref 5, .int (nI i)], h, 198, sl) = some R := hh
  obtain ⟨n, hh⟩ := rn_gi (x := nI gc) hw.wt rfl rfl (by decide) rfl (by decide) rfl hw.x1 hh
  have hh : pm_run PT n fr lo 149 (12, [some (.ref 0), some (.ref 142), some (.int x2), some (.int (nI i))], [.int (nI gc), .int (nI i)], h, 198, sl) = some R := hh
  obtain ⟨n, hh⟩ := en_cn (cc := .ge) (off := 34) (t := 46) (b := decide (gc ≤ i)) (hI_ge (by omega) (by omega)) rfl rfl hh
  have hh := en_f (show decide (gc ≤ i) = false from decide_eq_false (by omega)) hh
  have hh : pm_run PT n fr lo 149 (15, [some (.ref 0), some (.ref 142), some (.int x2), some (.int (nI i))], [], h, 198, sl) = some R := hh
  obtain ⟨n, hh⟩ := rn_i rfl rfl rfl rfl hh
  obtain ⟨n, hh⟩ := rn_i rfl rfl rfl rfl hh
  have hh : pm_run PT n fr lo 149 (17, [some (.ref 0), some (.ref 142), some (.int x2), some (.int (nI i))], [.ref 0, .int x2], h, 198, sl) = some R := hh
  obtain ⟨n, hh⟩ := rn_gr hw.wt rfl rfl (by decide) rfl (by decide) (show _ = some (2, ((5 : Nat) : Int), 1) from rfl) rfl hh
  obtain ⟨n, hh⟩ := rn_i rfl rfl rfl rfl hh
  obtain ⟨n, hh⟩ := rn_i rfl rfl rfl rfl hh
  have hh : pm_run PT n fr lo 149 (22, [some (.ref 0), some (.ref 142), some (.int x2), some (.int (nI i))], [.ref 0, .ref 142, .ref 5, .int x2], h, 198, sl) = some R := hh
  obtain ⟨n, hh⟩ := rn_gr hw.wt rfl rfl (by decide) rfl (by decide) (show _ = some (2, ((13 : Nat) : Int), 1) from rfl) rfl hh
  obtain ⟨n, hh⟩ := rn_i rfl rfl rfl rfl hh
  obtain ⟨n, hh⟩ := rn_i rfl rfl rfl rfl hh
  have hh : pm_run PT n fr lo 149 (27, [some (.ref 0), some (.ref 142), some (.int x2), some (.int (nI i))], [.ref 0, .int (nI i), .ref 13, .ref 142, .ref 5, .int x2], h, 198, sl) = some R := hh
  obtain ⟨n, hh⟩ := rn_gr hw.wt rfl rfl (by decide) rfl (by decide) (show _ = some (2, ((13 : Nat) : Int), 1) from rfl) rfl hh
  have hh : pm_run PT n fr lo 149 (30, [some (.ref 0), some (.ref 142), some (.int x2), some (.int (nI i))], [.ref 13, .int (nI i), .ref 13, .ref 142, .ref 5, .int x2], h, 198, sl) = some R := hh
  obtain ⟨n, hh⟩ := rn_gr hw.wt rfl rfl (by decide) rfl (by decide) (show _ = some (2, ((17 : Nat) : Int), 1) from rfl) rfl hh
  obtain ⟨n, hh⟩ := rn_i rfl rfl rfl rfl hh
  have hh : pm_run PT n fr lo 149 (34, [some (.ref 0), some (.ref 142), some (.int x2), some (.int (nI i))], [.int (nI i), .ref 17, .int (nI i), .ref 13, .ref 142, .ref 5, .int x2], h, 198, sl) = some R := hh
  obtain ⟨n, hx1, hh⟩ := en_lu (t := i) (f := Ar h 17) (w := nI (((Ar h 17) i).toNatClampNeg)) (nI_clamp (by omega)) hw.wt rfl (by decide) rfl (by decide) rfl (fun z => (hol _ (by omega) (by omega)).1) hh
  have hb2 := (hol i (by omega) (by omega)).2
  have hh : pm_run PT n fr lo 149 (35, [some (.ref 0), some (.ref 142), some (.int x2), some (.int (nI i))], [.int (nI (((Ar h 17) i).toNatClampNeg)), .int (nI i), .ref 13, .ref 142, .ref 5, .int x2], h, 198, sl) = some R := hh
  obtain ⟨n, fr1, lo1, r1, hh1, hh⟩ := rn_call (w := 0) (t := 39) rfl rfl hh
  obtain ⟨er3, hc4, hf5⟩ := v39a_ok (z := z) (g := i) (c := (((Ar h 17) i).toNatClampNeg)) hw (by omega) (by omega) hz e1 hh1
  subst er3
  obtain ⟨n, hh⟩ := rn_i rfl rfl rfl rfl hh
  obtain ⟨n, hh⟩ := rn_i rfl rfl rfl rfl hh
  have hh : pm_run PT n fr lo 149 (40, [some (.ref 0), some (.ref 142), some (.int (x2 + ((v39a q cc gc h z i (((Ar h 17) i).toNatClampNeg)).1))), some (.int (nI i))], [], (v39a q cc gc h z i (((Ar h 17) i).toNatClampNeg)).2, 198, sl) = some R := hh
  obtain ⟨n, hh⟩ := en_inc (x := i) (c := 1) (j := 3) rfl rfl (by decide) hh
  have hh : pm_run PT n fr lo 149 (43, [some (.ref 0), some (.ref 142), some (.int (x2 + ((v39a q cc gc h z i (((Ar h 17) i).toNatClampNeg)).1))), some (.int (nI (i + 1)))], [], (v39a q cc gc h z i (((Ar h 17) i).toNatClampNeg)).2, 198, sl) = some R := hh
  obtain ⟨n, hh⟩ := rn_i rfl rfl rfl rfl hh
  have ed : v149a_4b q cc gc h z i x2 = (x2 + ((v39a q cc gc h z i (((Ar h 17) i).toNatClampNeg)).1), (v39a q cc gc h z i (((Ar h 17) i).toNatClampNeg)).2) := rfl
  rw [ed]
  exact ⟨n, hc4, (fr_g rfl rfl hf5 fr_0), ((hf5.2 142 1 (by decide +kernel) rfl).trans e1), (NA_e ((Ar_e (hf5.1 17 rfl)).trans rfl) hol), hh⟩
theorem v149a_4_ok {fr lo sl cc gc : Nat} {q : QT} {R : pm_Rs} {z : Nat} : ∀ {j i : Nat} {x2 : Int32} {h : pm_H} {n : Nat}, gc - i = j → i + j < 1000000 → HC q cc gc h → z ≤ 40 → Fi h 142 1 = nI z → NA h 17 0 8 6 → pm_run PT n fr lo 149 (4, [some (.ref 0), some (.ref 142), some (.int x2), some (.int (nI i))], [], h, 198, sl) = some R → ∃ m wc, HC q cc gc ((v149a_4 q cc gc z j i (x2, h)).2) ∧ frm [12, 142, 144] [(142, 3)] h ((v149a_4 q cc gc z j i (x2, h)).2) ∧ Fi ((v149a_4 q cc gc z j i (x2, h)).2) 142 1 = nI z ∧ NA ((v149a_4 q cc gc z j i (x2, h)).2) 17 0 8 6 ∧ pm_run PT m fr lo 149 (46, [some (.ref 0), some (.ref 142), some (.int ((v149a_4 q cc gc z j i (x2, h)).1)), wc], [], (v149a_4 q cc gc z j i (x2, h)).2, 198, sl) = some R := by
  intro j
  induction j with
  | zero =>
    intro i x2 h n e eI hw hz e1 hol hh
    obtain ⟨n, hh⟩ := v149a_4_e hw hz e1 hol (by omega) (by omega) hh
    exact ⟨n, _, hw, fr_0, e1, hol, hh⟩
  | succ j ih =>
    intro i x2 h n e eI hw hz e1 hol hh
    obtain ⟨n, hc, hf, e1', hol', hh⟩ := v149a_4_s hw hz e1 hol (by omega) (by omega) hh
    obtain ⟨n, wc, hc2, hf2, e1'', hol'', hh⟩ := ih (by omega) (by omega) hc hz e1' hol' hh
    exact ⟨n, wc, hc2, fr_t hf2 hf, e1'', hol'', hh⟩
def v149a (q : QT) (cc gc : Nat) (h : pm_H) (z : Nat) : Int32 × pm_H := ((v149a_4 q cc gc z gc 0 ((nI 0), h)).1, (v149a_4 q cc gc z gc 0 ((nI 0), h)).2)
theorem v149a_ok {n fr lo sl cc gc : Nat} {q : QT} {h : pm_H} {R : pm_Rs} {z : Nat} (hw : HC q cc gc h) (hz : z ≤ 40) (e1 : Fi h 142 1 = nI z) (hol : NA h 17 0 8 6) (hh : pm_run PT n fr lo 149 (0, pm_l0 [.ref 0, .ref 142] 4, [], h, 198, sl) = some R) : R = (some (.int ((v149a q cc gc h z).1)), (v149a q cc gc h z).2, 198, sl) ∧ HC q cc gc ((v149a q cc gc h z).2) ∧ frm [12, 142, 144] [(142, 3)] h ((v149a q cc gc h z).2) := by
  have hcc := hw.cb
  have hgc := hw.gb
  have hzr := hw.zr
  obtain ⟨n, hh⟩ := rn_i rfl rfl rfl rfl hh
  obtain ⟨n, hh⟩ := rn_i rfl rfl rfl rfl hh
  obtain ⟨n, hh⟩ := rn_i rfl rfl rfl rfl hh
  obtain ⟨n, hh⟩ := rn_i rfl rfl rfl rfl hh
  have hh : pm_run PT n fr lo 149 (4, [some (.ref 0), some (.ref 142), some (.int (nI 0)), some (.int (nI 0))], [], h, 198, sl) = some R := hh
  obtain ⟨n, u1, hc3, hf4, _, hn2, hh⟩ := v149a_4_ok  (i := 0) (x2 := (nI 0)) (j := gc) (by omega) (by omega) hw hz e1 hol hh
  have hh : pm_run PT n fr lo 149 (46, [some (.ref 0), some (.ref 142), some (.int ((v149a_4 q cc gc z gc 0 ((nI 0), h)).1)), u1], [], (v149a_4 q cc gc z gc 0 ((nI 0), h)).2, 198, sl) = some R := hh
  obtain ⟨n, hh⟩ := rn_i rfl rfl rfl rfl hh
  have hh : pm_run PT n fr lo 149 (47, [some (.ref 0), some (.ref 142), some (.int ((v149a_4 q cc gc z gc 0 ((nI 0), h)).1)), u1], [.int ((v149a_4 q cc gc z gc 0 ((nI 0), h)).1)], (v149a_4 q cc gc z gc 0 ((nI 0), h)).2, 198, sl) = some R := hh
  have er5 : R = (some (.int ((v149a_4 q cc gc z gc 0 ((nI 0), h)).1)), (v149a_4 q cc gc z gc 0 ((nI 0), h)).2, 198, sl) := (rn_ret rfl (Or.inl rfl) hh).2
  have ed : v149a q cc gc h z = ((v149a_4 q cc gc z gc 0 ((nI 0), h)).1, (v149a_4 q cc gc z gc 0 ((nI 0), h)).2) := rfl
  refine ⟨?_, ?_, ?_⟩ <;> rw [ed]
  · exact er5
  · exact hc3
  · exact (fr_g rfl rfl hf4 fr_0)
def v122a (q : QT) (cc gc : Nat) (h : pm_H) (z : Nat) (r : Int32) : Int32 × pm_H := cond (pm_cmp .lt r 0) (((v149a q cc gc (fset h 1 1 (.int (nI 0))) z).1) - ((v149 q cc gc ((v149a q cc gc (fset h 1 1 (.int (nI 0))) z).2)).1), v56 q cc gc ((v149 q cc gc ((v149a q cc gc (fset h 1 1 (.int (nI 0))) z).2)).2) (((v149a q cc gc (fset h 1 1 (.int (nI 0))) z).1).toInt64) (((v149 q cc gc ((v149a q cc gc (fset h 1 1 (.int (nI 0))) z).2)).1).toInt64)) ((Int32.ofInt (-10000)) - r, fset h 1 1 (.int (nI 0)))
theorem v122a_ok {n fr lo sl cc gc : Nat} {q : QT} {h : pm_H} {R : pm_Rs} {z : Nat} {r : Int32} (hw : HC q cc gc h) (hz : z ≤ 40) (ho : OTp 142 h) (e1 : Fi h 142 1 = nI z) (hol : NA h 17 0 8 6) (hh : pm_run PT n fr lo 122 (8, [some (.ref 0), some (.int r), none, none], [], h, 198, sl) = some R) : R = (some (.int ((v122a q cc gc h z r).1)), (v122a q cc gc h z r).2, 198, sl) ∧ HC q cc gc ((v122a q cc gc h z r).2) ∧ frm [1, 3, 4, 12, 142, 144, 145, 147] [(1, 1), (3, 1), (142, 3), (145, 3)] h ((v122a q cc gc h z r).2) := by
  have hcc := hw.cb
  have hgc := hw.gb
  have hzr := hw.zr
  obtain ⟨n, hh⟩ := rn_i rfl rfl rfl rfl hh
  have hh : pm_run PT n fr lo 122 (9, [some (.ref 0), some (.int r), none, none], [.ref 0], h, 198, sl) = some R := hh
  obtain ⟨n, hh⟩ := rn_gr hw.wt rfl rfl (by decide) rfl (by decide) (show _ = some (2, ((1 : Nat) : Int), 1) from rfl) rfl hh
  obtain ⟨n, hh⟩ := rn_i rfl rfl rfl rfl hh
  have hh : pm_run PT n fr lo 122 (13, [some (.ref 0), some (.int r), none, none], [.int (nI 0), .ref 1], h, 198, sl) = some R := hh
  obtain ⟨n, hh⟩ := rn_pi hw.wt rfl rfl (by decide) rfl (by decide) rfl hh
  obtain ⟨n, hh⟩ := rn_i rfl rfl rfl rfl hh
  have hh : pm_run PT n fr lo 122 (17, [some (.ref 0), some (.int r), none, none], [.int r], fset h 1 1 (.int (nI 0)), 198, sl) = some R := hh
  obtain ⟨n, hh⟩ := en_zn (cc := .lt) (off := 9) (t := 26) (b := pm_cmp .lt r 0) rfl rfl rfl hh
  cases z1 : pm_cmp .lt r 0 with
  | true =>
    have hh := en_t z1 hh
    have hh : pm_run PT n fr lo 122 (26, [some (.ref 0), some (.int r), none, none], [], fset h 1 1 (.int (nI 0)), 198, sl) = some R := hh
    obtain ⟨n, hh⟩ := rn_i rfl rfl rfl rfl hh
    obtain ⟨n, hh⟩ := rn_i rfl rfl rfl rfl hh
    have hh : pm_run PT n fr lo 122 (28, [some (.ref 0), some (.int r), none, none], [.ref 0, .ref 0], fset h 1 1 (.int (nI 0)), 198, sl) = some R := hh
    obtain ⟨n, hh⟩ := rn_g9 (p := 142) ho (show (fset h 1 1 (.int (nI 0))) 0 = h 0 from (show frm [1] [(1, 1)] h (fset h 1 1 (.int (nI 0))) from (fr_f rfl rfl fr_0)).1 0 rfl) rfl rfl hh
    have hh : pm_run PT n fr lo 122 (31, [some (.ref 0), some (.int r), none, none], [.ref 142, .ref 0], fset h 1 1 (.int (nI 0)), 198, sl) = some R := hh
    obtain ⟨n, fr1, lo1, r1, hh1, hh⟩ := rn_call (w := 0) (t := 149) rfl rfl hh
    obtain ⟨er2, hc3, hf4⟩ := v149a_ok (z := z) (hc_f rfl rfl (by decide) rfl hw) hz ((Fi_n (Or.inl (by decide))).trans e1) (NA_e (Ar_f.trans rfl) hol) hh1
    subst er2
    obtain ⟨n, hh⟩ := rn_i rfl rfl rfl rfl hh
    obtain ⟨n, hh⟩ := rn_i rfl rfl rfl rfl hh
    obtain ⟨n, hh⟩ := rn_i rfl rfl rfl rfl hh
    have hh : pm_run PT n fr lo 122 (37, [some (.ref 0), some (.int r), some (.int ((v149a q cc gc (fset h 1 1 (.int (nI 0))) z).1)), none], [.ref 0, .ref 0], (v149a q cc gc (fset h 1 1 (.int (nI 0))) z).2, 198, sl) = some R := hh
    obtain ⟨n, hh⟩ := en_q hc3 rfl rfl hh
    have hh : pm_run PT n fr lo 122 (40, [some (.ref 0), some (.int r), some (.int ((v149a q cc gc (fset h 1 1 (.int (nI 0))) z).1)), none], [.ref q.1, .ref 0], (v149a q cc gc (fset h 1 1 (.int (nI 0))) z).2, 198, sl) = some R := hh
    obtain ⟨n, fr1, lo1, r1, hh1, hh⟩ := rn_call (w := 0) (t := 149) rfl rfl hh
    obtain ⟨er5, hc6, hf7⟩ := v149_ok hc3 (NA_e ((Ar_e (hf4.1 17 rfl)).trans (Ar_f.trans rfl)) hol) hh1
    subst er5
    obtain ⟨n, hh⟩ := rn_i rfl rfl rfl rfl hh
    obtain ⟨n, hh⟩ := rn_i rfl rfl rfl rfl hh
    have hh : pm_run PT n fr lo 122 (45, [some (.ref 0), some (.int r), some (.int ((v149a q cc gc (fset h 1 1 (.int (nI 0))) z).1)), some (.int ((v149 q cc gc ((v149a q cc gc (fset h 1 1 (.int (nI 0))) z).2)).1))], [.ref 0], (v149 q cc gc ((v149a q cc gc (fset h 1 1 (.int (nI 0))) z).2)).2, 198, sl) = some R := hh
    obtain ⟨n, hh⟩ := rn_gr hc6.wt rfl rfl (by decide) rfl (by decide) (show _ = some (2, ((3 : Nat) : Int), 1) from rfl) rfl hh
    obtain ⟨n, hh⟩ := rn_i rfl rfl rfl rfl hh
    obtain ⟨n, hh⟩ := rn_i rfl rfl rfl rfl hh
    obtain ⟨n, hh⟩ := rn_i rfl rfl rfl rfl hh
    obtain ⟨n, hh⟩ := rn_i rfl rfl rfl rfl hh
    have hh : pm_run PT n fr lo 122 (52, [some (.ref 0), some (.int r), some (.int ((v149a q cc gc (fset h 1 1 (.int (nI 0))) z).1)), some (.int ((v149 q cc gc ((v149a q cc gc (fset h 1 1 (.int (nI 0))) z).2)).1))], [.long (((v149 q cc gc ((v149a q cc gc (fset h 1 1 (.int (nI 0))) z).2)).1).toInt64), .long (((v149a q cc gc (fset h 1 1 (.int (nI 0))) z).1).toInt64), .ref 3], (v149 q cc gc ((v149a q cc gc (fset h 1 1 (.int (nI 0))) z).2)).2, 198, sl) = some R := hh
    obtain ⟨n, fr1, lo1, r1, hh1, hh⟩ := rn_call (w := 0) (t := 56) rfl rfl hh
    obtain ⟨er8, hc9, hf10⟩ := v56_ok (v := (((v149a q cc gc (fset h 1 1 (.int (nI 0))) z).1).toInt64)) (w := (((v149 q cc gc ((v149a q cc gc (fset h 1 1 (.int (nI 0))) z).2)).1).toInt64)) hc6 hh1
    subst er8
    obtain ⟨n, hh⟩ := rn_i rfl rfl rfl rfl hh
    obtain ⟨n, hh⟩ := rn_i rfl rfl rfl rfl hh
    obtain ⟨n, hh⟩ := rn_i rfl rfl rfl rfl hh
    have hh : pm_run PT n fr lo 122 (58, [some (.ref 0), some (.int r), some (.int ((v149a q cc gc (fset h 1 1 (.int (nI 0))) z).1)), some (.int ((v149 q cc gc ((v149a q cc gc (fset h 1 1 (.int (nI 0))) z).2)).1))], [.int (((v149a q cc gc (fset h 1 1 (.int (nI 0))) z).1) - ((v149 q cc gc ((v149a q cc gc (fset h 1 1 (.int (nI 0))) z).2)).1))], v56 q cc gc ((v149 q cc gc ((v149a q cc gc (fset h 1 1 (.int (nI 0))) z).2)).2) (((v149a q cc gc (fset h 1 1 (.int (nI 0))) z).1).toInt64) (((v149 q cc gc ((v149a q cc gc (fset h 1 1 (.int (nI 0))) z).2)).1).toInt64), 198, sl) = some R := hh
    have er11 : R = (some (.int (((v149a q cc gc (fset h 1 1 (.int (nI 0))) z).1) - ((v149 q cc gc ((v149a q cc gc (fset h 1 1 (.int (nI 0))) z).2)).1))), v56 q cc gc ((v149 q cc gc ((v149a q cc gc (fset h 1 1 (.int (nI 0))) z).2)).2) (((v149a q cc gc (fset h 1 1 (.int (nI 0))) z).1).toInt64) (((v149 q cc gc ((v149a q cc gc (fset h 1 1 (.int (nI 0))) z).2)).1).toInt64), 198, sl) := (rn_ret rfl (Or.inl rfl) hh).2
    have ed : v122a q cc gc h z r = (((v149a q cc gc (fset h 1 1 (.int (nI 0))) z).1) - ((v149 q cc gc ((v149a q cc gc (fset h 1 1 (.int (nI 0))) z).2)).1), v56 q cc gc ((v149 q cc gc ((v149a q cc gc (fset h 1 1 (.int (nI 0))) z).2)).2) (((v149a q cc gc (fset h 1 1 (.int (nI 0))) z).1).toInt64) (((v149 q cc gc ((v149a q cc gc (fset h 1 1 (.int (nI 0))) z).2)).1).toInt64)) := (ct z1).trans rfl
    refine ⟨?_, ?_, ?_⟩ <;> rw [ed]
    · exact er11
    · exact hc9
    · exact (fr_g rfl rfl hf10 (fr_g rfl rfl hf7 (fr_g rfl rfl hf4 (fr_f rfl rfl fr_0))))
  | false =>
    have hh := en_f z1 hh
    have hh : pm_run PT n fr lo 122 (20, [some (.ref 0), some (.int r), none, none], [], fset h 1 1 (.int (nI 0)), 198, sl) = some R := hh
    obtain ⟨n, hh⟩ := rn_i rfl rfl rfl rfl hh
    obtain ⟨n, hh⟩ := rn_i rfl rfl rfl rfl hh
    obtain ⟨n, hh⟩ := rn_i rfl rfl rfl rfl hh
    have hh : pm_run PT n fr lo 122 (25, [some (.ref 0), some (.int r), none, none], [.int ((Int32.ofInt (-10000)) - r)], fset h 1 1 (.int (nI 0)), 198, sl) = some R := hh
    have er12 : R = (some (.int ((Int32.ofInt (-10000)) - r)), fset h 1 1 (.int (nI 0)), 198, sl) := (rn_ret rfl (Or.inl rfl) hh).2
    have ed : v122a q cc gc h z r = ((Int32.ofInt (-10000)) - r, fset h 1 1 (.int (nI 0))) := (cf z1).trans rfl
    refine ⟨?_, ?_, ?_⟩ <;> rw [ed]
    · exact er12
    · exact (hc_f rfl rfl (by decide) rfl hw)
    · exact (fr_f rfl rfl fr_0)
def v39b (q : QT) (cc gc : Nat) (h : pm_H) (z : Nat) (g : Nat) (c : Nat) : Int32 × pm_H := (imax (nI 0) (imin (nI 999) ((v68b q cc gc (aset h 12 7 (upd (upd (upd (upd (upd (upd (upd (Ar h 12) 0 ((Ar h 10) g)) 1 (v28t q cc gc (Ar h 7) c ((Ar h 9) g))) 2 ((Ar h 6) c)) 3 ((Ar h 6) (((Ar h 17) g).toNatClampNeg))) 4 (v270 q cc gc ((Ar h 18) g))) 5 ((Ar h 11) g)) 6 (cond (cond (v74 q cc gc (Fi h 13 5) g) true false) 1 0))) z).1)), (v68b q cc gc (aset h 12 7 (upd (upd (upd (upd (upd (upd (upd (Ar h 12) 0 ((Ar h 10) g)) 1 (v28t q cc gc (Ar h 7) c ((Ar h 9) g))) 2 ((Ar h 6) c)) 3 ((Ar h 6) (((Ar h 17) g).toNatClampNeg))) 4 (v270 q cc gc ((Ar h 18) g))) 5 ((Ar h 11) g)) 6 (cond (cond (v74 q cc gc (Fi h 13 5) g) true false) 1 0))) z).2)
theorem v39b_ok {n fr lo sl cc gc : Nat} {q : QT} {h : pm_H} {R : pm_Rs} {z : Nat} {g : Nat} {c : Nat} (hw : HC q cc gc h) (h_g : g < 10000) (h_c : c < 10000) (hz : z ≤ 40) (e1 : Fi h 145 1 = nI z) (hh : pm_run PT n fr lo 39 (0, pm_l0 [.ref 5, .ref 145, .ref 13, .int (nI g), .int (nI c)] 5, [], h, 198, sl) = some R) : R = (some (.int ((v39b q cc gc h z g c).1)), (v39b q cc gc h z g c).2, 198, sl) ∧ HC q cc gc ((v39b q cc gc h z g c).2) ∧ frm [12, 145, 147] [(145, 3)] h ((v39b q cc gc h z g c).2) := by
  have hcc := hw.cb
  have hgc := hw.gb
  have hzr := hw.zr
  obtain ⟨n, hh⟩ := rn_i rfl rfl rfl rfl hh
  have hh : pm_run PT n fr lo 39 (1, [some (.ref 5), some (.ref 145), some (.ref 13), some (.int (nI g)), some (.int (nI c))], [.ref 5], h, 198, sl) = some R := hh
  obtain ⟨n, hh⟩ := rn_gr hw.wt rfl rfl (by decide) rfl (by decide) (show _ = some (2, ((12 : Nat) : Int), 1) from rfl) rfl hh
  obtain ⟨n, hh⟩ := rn_i rfl rfl rfl rfl hh
  obtain ⟨n, hh⟩ := rn_i rfl rfl rfl rfl hh
  have hh : pm_run PT n fr lo 39 (6, [some (.ref 5), some (.ref 145), some (.ref 13), some (.int (nI g)), some (.int (nI c))], [.ref 5, .int (nI 0), .ref 12], h, 198, sl) = some R := hh
  obtain ⟨n, hh⟩ := rn_gr hw.wt rfl rfl (by decide) rfl (by decide) (show _ = some (2, ((10 : Nat) : Int), 1) from rfl) rfl hh
  obtain ⟨n, hh⟩ := rn_i rfl rfl rfl rfl hh
  have hh : pm_run PT n fr lo 39 (10, [some (.ref 5), some (.ref 145), some (.ref 13), some (.int (nI g)), some (.int (nI c))], [.int (nI g), .ref 10, .int (nI 0), .ref 12], h, 198, sl) = some R := hh
  obtain ⟨n, hx1, hh⟩ := en_lu (t := g) (f := Ar h 10) (w := (Ar h 10) g) (nI_clamp (by omega)) hw.wt rfl (by decide) rfl (by decide) rfl (fun _ => rfl) hh
  have hh : pm_run PT n fr lo 39 (11, [some (.ref 5), some (.ref 145), some (.ref 13), some (.int (nI g)), some (.int (nI c))], [.int ((Ar h 10) g), .int (nI 0), .ref 12], h, 198, sl) = some R := hh
  obtain ⟨n, hx2, hh⟩ := en_st (t := 0) (f := Ar h 12) (nI_clamp (by omega)) hw.wt rfl (by decide) rfl (by decide) rfl hh
  obtain ⟨n, hh⟩ := rn_i rfl rfl rfl rfl hh
  have hh : pm_run PT n fr lo 39 (13, [some (.ref 5), some (.ref 145), some (.ref 13), some (.int (nI g)), some (.int (nI c))], [.ref 5], aset h 12 7 (upd (Ar h 12) 0 ((Ar h 10) g)), 198, sl) = some R := hh
  obtain ⟨n, hh⟩ := rn_gr (hc_a rfl rfl hw).wt rfl rfl (by decide) rfl (by decide) (show _ = some (2, ((12 : Nat) : Int), 1) from rfl) rfl hh
  obtain ⟨n, hh⟩ := rn_i rfl rfl rfl rfl hh
  obtain ⟨n, hh⟩ := rn_i rfl rfl rfl rfl hh
  obtain ⟨n, hh⟩ := rn_i rfl rfl rfl rfl hh
  obtain ⟨n, hh⟩ := rn_i rfl rfl rfl rfl hh
  have hh : pm_run PT n fr lo 39 (21, [some (.ref 5), some (.ref 145), some (.ref 13), some (.int (nI g)), some (.int (nI c))], [.ref 5, .int (nI c), .ref 5, .int (nI 1), .ref 12], aset h 12 7 (upd (Ar h 12) 0 ((Ar h 10) g)), 198, sl) = some R := hh
  obtain ⟨n, hh⟩ := rn_gr (hc_a rfl rfl hw).wt rfl rfl (by decide) rfl (by decide) (show _ = some (2, ((9 : Nat) : Int), 1) from rfl) rfl hh
  obtain ⟨n, hh⟩ := rn_i rfl rfl rfl rfl hh
  have hh : pm_run PT n fr lo 39 (25, [some (.ref 5), some (.ref 145), some (.ref 13), some (.int (nI g)), some (.int (nI c))], [.int (nI g), .ref 9, .int (nI c), .ref 5, .int (nI 1), .ref 12], aset h 12 7 (upd (Ar h 12) 0 ((Ar h 10) g)), 198, sl) = some R := hh
  obtain ⟨n, hx3, hh⟩ := en_lu (t := g) (f := Ar h 9) (w := (Ar h 9) g) (nI_clamp (by omega)) (hc_a rfl rfl hw).wt rfl (by decide) rfl (by decide) ((Ar_n (by decide)).trans rfl) (fun _ => rfl) hh
  have hh : pm_run PT n fr lo 39 (26, [some (.ref 5), some (.ref 145), some (.ref 13), some (.int (nI g)), some (.int (nI c))], [.int ((Ar h 9) g), .int (nI c), .ref 5, .int (nI 1), .ref 12], aset h 12 7 (upd (Ar h 12) 0 ((Ar h 10) g)), 198, sl) = some R := hh
  obtain ⟨n, fr1, lo1, r1, hh1, hh⟩ := rn_call (w := 0) (t := 28) rfl rfl hh
  have er4 := v28t_ok (c := c) (d := ((Ar h 9) g)) (hc_a rfl rfl hw) (by omega) hh1
  rw [show Ar (aset h 12 7 (upd (Ar h 12) 0 ((Ar h 10) g))) 7 = Ar h 7 from ((Ar_n (by decide)).trans rfl)] at er4
  subst er4
  have hh : pm_run PT n fr lo 39 (29, [some (.ref 5), some (.ref 145), some (.ref 13), some (.int (nI g)), some (.int (nI c))], [.int (v28t q cc gc (Ar h 7) c ((Ar h 9) g)), .int (nI 1), .ref 12], aset h 12 7 (upd (Ar h 12) 0 ((Ar h 10) g)), 198, sl) = some R := hh
  obtain ⟨n, hx5, hh⟩ := en_st (t := 1) (f := upd (Ar h 12) 0 ((Ar h 10) g)) (nI_clamp (by omega)) (hc_a rfl rfl hw).wt rfl (by decide) rfl (by decide) Ar_s hh
  have hh : pm_run PT n fr lo 39 (30, [some (.ref 5), some (.ref 145), some (.ref 13), some (.int (nI g)), some (.int (nI c))], [], aset (aset h 12 7 (upd (Ar h 12) 0 ((Ar h 10) g))) 12 7 (upd (upd (Ar h 12) 0 ((Ar h 10) g)) 1 (v28t q cc gc (Ar h 7) c ((Ar h 9) g))), 198, sl) = some R := hh
  rw [aset_aset] at hh
  obtain ⟨n, hh⟩ := rn_i rfl rfl rfl rfl hh
  have hh : pm_run PT n fr lo 39 (31, [some (.ref 5), some (.ref 145), some (.ref 13), some (.int (nI g)), some (.int (nI c))], [.ref 5], aset h 12 7 (upd (upd (Ar h 12) 0 ((Ar h 10) g)) 1 (v28t q cc gc (Ar h 7) c ((Ar h 9) g))), 198, sl) = some R := hh
  obtain ⟨n, hh⟩ := rn_gr (hc_a rfl rfl hw).wt rfl rfl (by decide) rfl (by decide) (show _ = some (2, ((12 : Nat) : Int), 1) from rfl) rfl hh
  obtain ⟨n, hh⟩ := rn_i rfl rfl rfl rfl hh
  obtain ⟨n, hh⟩ := rn_i rfl rfl rfl rfl hh
  have hh : pm_run PT n fr lo 39 (36, [some (.ref 5), some (.ref 145), some (.ref 13), some (.int (nI g)), some (.int (nI c))], [.ref 5, .int (nI 2), .ref 12], aset h 12 7 (upd (upd (Ar h 12) 0 ((Ar h 10) g)) 1 (v28t q cc gc (Ar h 7) c ((Ar h 9) g))), 198, sl) = some R := hh
  obtain ⟨n, hh⟩ := rn_gr (hc_a rfl rfl hw).wt rfl rfl (by decide) rfl (by decide) (show _ = some (2, ((6 : Nat) : Int), 1) from rfl) rfl hh
  obtain ⟨n, hh⟩ := rn_i rfl rfl rfl rfl hh
  have hh : pm_run PT n fr lo 39 (41, [some (.ref 5), some (.ref 145), some (.ref 13), some (.int (nI g)), some (.int (nI c))], [.int (nI c), .ref 6, .int (nI 2), .ref 12], aset h 12 7 (upd (upd (Ar h 12) 0 ((Ar h 10) g)) 1 (v28t q cc gc (Ar h 7) c ((Ar h 9) g))), 198, sl) = some R := hh
  obtain ⟨n, hx6, hh⟩ := en_lu (t := c) (f := Ar h 6) (w := (Ar h 6) c) (nI_clamp (by omega)) (hc_a rfl rfl hw).wt rfl (by decide) rfl (by decide) ((Ar_n (by decide)).trans rfl) (fun _ => rfl) hh
  have hh : pm_run PT n fr lo 39 (42, [some (.ref 5), some (.ref 145), some (.ref 13), some (.int (nI g)), some (.int (nI c))], [.int ((Ar h 6) c), .int (nI 2), .ref 12], aset h 12 7 (upd (upd (Ar h 12) 0 ((Ar h 10) g)) 1 (v28t q cc gc (Ar h 7) c ((Ar h 9) g))), 198, sl) = some R := hh
  obtain ⟨n, hx7, hh⟩ := en_st (t := 2) (f := upd (upd (Ar h 12) 0 ((Ar h 10) g)) 1 (v28t q cc gc (Ar h 7) c ((Ar h 9) g))) (nI_clamp (by omega)) (hc_a rfl rfl hw).wt rfl (by decide) rfl (by decide) Ar_s hh
  have hh : pm_run PT n fr lo 39 (43, [some (.ref 5), some (.ref 145), some (.ref 13), some (.int (nI g)), some (.int (nI c))], [], aset (aset h 12 7 (upd (upd (Ar h 12) 0 ((Ar h 10) g)) 1 (v28t q cc gc (Ar h 7) c ((Ar h 9) g)))) 12 7 (upd (upd (upd (Ar h 12) 0 ((Ar h 10) g)) 1 (v28t q cc gc (Ar h 7) c ((Ar h 9) g))) 2 ((Ar h 6) c)), 198, sl) = some R := hh
  rw [aset_aset] at hh
  obtain ⟨n, hh⟩ := rn_i rfl rfl rfl rfl hh
  have hh : pm_run PT n fr lo 39 (44, [some (.ref 5), some (.ref 145), some (.ref 13), some (.int (nI g)), some (.int (nI c))], [.ref 5], aset h 12 7 (upd (upd (upd (Ar h 12) 0 ((Ar h 10) g)) 1 (v28t q cc gc (Ar h 7) c ((Ar h 9) g))) 2 ((Ar h 6) c)), 198, sl) = some R := hh
  obtain ⟨n, hh⟩ := rn_gr (hc_a rfl rfl hw).wt rfl rfl (by decide) rfl (by decide) (show _ = some (2, ((12 : Nat) : Int), 1) from rfl) rfl hh
  obtain ⟨n, hh⟩ := rn_i rfl rfl rfl rfl hh
  obtain ⟨n, hh⟩ := rn_i rfl rfl rfl rfl hh
  have hh : pm_run PT n fr lo 39 (49, [some (.ref 5), some (.ref 145), some (.ref 13), some (.int (nI g)), some (.int (nI c))], [.ref 5, .int (nI 3), .ref 12], aset h 12 7 (upd (upd (upd (Ar h 12) 0 ((Ar h 10) g)) 1 (v28t q cc gc (Ar h 7) c ((Ar h 9) g))) 2 ((Ar h 6) c)), 198, sl) = some R := hh
  obtain ⟨n, hh⟩ := rn_gr (hc_a rfl rfl hw).wt rfl rfl (by decide) rfl (by decide) (show _ = some (2, ((6 : Nat) : Int), 1) from rfl) rfl hh
  obtain ⟨n, hh⟩ := rn_i rfl rfl rfl rfl hh
  have hh : pm_run PT n fr lo 39 (53, [some (.ref 5), some (.ref 145), some (.ref 13), some (.int (nI g)), some (.int (nI c))], [.ref 13, .ref 6, .int (nI 3), .ref 12], aset h 12 7 (upd (upd (upd (Ar h 12) 0 ((Ar h 10) g)) 1 (v28t q cc gc (Ar h 7) c ((Ar h 9) g))) 2 ((Ar h 6) c)), 198, sl) = some R := hh
  obtain ⟨n, hh⟩ := rn_gr (hc_a rfl rfl hw).wt rfl rfl (by decide) rfl (by decide) (show _ = some (2, ((17 : Nat) : Int), 1) from rfl) rfl hh
  obtain ⟨n, hh⟩ := rn_i rfl rfl rfl rfl hh
  have hh : pm_run PT n fr lo 39 (57, [some (.ref 5), some (.ref 145), some (.ref 13), some (.int (nI g)), some (.int (nI c))], [.int (nI g), .ref 17, .ref 6, .int (nI 3), .ref 12], aset h 12 7 (upd (upd (upd (Ar h 12) 0 ((Ar h 10) g)) 1 (v28t q cc gc (Ar h 7) c ((Ar h 9) g))) 2 ((Ar h 6) c)), 198, sl) = some R := hh
  obtain ⟨n, hx8, hh⟩ := en_lu (t := g) (f := Ar h 17) (w := (Ar h 17) g) (nI_clamp (by omega)) (hc_a rfl rfl hw).wt rfl (by decide) rfl (by decide) ((Ar_n (by decide)).trans rfl) (fun _ => rfl) hh
  have hh : pm_run PT n fr lo 39 (58, [some (.ref 5), some (.ref 145), some (.ref 13), some (.int (nI g)), some (.int (nI c))], [.int ((Ar h 17) g), .ref 6, .int (nI 3), .ref 12], aset h 12 7 (upd (upd (upd (Ar h 12) 0 ((Ar h 10) g)) 1 (v28t q cc gc (Ar h 7) c ((Ar h 9) g))) 2 ((Ar h 6) c)), 198, sl) = some R := hh
  obtain ⟨n, hx9, hh⟩ := en_lu (t := ((Ar h 17) g).toNatClampNeg) (f := Ar h 6) (w := (Ar h 6) (((Ar h 17) g).toNatClampNeg)) rfl (hc_a rfl rfl hw).wt rfl (by decide) rfl (by decide) ((Ar_n (by decide)).trans rfl) (fun _ => rfl) hh
  have hh : pm_run PT n fr lo 39 (59, [some (.ref 5), some (.ref 145), some (.ref 13), some (.int (nI g)), some (.int (nI c))], [.int ((Ar h 6) (((Ar h 17) g).toNatClampNeg)), .int (nI 3), .ref 12], aset h 12 7 (upd (upd (upd (Ar h 12) 0 ((Ar h 10) g)) 1 (v28t q cc gc (Ar h 7) c ((Ar h 9) g))) 2 ((Ar h 6) c)), 198, sl) = some R := hh
  obtain ⟨n, hx10, hh⟩ := en_st (t := 3) (f := upd (upd (upd (Ar h 12) 0 ((Ar h 10) g)) 1 (v28t q cc gc (Ar h 7) c ((Ar h 9) g))) 2 ((Ar h 6) c)) (nI_clamp (by omega)) (hc_a rfl rfl hw).wt rfl (by decide) rfl (by decide) Ar_s hh
  have hh : pm_run PT n fr lo 39 (60, [some (.ref 5), some (.ref 145), some (.ref 13), some (.int (nI g)), some (.int (nI c))], [], aset (aset h 12 7 (upd (upd (upd (Ar h 12) 0 ((Ar h 10) g)) 1 (v28t q cc gc (Ar h 7) c ((Ar h 9) g))) 2 ((Ar h 6) c))) 12 7 (upd (upd (upd (upd (Ar h 12) 0 ((Ar h 10) g)) 1 (v28t q cc gc (Ar h 7) c ((Ar h 9) g))) 2 ((Ar h 6) c)) 3 ((Ar h 6) (((Ar h 17) g).toNatClampNeg))), 198, sl) = some R := hh
  rw [aset_aset] at hh
  obtain ⟨n, hh⟩ := rn_i rfl rfl rfl rfl hh
  have hh : pm_run PT n fr lo 39 (61, [some (.ref 5), some (.ref 145), some (.ref 13), some (.int (nI g)), some (.int (nI c))], [.ref 5], aset h 12 7 (upd (upd (upd (upd (Ar h 12) 0 ((Ar h 10) g)) 1 (v28t q cc gc (Ar h 7) c ((Ar h 9) g))) 2 ((Ar h 6) c)) 3 ((Ar h 6) (((Ar h 17) g).toNatClampNeg))), 198, sl) = some R := hh
  obtain ⟨n, hh⟩ := rn_gr (hc_a rfl rfl hw).wt rfl rfl (by decide) rfl (by decide) (show _ = some (2, ((12 : Nat) : Int), 1) from rfl) rfl hh
  obtain ⟨n, hh⟩ := rn_i rfl rfl rfl rfl hh
  obtain ⟨n, hh⟩ := rn_i rfl rfl rfl rfl hh
  have hh : pm_run PT n fr lo 39 (66, [some (.ref 5), some (.ref 145), some (.ref 13), some (.int (nI g)), some (.int (nI c))], [.ref 13, .int (nI 4), .ref 12], aset h 12 7 (upd (upd (upd (upd (Ar h 12) 0 ((Ar h 10) g)) 1 (v28t q cc gc (Ar h 7) c ((Ar h 9) g))) 2 ((Ar h 6) c)) 3 ((Ar h 6) (((Ar h 17) g).toNatClampNeg))), 198, sl) = some R := hh
  obtain ⟨n, hh⟩ := rn_gr (hc_a rfl rfl hw).wt rfl rfl (by decide) rfl (by decide) (show _ = some (2, ((18 : Nat) : Int), 1) from rfl) rfl hh
  obtain ⟨n, hh⟩ := rn_i rfl rfl rfl rfl hh
  have hh : pm_run PT n fr lo 39 (70, [some (.ref 5), some (.ref 145), some (.ref 13), some (.int (nI g)), some (.int (nI c))], [.int (nI g), .ref 18, .int (nI 4), .ref 12], aset h 12 7 (upd (upd (upd (upd (Ar h 12) 0 ((Ar h 10) g)) 1 (v28t q cc gc (Ar h 7) c ((Ar h 9) g))) 2 ((Ar h 6) c)) 3 ((Ar h 6) (((Ar h 17) g).toNatClampNeg))), 198, sl) = some R := hh
  obtain ⟨n, hx11, hh⟩ := en_lu (t := g) (f := Ar h 18) (w := (Ar h 18) g) (nI_clamp (by omega)) (hc_a rfl rfl hw).wt rfl (by decide) rfl (by decide) ((Ar_n (by decide)).trans rfl) (fun _ => rfl) hh
  have hh : pm_run PT n fr lo 39 (71, [some (.ref 5), some (.ref 145), some (.ref 13), some (.int (nI g)), some (.int (nI c))], [.int ((Ar h 18) g), .int (nI 4), .ref 12], aset h 12 7 (upd (upd (upd (upd (Ar h 12) 0 ((Ar h 10) g)) 1 (v28t q cc gc (Ar h 7) c ((Ar h 9) g))) 2 ((Ar h 6) c)) 3 ((Ar h 6) (((Ar h 17) g).toNatClampNeg))), 198, sl) = some R := hh
  obtain ⟨n, fr1, lo1, r1, hh1, hh⟩ := rn_call (w := 2) (t := 270) rfl rfl hh
  have er12 := v270_ok (a := ((Ar h 18) g)) (hc_a rfl rfl hw) hh1
  subst er12
  have hh : pm_run PT n fr lo 39 (74, [some (.ref 5), some (.ref 145), some (.ref 13), some (.int (nI g)), some (.int (nI c))], [.int (v270 q cc gc ((Ar h 18) g)), .int (nI 4), .ref 12], aset h 12 7 (upd (upd (upd (upd (Ar h 12) 0 ((Ar h 10) g)) 1 (v28t q cc gc (Ar h 7) c ((Ar h 9) g))) 2 ((Ar h 6) c)) 3 ((Ar h 6) (((Ar h 17) g).toNatClampNeg))), 198, sl) = some R := hh
  obtain ⟨n, hx13, hh⟩ := en_st (t := 4) (f := upd (upd (upd (upd (Ar h 12) 0 ((Ar h 10) g)) 1 (v28t q cc gc (Ar h 7) c ((Ar h 9) g))) 2 ((Ar h 6) c)) 3 ((Ar h 6) (((Ar h 17) g).toNatClampNeg))) (nI_clamp (by omega)) (hc_a rfl rfl hw).wt rfl (by decide) rfl (by decide) Ar_s hh
  have hh : pm_run PT n fr lo 39 (75, [some (.ref 5), some (.ref 145), some (.ref 13), some (.int (nI g)), some (.int (nI c))], [], aset (aset h 12 7 (upd (upd (upd (upd (Ar h 12) 0 ((Ar h 10) g)) 1 (v28t q cc gc (Ar h 7) c ((Ar h 9) g))) 2 ((Ar h 6) c)) 3 ((Ar h 6) (((Ar h 17) g).toNatClampNeg)))) 12 7 (upd (upd (upd (upd (upd (Ar h 12) 0 ((Ar h 10) g)) 1 (v28t q cc gc (Ar h 7) c ((Ar h 9) g))) 2 ((Ar h 6) c)) 3 ((Ar h 6) (((Ar h 17) g).toNatClampNeg))) 4 (v270 q cc gc ((Ar h 18) g))), 198, sl) = some R := hh
  rw [aset_aset] at hh
  obtain ⟨n, hh⟩ := rn_i rfl rfl rfl rfl hh
  have hh : pm_run PT n fr lo 39 (76, [some (.ref 5), some (.ref 145), some (.ref 13), some (.int (nI g)), some (.int (nI c))], [.ref 5], aset h 12 7 (upd (upd (upd (upd (upd (Ar h 12) 0 ((Ar h 10) g)) 1 (v28t q cc gc (Ar h 7) c ((Ar h 9) g))) 2 ((Ar h 6) c)) 3 ((Ar h 6) (((Ar h 17) g).toNatClampNeg))) 4 (v270 q cc gc ((Ar h 18) g))), 198, sl) = some R := hh
  obtain ⟨n, hh⟩ := rn_gr (hc_a rfl rfl hw).wt rfl rfl (by decide) rfl (by decide) (show _ = some (2, ((12 : Nat) : Int), 1) from rfl) rfl hh
  obtain ⟨n, hh⟩ := rn_i rfl rfl rfl rfl hh
  obtain ⟨n, hh⟩ := rn_i rfl rfl rfl rfl hh
  have hh : pm_run PT n fr lo 39 (81, [some (.ref 5), some (.ref 145), some (.ref 13), some (.int (nI g)), some (.int (nI c))], [.ref 5, .int (nI 5), .ref 12], aset h 12 7 (upd (upd (upd (upd (upd (Ar h 12) 0 ((Ar h 10) g)) 1 (v28t q cc gc (Ar h 7) c ((Ar h 9) g))) 2 ((Ar h 6) c)) 3 ((Ar h 6) (((Ar h 17) g).toNatClampNeg))) 4 (v270 q cc gc ((Ar h 18) g))), 198, sl) = some R := hh
  obtain ⟨n, hh⟩ := rn_gr (hc_a rfl rfl hw).wt rfl rfl (by decide) rfl (by decide) (show _ = some (2, ((11 : Nat) : Int), 1) from rfl) rfl hh
  obtain ⟨n, hh⟩ := rn_i rfl rfl rfl rfl hh
  have hh : pm_run PT n fr lo 39 (85, [some (.ref 5), some (.ref 145), some (.ref 13), some (.int (nI g)), some (.int (nI c))], [.int (nI g), .ref 11, .int (nI 5), .ref 12], aset h 12 7 (upd (upd (upd (upd (upd (Ar h 12) 0 ((Ar h 10) g)) 1 (v28t q cc gc (Ar h 7) c ((Ar h 9) g))) 2 ((Ar h 6) c)) 3 ((Ar h 6) (((Ar h 17) g).toNatClampNeg))) 4 (v270 q cc gc ((Ar h 18) g))), 198, sl) = some R := hh
  obtain ⟨n, hx14, hh⟩ := en_lu (t := g) (f := Ar h 11) (w := (Ar h 11) g) (nI_clamp (by omega)) (hc_a rfl rfl hw).wt rfl (by decide) rfl (by decide) ((Ar_n (by decide)).trans rfl) (fun _ => rfl) hh
  have hh : pm_run PT n fr lo 39 (86, [some (.ref 5), some (.ref 145), some (.ref 13), some (.int (nI g)), some (.int (nI c))], [.int ((Ar h 11) g), .int (nI 5), .ref 12], aset h 12 7 (upd (upd (upd (upd (upd (Ar h 12) 0 ((Ar h 10) g)) 1 (v28t q cc gc (Ar h 7) c ((Ar h 9) g))) 2 ((Ar h 6) c)) 3 ((Ar h 6) (((Ar h 17) g).toNatClampNeg))) 4 (v270 q cc gc ((Ar h 18) g))), 198, sl) = some R := hh
  obtain ⟨n, hx15, hh⟩ := en_st (t := 5) (f := upd (upd (upd (upd (upd (Ar h 12) 0 ((Ar h 10) g)) 1 (v28t q cc gc (Ar h 7) c ((Ar h 9) g))) 2 ((Ar h 6) c)) 3 ((Ar h 6) (((Ar h 17) g).toNatClampNeg))) 4 (v270 q cc gc ((Ar h 18) g))) (nI_clamp (by omega)) (hc_a rfl rfl hw).wt rfl (by decide) rfl (by decide) Ar_s hh
  have hh : pm_run PT n fr lo 39 (87, [some (.ref 5), some (.ref 145), some (.ref 13), some (.int (nI g)), some (.int (nI c))], [], aset (aset h 12 7 (upd (upd (upd (upd (upd (Ar h 12) 0 ((Ar h 10) g)) 1 (v28t q cc gc (Ar h 7) c ((Ar h 9) g))) 2 ((Ar h 6) c)) 3 ((Ar h 6) (((Ar h 17) g).toNatClampNeg))) 4 (v270 q cc gc ((Ar h 18) g)))) 12 7 (upd (upd (upd (upd (upd (upd (Ar h 12) 0 ((Ar h 10) g)) 1 (v28t q cc gc (Ar h 7) c ((Ar h 9) g))) 2 ((Ar h 6) c)) 3 ((Ar h 6) (((Ar h 17) g).toNatClampNeg))) 4 (v270 q cc gc ((Ar h 18) g))) 5 ((Ar h 11) g)), 198, sl) = some R := hh
  rw [aset_aset] at hh
  obtain ⟨n, hh⟩ := rn_i rfl rfl rfl rfl hh
  have hh : pm_run PT n fr lo 39 (88, [some (.ref 5), some (.ref 145), some (.ref 13), some (.int (nI g)), some (.int (nI c))], [.ref 5], aset h 12 7 (upd (upd (upd (upd (upd (upd (Ar h 12) 0 ((Ar h 10) g)) 1 (v28t q cc gc (Ar h 7) c ((Ar h 9) g))) 2 ((Ar h 6) c)) 3 ((Ar h 6) (((Ar h 17) g).toNatClampNeg))) 4 (v270 q cc gc ((Ar h 18) g))) 5 ((Ar h 11) g)), 198, sl) = some R := hh
  obtain ⟨n, hh⟩ := rn_gr (hc_a rfl rfl hw).wt rfl rfl (by decide) rfl (by decide) (show _ = some (2, ((12 : Nat) : Int), 1) from rfl) rfl hh
  obtain ⟨n, hh⟩ := rn_i rfl rfl rfl rfl hh
  obtain ⟨n, hh⟩ := rn_i rfl rfl rfl rfl hh
  obtain ⟨n, hh⟩ := rn_i rfl rfl rfl rfl hh
  have hh : pm_run PT n fr lo 39 (95, [some (.ref 5), some (.ref 145), some (.ref 13), some (.int (nI g)), some (.int (nI c))], [.int (nI g), .ref 13, .int (nI 6), .ref 12], aset h 12 7 (upd (upd (upd (upd (upd (upd (Ar h 12) 0 ((Ar h 10) g)) 1 (v28t q cc gc (Ar h 7) c ((Ar h 9) g))) 2 ((Ar h 6) c)) 3 ((Ar h 6) (((Ar h 17) g).toNatClampNeg))) 4 (v270 q cc gc ((Ar h 18) g))) 5 ((Ar h 11) g)), 198, sl) = some R := hh
  obtain ⟨n, fr1, lo1, r1, hh1, hh⟩ := rn_call (w := 0) (t := 74) rfl rfl hh
  have er16 := v74_ok (g := g) (hc_a rfl rfl hw) (by omega) hh1
  rw [show Fi (aset h 12 7 (upd (upd (upd (upd (upd (upd (Ar h 12) 0 ((Ar h 10) g)) 1 (v28t q cc gc (Ar h 7) c ((Ar h 9) g))) 2 ((Ar h 6) c)) 3 ((Ar h 6) (((Ar h 17) g).toNatClampNeg))) 4 (v270 q cc gc ((Ar h 18) g))) 5 ((Ar h 11) g))) 13 5 = Fi h 13 5 from ((Fi_a (by decide)).trans rfl)] at er16
  subst er16
  have hh : pm_run PT n fr lo 39 (98, [some (.ref 5), some (.ref 145), some (.ref 13), some (.int (nI g)), some (.int (nI c))], [.int (cond (v74 q cc gc (Fi h 13 5) g) 1 0), .int (nI 6), .ref 12], aset h 12 7 (upd (upd (upd (upd (upd (upd (Ar h 12) 0 ((Ar h 10) g)) 1 (v28t q cc gc (Ar h 7) c ((Ar h 9) g))) 2 ((Ar h 6) c)) 3 ((Ar h 6) (((Ar h 17) g).toNatClampNeg))) 4 (v270 q cc gc ((Ar h 18) g))) 5 ((Ar h 11) g)), 198, sl) = some R := hh
  obtain ⟨n, hh⟩ := en_zn (cc := .eq) (off := 7) (t := 105) (b := !(v74 q cc gc (Fi h 13 5) g)) eb_eq rfl rfl hh
  have hj18 : ∃ mJ, pm_run PT mJ fr lo 39 (cond (v74 q cc gc (Fi h 13 5) g) (106, [some (.ref 5), some (.ref 145), some (.ref 13), some (.int (nI g)), some (.int (nI c))], [.int (nI 1), .int (nI 6), .ref 12], aset h 12 7 (upd (upd (upd (upd (upd (upd (Ar h 12) 0 ((Ar h 10) g)) 1 (v28t q cc gc (Ar h 7) c ((Ar h 9) g))) 2 ((Ar h 6) c)) 3 ((Ar h 6) (((Ar h 17) g).toNatClampNeg))) 4 (v270 q cc gc ((Ar h 18) g))) 5 ((Ar h 11) g)), 198, sl) (106, [some (.ref 5), some (.ref 145), some (.ref 13), some (.int (nI g)), some (.int (nI c))], [.int (nI 0), .int (nI 6), .ref 12], aset h 12 7 (upd (upd (upd (upd (upd (upd (Ar h 12) 0 ((Ar h 10) g)) 1 (v28t q cc gc (Ar h 7) c ((Ar h 9) g))) 2 ((Ar h 6) c)) 3 ((Ar h 6) (((Ar h 17) g).toNatClampNeg))) 4 (v270 q cc gc ((Ar h 18) g))) 5 ((Ar h 11) g)), 198, sl)) = some R := en_J (fun z17 => by
      have hh := en_nt z17 hh
      have hh : pm_run PT n fr lo 39 (101, [some (.ref 5), some (.ref 145), some (.ref 13), some (.int (nI g)), some (.int (nI c))], [.int (nI 6), .ref 12], aset h 12 7 (upd (upd (upd (upd (upd (upd (Ar h 12) 0 ((Ar h 10) g)) 1 (v28t q cc gc (Ar h 7) c ((Ar h 9) g))) 2 ((Ar h 6) c)) 3 ((Ar h 6) (((Ar h 17) g).toNatClampNeg))) 4 (v270 q cc gc ((Ar h 18) g))) 5 ((Ar h 11) g)), 198, sl) = some R := hh
      obtain ⟨n, hh⟩ := rn_i rfl rfl rfl rfl hh
      obtain ⟨n, hh⟩ := rn_i rfl rfl rfl rfl hh
      exact ⟨n, hh⟩) (fun z17 => by
      have hh := en_nf z17 hh
      have hh : pm_run PT n fr lo 39 (105, [some (.ref 5), some (.ref 145), some (.ref 13), some (.int (nI g)), some (.int (nI c))], [.int (nI 6), .ref 12], aset h 12 7 (upd (upd (upd (upd (upd (upd (Ar h 12) 0 ((Ar h 10) g)) 1 (v28t q cc gc (Ar h 7) c ((Ar h 9) g))) 2 ((Ar h 6) c)) 3 ((Ar h 6) (((Ar h 17) g).toNatClampNeg))) 4 (v270 q cc gc ((Ar h 18) g))) 5 ((Ar h 11) g)), 198, sl) = some R := hh
      obtain ⟨n, hh⟩ := rn_i rfl rfl rfl rfl hh
      exact ⟨n, hh⟩)
  obtain ⟨n, hh⟩ := hj18
  rw [show (cond (v74 q cc gc (Fi h 13 5) g) (106, [some (.ref 5), some (.ref 145), some (.ref 13), some (.int (nI g)), some (.int (nI c))], [.int (nI 1), .int (nI 6), .ref 12], aset h 12 7 (upd (upd (upd (upd (upd (upd (Ar h 12) 0 ((Ar h 10) g)) 1 (v28t q cc gc (Ar h 7) c ((Ar h 9) g))) 2 ((Ar h 6) c)) 3 ((Ar h 6) (((Ar h 17) g).toNatClampNeg))) 4 (v270 q cc gc ((Ar h 18) g))) 5 ((Ar h 11) g)), 198, sl) (106, [some (.ref 5), some (.ref 145), some (.ref 13), some (.int (nI g)), some (.int (nI c))], [.int (nI 0), .int (nI 6), .ref 12], aset h 12 7 (upd (upd (upd (upd (upd (upd (Ar h 12) 0 ((Ar h 10) g)) 1 (v28t q cc gc (Ar h 7) c ((Ar h 9) g))) 2 ((Ar h 6) c)) 3 ((Ar h 6) (((Ar h 17) g).toNatClampNeg))) 4 (v270 q cc gc ((Ar h 18) g))) 5 ((Ar h 11) g)), 198, sl) : pm_St) = (106, [some (.ref 5), some (.ref 145), some (.ref 13), some (.int (nI g)), some (.int (nI c))], [.int (cond (cond (v74 q cc gc (Fi h 13 5) g) true false) 1 0), .int (nI 6), .ref 12], aset h 12 7 (upd (upd (upd (upd (upd (upd (Ar h 12) 0 ((Ar h 10) g)) 1 (v28t q cc gc (Ar h 7) c ((Ar h 9) g))) 2 ((Ar h 6) c)) 3 ((Ar h 6) (((Ar h 17) g).toNatClampNeg))) 4 (v270 q cc gc ((Ar h 18) g))) 5 ((Ar h 11) g)), 198, sl) from by cases (v74 q cc gc (Fi h 13 5) g) <;> rfl] at hh
  have hh : pm_run PT n fr lo 39 (106, [some (.ref 5), some (.ref 145), some (.ref 13), some (.int (nI g)), some (.int (nI c))], [.int (cond (cond (v74 q cc gc (Fi h 13 5) g) true false) 1 0), .int (nI 6), .ref 12], aset h 12 7 (upd (upd (upd (upd (upd (upd (Ar h 12) 0 ((Ar h 10) g)) 1 (v28t q cc gc (Ar h 7) c ((Ar h 9) g))) 2 ((Ar h 6) c)) 3 ((Ar h 6) (((Ar h 17) g).toNatClampNeg))) 4 (v270 q cc gc ((Ar h 18) g))) 5 ((Ar h 11) g)), 198, sl) = some R := hh
  obtain ⟨n, hx19, hh⟩ := en_st (t := 6) (f := upd (upd (upd (upd (upd (upd (Ar h 12) 0 ((Ar h 10) g)) 1 (v28t q cc gc (Ar h 7) c ((Ar h 9) g))) 2 ((Ar h 6) c)) 3 ((Ar h 6) (((Ar h 17) g).toNatClampNeg))) 4 (v270 q cc gc ((Ar h 18) g))) 5 ((Ar h 11) g)) (nI_clamp (by omega)) (hc_a rfl rfl hw).wt rfl (by decide) rfl (by decide) Ar_s hh
  have hh : pm_run PT n fr lo 39 (107, [some (.ref 5), some (.ref 145), some (.ref 13), some (.int (nI g)), some (.int (nI c))], [], aset (aset h 12 7 (upd (upd (upd (upd (upd (upd (Ar h 12) 0 ((Ar h 10) g)) 1 (v28t q cc gc (Ar h 7) c ((Ar h 9) g))) 2 ((Ar h 6) c)) 3 ((Ar h 6) (((Ar h 17) g).toNatClampNeg))) 4 (v270 q cc gc ((Ar h 18) g))) 5 ((Ar h 11) g))) 12 7 (upd (upd (upd (upd (upd (upd (upd (Ar h 12) 0 ((Ar h 10) g)) 1 (v28t q cc gc (Ar h 7) c ((Ar h 9) g))) 2 ((Ar h 6) c)) 3 ((Ar h 6) (((Ar h 17) g).toNatClampNeg))) 4 (v270 q cc gc ((Ar h 18) g))) 5 ((Ar h 11) g)) 6 (cond (cond (v74 q cc gc (Fi h 13 5) g) true false) 1 0)), 198, sl) = some R := hh
  rw [aset_aset] at hh
  obtain ⟨n, hh⟩ := rn_i rfl rfl rfl rfl hh
  obtain ⟨n, hh⟩ := rn_i rfl rfl rfl rfl hh
  have hh : pm_run PT n fr lo 39 (109, [some (.ref 5), some (.ref 145), some (.ref 13), some (.int (nI g)), some (.int (nI c))], [.ref 5, .ref 145], aset h 12 7 (upd (upd (upd (upd (upd (upd (upd (Ar h 12) 0 ((Ar h 10) g)) 1 (v28t q cc gc (Ar h 7) c ((Ar h 9) g))) 2 ((Ar h 6) c)) 3 ((Ar h 6) (((Ar h 17) g).toNatClampNeg))) 4 (v270 q cc gc ((Ar h 18) g))) 5 ((Ar h 11) g)) 6 (cond (cond (v74 q cc gc (Fi h 13 5) g) true false) 1 0)), 198, sl) = some R := hh
  obtain ⟨n, hh⟩ := rn_gr (hc_a rfl rfl hw).wt rfl rfl (by decide) rfl (by decide) (show _ = some (2, ((12 : Nat) : Int), 1) from rfl) rfl hh
  have hh : pm_run PT n fr lo 39 (112, [some (.ref 5), some (.ref 145), some (.ref 13), some (.int (nI g)), some (.int (nI c))], [.ref 12, .ref 145], aset h 12 7 (upd (upd (upd (upd (upd (upd (upd (Ar h 12) 0 ((Ar h 10) g)) 1 (v28t q cc gc (Ar h 7) c ((Ar h 9) g))) 2 ((Ar h 6) c)) 3 ((Ar h 6) (((Ar h 17) g).toNatClampNeg))) 4 (v270 q cc gc ((Ar h 18) g))) 5 ((Ar h 11) g)) 6 (cond (cond (v74 q cc gc (Fi h 13 5) g) true false) 1 0)), 198, sl) = some R := hh
  obtain ⟨n, fr1, lo1, r1, hh1, hh⟩ := rn_call (w := 0) (t := 68) rfl rfl hh
  obtain ⟨er20, hc21, hf22⟩ := v68b_ok (z := z) (hc_a rfl rfl hw) hz ((Fi_a (by decide)).trans e1) hh1
  subst er20
  obtain ⟨n, hh⟩ := rn_i rfl rfl rfl rfl hh
  have hh : pm_run PT n fr lo 39 (118, [some (.ref 5), some (.ref 145), some (.ref 13), some (.int (nI g)), some (.int (nI c))], [.int (nI 999), .int ((v68b q cc gc (aset h 12 7 (upd (upd (upd (upd (upd (upd (upd (Ar h 12) 0 ((Ar h 10) g)) 1 (v28t q cc gc (Ar h 7) c ((Ar h 9) g))) 2 ((Ar h 6) c)) 3 ((Ar h 6) (((Ar h 17) g).toNatClampNeg))) 4 (v270 q cc gc ((Ar h 18) g))) 5 ((Ar h 11) g)) 6 (cond (cond (v74 q cc gc (Fi h 13 5) g) true false) 1 0))) z).1)], (v68b q cc gc (aset h 12 7 (upd (upd (upd (upd (upd (upd (upd (Ar h 12) 0 ((Ar h 10) g)) 1 (v28t q cc gc (Ar h 7) c ((Ar h 9) g))) 2 ((Ar h 6) c)) 3 ((Ar h 6) (((Ar h 17) g).toNatClampNeg))) 4 (v270 q cc gc ((Ar h 18) g))) 5 ((Ar h 11) g)) 6 (cond (cond (v74 q cc gc (Fi h 13 5) g) true false) 1 0))) z).2, 198, sl) = some R := hh
  obtain ⟨n, fr1, lo1, r1, hh1, hh⟩ := rn_call (w := 3) (t := 159) rfl rfl hh
  have hh1 : pm_run PT n fr1 lo1 159 (0, [some (.int ((v68b q cc gc (aset h 12 7 (upd (upd (upd (upd (upd (upd (upd (Ar h 12) 0 ((Ar h 10) g)) 1 (v28t q cc gc (Ar h 7) c ((Ar h 9) g))) 2 ((Ar h 6) c)) 3 ((Ar h 6) (((Ar h 17) g).toNatClampNeg))) 4 (v270 q cc gc ((Ar h 18) g))) 5 ((Ar h 11) g)) 6 (cond (cond (v74 q cc gc (Fi h 13 5) g) true false) 1 0))) z).1)), some (.int (nI 999))], [], (v68b q cc gc (aset h 12 7 (upd (upd (upd (upd (upd (upd (upd (Ar h 12) 0 ((Ar h 10) g)) 1 (v28t q cc gc (Ar h 7) c ((Ar h 9) g))) 2 ((Ar h 6) c)) 3 ((Ar h 6) (((Ar h 17) g).toNatClampNeg))) 4 (v270 q cc gc ((Ar h 18) g))) 5 ((Ar h 11) g)) 6 (cond (cond (v74 q cc gc (Fi h 13 5) g) true false) 1 0))) z).2, 198, sl) = some r1 := hh1
  obtain ⟨n1, hh1⟩ := rn_i rfl rfl rfl rfl hh1
  obtain ⟨n1, hh1⟩ := rn_i rfl rfl rfl rfl hh1
  obtain ⟨n1, hh1⟩ := rn_i rfl rfl rfl rfl hh1
  have hh1 : pm_run PT n1 fr1 lo1 159 (3, [some (.int ((v68b q cc gc (aset h 12 7 (upd (upd (upd (upd (upd (upd (upd (Ar h 12) 0 ((Ar h 10) g)) 1 (v28t q cc gc (Ar h 7) c ((Ar h 9) g))) 2 ((Ar h 6) c)) 3 ((Ar h 6) (((Ar h 17) g).toNatClampNeg))) 4 (v270 q cc gc ((Ar h 18) g))) 5 ((Ar h 11) g)) 6 (cond (cond (v74 q cc gc (Fi h 13 5) g) true false) 1 0))) z).1)), some (.int (nI 999))], [.int ((v68b q cc gc (aset h 12 7 (upd (upd (upd (upd (upd (upd (upd (Ar h 12) 0 ((Ar h 10) g)) 1 (v28t q cc gc (Ar h 7) c ((Ar h 9) g))) 2 ((Ar h 6) c)) 3 ((Ar h 6) (((Ar h 17) g).toNatClampNeg))) 4 (v270 q cc gc ((Ar h 18) g))) 5 ((Ar h 11) g)) 6 (cond (cond (v74 q cc gc (Fi h 13 5) g) true false) 1 0))) z).1), .int (nI 999), .int (nI 0)], (v68b q cc gc (aset h 12 7 (upd (upd (upd (upd (upd (upd (upd (Ar h 12) 0 ((Ar h 10) g)) 1 (v28t q cc gc (Ar h 7) c ((Ar h 9) g))) 2 ((Ar h 6) c)) 3 ((Ar h 6) (((Ar h 17) g).toNatClampNeg))) 4 (v270 q cc gc ((Ar h 18) g))) 5 ((Ar h 11) g)) 6 (cond (cond (v74 q cc gc (Fi h 13 5) g) true false) 1 0))) z).2, 198, sl) = some r1 := hh1
  obtain ⟨n1, hh1⟩ := en_min rfl rfl rfl hh1
  have hh1 : pm_run PT n1 fr1 lo1 159 (6, [some (.int ((v68b q cc gc (aset h 12 7 (upd (upd (upd (upd (upd (upd (upd (Ar h 12) 0 ((Ar h 10) g)) 1 (v28t q cc gc (Ar h 7) c ((Ar h 9) g))) 2 ((Ar h 6) c)) 3 ((Ar h 6) (((Ar h 17) g).toNatClampNeg))) 4 (v270 q cc gc ((Ar h 18) g))) 5 ((Ar h 11) g)) 6 (cond (cond (v74 q cc gc (Fi h 13 5) g) true false) 1 0))) z).1)), some (.int (nI 999))], [.int (imin (nI 999) ((v68b q cc gc (aset h 12 7 (upd (upd (upd (upd (upd (upd (upd (Ar h 12) 0 ((Ar h 10) g)) 1 (v28t q cc gc (Ar h 7) c ((Ar h 9) g))) 2 ((Ar h 6) c)) 3 ((Ar h 6) (((Ar h 17) g).toNatClampNeg))) 4 (v270 q cc gc ((Ar h 18) g))) 5 ((Ar h 11) g)) 6 (cond (cond (v74 q cc gc (Fi h 13 5) g) true false) 1 0))) z).1)), .int (nI 0)], (v68b q cc gc (aset h 12 7 (upd (upd (upd (upd (upd (upd (upd (Ar h 12) 0 ((Ar h 10) g)) 1 (v28t q cc gc (Ar h 7) c ((Ar h 9) g))) 2 ((Ar h 6) c)) 3 ((Ar h 6) (((Ar h 17) g).toNatClampNeg))) 4 (v270 q cc gc ((Ar h 18) g))) 5 ((Ar h 11) g)) 6 (cond (cond (v74 q cc gc (Fi h 13 5) g) true false) 1 0))) z).2, 198, sl) = some r1 := hh1
  obtain ⟨n1, hh1⟩ := en_max rfl rfl rfl hh1
  have hh1 : pm_run PT n1 fr1 lo1 159 (9, [some (.int ((v68b q cc gc (aset h 12 7 (upd (upd (upd (upd (upd (upd (upd (Ar h 12) 0 ((Ar h 10) g)) 1 (v28t q cc gc (Ar h 7) c ((Ar h 9) g))) 2 ((Ar h 6) c)) 3 ((Ar h 6) (((Ar h 17) g).toNatClampNeg))) 4 (v270 q cc gc ((Ar h 18) g))) 5 ((Ar h 11) g)) 6 (cond (cond (v74 q cc gc (Fi h 13 5) g) true false) 1 0))) z).1)), some (.int (nI 999))], [.int (imax (nI 0) (imin (nI 999) ((v68b q cc gc (aset h 12 7 (upd (upd (upd (upd (upd (upd (upd (Ar h 12) 0 ((Ar h 10) g)) 1 (v28t q cc gc (Ar h 7) c ((Ar h 9) g))) 2 ((Ar h 6) c)) 3 ((Ar h 6) (((Ar h 17) g).toNatClampNeg))) 4 (v270 q cc gc ((Ar h 18) g))) 5 ((Ar h 11) g)) 6 (cond (cond (v74 q cc gc (Fi h 13 5) g) true false) 1 0))) z).1)))], (v68b q cc gc (aset h 12 7 (upd (upd (upd (upd (upd (upd (upd (Ar h 12) 0 ((Ar h 10) g)) 1 (v28t q cc gc (Ar h 7) c ((Ar h 9) g))) 2 ((Ar h 6) c)) 3 ((Ar h 6) (((Ar h 17) g).toNatClampNeg))) 4 (v270 q cc gc ((Ar h 18) g))) 5 ((Ar h 11) g)) 6 (cond (cond (v74 q cc gc (Fi h 13 5) g) true false) 1 0))) z).2, 198, sl) = some r1 := hh1
  have er23 : r1 = (some (.int (imax (nI 0) (imin (nI 999) ((v68b q cc gc (aset h 12 7 (upd (upd (upd (upd (upd (upd (upd (Ar h 12) 0 ((Ar h 10) g)) 1 (v28t q cc gc (Ar h 7) c ((Ar h 9) g))) 2 ((Ar h 6) c)) 3 ((Ar h 6) (((Ar h 17) g).toNatClampNeg))) 4 (v270 q cc gc ((Ar h 18) g))) 5 ((Ar h 11) g)) 6 (cond (cond (v74 q cc gc (Fi h 13 5) g) true false) 1 0))) z).1)))), (v68b q cc gc (aset h 12 7 (upd (upd (upd (upd (upd (upd (upd (Ar h 12) 0 ((Ar h 10) g)) 1 (v28t q cc gc (Ar h 7) c ((Ar h 9) g))) 2 ((Ar h 6) c)) 3 ((Ar h 6) (((Ar h 17) g).toNatClampNeg))) 4 (v270 q cc gc ((Ar h 18) g))) 5 ((Ar h 11) g)) 6 (cond (cond (v74 q cc gc (Fi h 13 5) g) true false) 1 0))) z).2, 198, sl) := (rn_ret rfl (Or.inl rfl) hh1).2
  subst er23
  have hh : pm_run PT n fr lo 39 (121, [some (.ref 5), some (.ref 145), some (.ref 13), some (.int (nI g)), some (.int (nI c))], [.int (imax (nI 0) (imin (nI 999) ((v68b q cc gc (aset h 12 7 (upd (upd (upd (upd (upd (upd (upd (Ar h 12) 0 ((Ar h 10) g)) 1 (v28t q cc gc (Ar h 7) c ((Ar h 9) g))) 2 ((Ar h 6) c)) 3 ((Ar h 6) (((Ar h 17) g).toNatClampNeg))) 4 (v270 q cc gc ((Ar h 18) g))) 5 ((Ar h 11) g)) 6 (cond (cond (v74 q cc gc (Fi h 13 5) g) true false) 1 0))) z).1)))], (v68b q cc gc (aset h 12 7 (upd (upd (upd (upd (upd (upd (upd (Ar h 12) 0 ((Ar h 10) g)) 1 (v28t q cc gc (Ar h 7) c ((Ar h 9) g))) 2 ((Ar h 6) c)) 3 ((Ar h 6) (((Ar h 17) g).toNatClampNeg))) 4 (v270 q cc gc ((Ar h 18) g))) 5 ((Ar h 11) g)) 6 (cond (cond (v74 q cc gc (Fi h 13 5) g) true false) 1 0))) z).2, 198, sl) = some R := hh
  have er24 : R = (some (.int (imax (nI 0) (imin (nI 999) ((v68b q cc gc (aset h 12 7 (upd (upd (upd (upd (upd (upd (upd (Ar h 12) 0 ((Ar h 10) g)) 1 (v28t q cc gc (Ar h 7) c ((Ar h 9) g))) 2 ((Ar h 6) c)) 3 ((Ar h 6) (((Ar h 17) g).toNatClampNeg))) 4 (v270 q cc gc ((Ar h 18) g))) 5 ((Ar h 11) g)) 6 (cond (cond (v74 q cc gc (Fi h 13 5) g) true false) 1 0))) z).1)))), (v68b q cc gc (aset h 12 7 (upd (upd (upd (upd (upd (upd (upd (Ar h 12) 0 ((Ar h 10) g)) 1 (v28t q cc gc (Ar h 7) c ((Ar h 9) g))) 2 ((Ar h 6) c)) 3 ((Ar h 6) (((Ar h 17) g).toNatClampNeg))) 4 (v270 q cc gc ((Ar h 18) g))) 5 ((Ar h 11) g)) 6 (cond (cond (v74 q cc gc (Fi h 13 5) g) true false) 1 0))) z).2, 198, sl) := (rn_ret rfl (Or.inl rfl) hh).2
  have ed : v39b q cc gc h z g c = (imax (nI 0) (imin (nI 999) ((v68b q cc gc (aset h 12 7 (upd (upd (upd (upd (upd (upd (upd (Ar h 12) 0 ((Ar h 10) g)) 1 (v28t q cc gc (Ar h 7) c ((Ar h 9) g))) 2 ((Ar h 6) c)) 3 ((Ar h 6) (((Ar h 17) g).toNatClampNeg))) 4 (v270 q cc gc ((Ar h 18) g))) 5 ((Ar h 11) g)) 6 (cond (cond (v74 q cc gc (Fi h 13 5) g) true false) 1 0))) z).1)), (v68b q cc gc (aset h 12 7 (upd (upd (upd (upd (upd (upd (upd (Ar h 12) 0 ((Ar h 10) g)) 1 (v28t q cc gc (Ar h 7) c ((Ar h 9) g))) 2 ((Ar h 6) c)) 3 ((Ar h 6) (((Ar h 17) g).toNatClampNeg))) 4 (v270 q cc gc ((Ar h 18) g))) 5 ((Ar h 11) g)) 6 (cond (cond (v74 q cc gc (Fi h 13 5) g) true false) 1 0))) z).2) := rfl
  refine ⟨?_, ?_, ?_⟩ <;> rw [ed]
  · exact er24
  · exact hc21
  · exact (fr_g rfl rfl hf22 (fr_a rfl rfl fr_0))
def v149b_4b (q : QT) (cc gc : Nat) (h : pm_H) (z : Nat) (i : Nat) (x2 : Int32) : Int32 × pm_H := (x2 + ((v39b q cc gc h z i (((Ar h 17) i).toNatClampNeg)).1), (v39b q cc gc h z i (((Ar h 17) i).toNatClampNeg)).2)
def v149b_4 (q : QT) (cc gc : Nat) (z : Nat) (j i : Nat) (a : Int32 × pm_H) : Int32 × pm_H := lp (fun i a => v149b_4b q cc gc a.2 z i a.1) j i a
theorem v149b_4_e {n fr lo sl cc gc : Nat} {q : QT} {h : pm_H} {R : pm_Rs} {z : Nat} {i : Nat} {x2 : Int32} (hw : HC q cc gc h) (hz : z ≤ 40) (e1 : Fi h 145 1 = nI z) (hol : NA h 17 0 8 6) (hi : gc ≤ i) (hI : i < 1000000) (hh : pm_run PT n fr lo 149 (4, [some (.ref 0), some (.ref 145), some (.int x2), some (.int (nI i))], [], h, 198, sl) = some R) : ∃ m, pm_run PT m fr lo 149 (46, [some (.ref 0), some (.ref 145), some (.int x2), some (.int (nI i))], [], h, 198, sl) = some R := by
  have hcc := hw.cb
  have hgc := hw.gb
  have hzr := hw.zr
  obtain ⟨n, hh⟩ := rn_i rfl rfl rfl rfl hh
  obtain ⟨n, hh⟩ := rn_i rfl rfl rfl rfl hh
  have hh : pm_run PT n fr lo 149 (6, [some (.ref 0), some (.ref 145), some (.int x2), some (.int (nI i))], [.ref 0, .int (nI i)], h, 198, sl) = some R := hh
  obtain ⟨n, hh⟩ := rn_gr hw.wt rfl rfl (by decide) rfl (by decide) (show _ = some (2, ((5 : Nat) : Int), 1) from rfl) rfl hh
  have hh : pm_run PT n fr lo 149 (9, [some (.ref 0), some (.ref 145), some (.int x2), some (.int (nI i))], [.ref 5, .int (nI i)], h, 198, sl) = some R := hh
  obtain ⟨n, hh⟩ := rn_gi (x := nI gc) hw.wt rfl rfl (by decide) rfl (by decide) rfl hw.x1 hh
  have hh : pm_run PT n fr lo 149 (12, [some (.ref 0), some (.ref 145), some (.int x2), some (.int (nI i))], [.int (nI gc), .int (nI i)], h, 198, sl) = some R := hh
  obtain ⟨n, hh⟩ := en_cn (cc := .ge) (off := 34) (t := 46) (b := decide (gc ≤ i)) (hI_ge (by omega) (by omega)) rfl rfl hh
  have hh := en_t (show decide (gc ≤ i) = true from decide_eq_true (by omega)) hh
  have hh : pm_run PT n fr lo 149 (46, [some (.ref 0), some (.ref 145), some (.int x2), some (.int (nI i))], [], h, 198, sl) = some R := hh
  exact ⟨n, hh⟩
theorem v149b_4_s {n fr lo sl cc gc : Nat} {q : QT} {h : pm_H} {R : pm_Rs} {z : Nat} {i : Nat} {x2 : Int32} (hw : HC q cc gc h) (hz : z ≤ 40) (e1 : Fi h 145 1 = nI z) (hol : NA h 17 0 8 6) (hi : i < gc) (hI : i < 1000000) (hh : pm_run PT n fr lo 149 (4, [some (.ref 0), some (.ref 145), some (.int x2), some (.int (nI i))], [], h, 198, sl) = some R) : ∃ m, HC q cc gc ((v149b_4b q cc gc h z i x2).2) ∧ frm [12, 145, 147] [(145, 3)] h ((v149b_4b q cc gc h z i x2).2) ∧ Fi ((v149b_4b q cc gc h z i x2).2) 145 1 = nI z ∧ NA ((v149b_4b q cc gc h z i x2).2) 17 0 8 6 ∧ pm_run PT m fr lo 149 (4, [some (.ref 0), some (.ref 145), some (.int ((v149b_4b q cc gc h z i x2).1)), some (.int (nI (i + 1)))], [], (v149b_4b q cc gc h z i x2).2, 198, sl) = some R := by
  have hcc := hw.cb
  have hgc := hw.gb
  have hzr := hw.zr
  obtain ⟨n, hh⟩ := rn_i rfl rfl rfl rfl hh
  obtain ⟨n, hh⟩ := rn_i rfl rfl rfl rfl hh
  have hh : pm_run PT n fr lo 149 (6, [some (.ref 0), some (.ref 145), some (.int x2), some (.int (nI i))], [.ref 0, .int (nI i)], h, 198, sl) = some R := hh
  obtain ⟨n, hh⟩ := rn_gr hw.wt rfl rfl (by decide) rfl (by decide) (show _ = some (2, ((5 : Nat) : Int), 1) from rfl) rfl hh
  have hh : pm_run PT n fr lo 149 (9, [some (.ref 0), some (.ref 145), some (.int x2), some (.int (nI i))], [.ref 5, .int (nI i)], h, 198, sl) = some R := hh
  obtain ⟨n, hh⟩ := rn_gi (x := nI gc) hw.wt rfl rfl (by decide) rfl (by decide) rfl hw.x1 hh
  have hh : pm_run PT n fr lo 149 (12, [some (.ref 0), some (.ref 145), some (.int x2), some (.int (nI i))], [.int (nI gc), .int (nI i)], h, 198, sl) = some R := hh
  obtain ⟨n, hh⟩ := en_cn (cc := .ge) (off := 34) (t := 46) (b := decide (gc ≤ i)) (hI_ge (by omega) (by omega)) rfl rfl hh
  have hh := en_f (show decide (gc ≤ i) = false from decide_eq_false (by omega)) hh
  have hh : pm_run PT n fr lo 149 (15, [some (.ref 0), some (.ref 145), some (.int x2), some (.int (nI i))], [], h, 198, sl) = some R := hh
  obtain ⟨n, hh⟩ := rn_i rfl rfl rfl rfl hh
  obtain ⟨n, hh⟩ := rn_i rfl rfl rfl rfl hh
  have hh : pm_run PT n fr lo 149 (17, [some (.ref 0), some (.ref 145), some (.int x2), some (.int (nI i))], [.ref 0, .int x2], h, 198, sl) = some R := hh
  obtain ⟨n, hh⟩ := rn_gr hw.wt rfl rfl (by decide) rfl (by decide) (show _ = some (2, ((5 : Nat) : Int), 1) from rfl) rfl hh
  obtain ⟨n, hh⟩ := rn_i rfl rfl rfl rfl hh
  obtain ⟨n, hh⟩ := rn_i rfl rfl rfl rfl hh
  have hh : pm_run PT n fr lo 149 (22, [some (.ref 0), some (.ref 145), some (.int x2), some (.int (nI i))], [.ref 0, .ref 145, .ref 5, .int x2], h, 198, sl) = some R := hh
  obtain ⟨n, hh⟩ := rn_gr hw.wt rfl rfl (by decide) rfl (by decide) (show _ = some (2, ((13 : Nat) : Int), 1) from rfl) rfl hh
  obtain ⟨n, hh⟩ := rn_i rfl rfl rfl rfl hh
  obtain ⟨n, hh⟩ := rn_i rfl rfl rfl rfl hh
  have hh : pm_run PT n fr lo 149 (27, [some (.ref 0), some (.ref 145), some (.int x2), some (.int (nI i))], [.ref 0, .int (nI i), .ref 13, .ref 145, .ref 5, .int x2], h, 198, sl) = some R := hh
  obtain ⟨n, hh⟩ := rn_gr hw.wt rfl rfl (by decide) rfl (by decide) (show _ = some (2, ((13 : Nat) : Int), 1) from rfl) rfl hh
  have hh : pm_run PT n fr lo 149 (30, [some (.ref 0), some (.ref 145), some (.int x2), some (.int (nI i))], [.ref 13, .int (nI i), .ref 13, .ref 145, .ref 5, .int x2], h, 198, sl) = some R := hh
  obtain ⟨n, hh⟩ := rn_gr hw.wt rfl rfl (by decide) rfl (by decide) (show _ = some (2, ((17 : Nat) : Int), 1) from rfl) rfl hh
  obtain ⟨n, hh⟩ := rn_i rfl rfl rfl rfl hh
  have hh : pm_run PT n fr lo 149 (34, [some (.ref 0), some (.ref 145), some (.int x2), some (.int (nI i))], [.int (nI i), .ref 17, .int (nI i), .ref 13, .ref 145, .ref 5, .int x2], h, 198, sl) = some R := hh
  obtain ⟨n, hx1, hh⟩ := en_lu (t := i) (f := Ar h 17) (w := nI (((Ar h 17) i).toNatClampNeg)) (nI_clamp (by omega)) hw.wt rfl (by decide) rfl (by decide) rfl (fun z => (hol _ (by omega) (by omega)).1) hh
  have hb2 := (hol i (by omega) (by omega)).2
  have hh : pm_run PT n fr lo 149 (35, [some (.ref 0), some (.ref 145), some (.int x2), some (.int (nI i))], [.int (nI (((Ar h 17) i).toNatClampNeg)), .int (nI i), .ref 13, .ref 145, .ref 5, .int x2], h, 198, sl) = some R := hh
  obtain ⟨n, fr1, lo1, r1, hh1, hh⟩ := rn_call (w := 0) (t := 39) rfl rfl hh
  obtain ⟨er3, hc4, hf5⟩ := v39b_ok (z := z) (g := i) (c := (((Ar h 17) i).toNatClampNeg)) hw (by omega) (by omega) hz e1 hh1
  subst er3
  obtain ⟨n, hh⟩ := rn_i rfl rfl rfl rfl hh
  obtain ⟨n, hh⟩ := rn_i rfl rfl rfl rfl hh
  have hh : pm_run PT n fr lo 149 (40, [some (.ref 0), some (.ref 145), some (.int (x2 + ((v39b q cc gc h z i (((Ar h 17) i).toNatClampNeg)).1))), some (.int (nI i))], [], (v39b q cc gc h z i (((Ar h 17) i).toNatClampNeg)).2, 198, sl) = some R := hh
  obtain ⟨n, hh⟩ := en_inc (x := i) (c := 1) (j := 3) rfl rfl (by decide) hh
  have hh : pm_run PT n fr lo 149 (43, [some (.ref 0), some (.ref 145), some (.int (x2 + ((v39b q cc gc h z i (((Ar h 17) i).toNatClampNeg)).1))), some (.int (nI (i + 1)))], [], (v39b q cc gc h z i (((Ar h 17) i).toNatClampNeg)).2, 198, sl) = some R := hh
  obtain ⟨n, hh⟩ := rn_i rfl rfl rfl rfl hh
  have ed : v149b_4b q cc gc h z i x2 = (x2 + ((v39b q cc gc h z i (((Ar h 17) i).toNatClampNeg)).1), (v39b q cc gc h z i (((Ar h 17) i).toNatClampNeg)).2) := rfl
  rw [ed]
  exact ⟨n, hc4, (fr_g rfl rfl hf5 fr_0), ((hf5.2 145 1 (by decide +kernel) rfl).trans e1), (NA_e ((Ar_e (hf5.1 17 rfl)).trans rfl) hol), hh⟩
theorem v149b_4_ok {fr lo sl cc gc : Nat} {q : QT} {R : pm_Rs} {z : Nat} : ∀ {j i : Nat} {x2 : Int32} {h : pm_H} {n : Nat}, gc - i = j → i + j < 1000000 → HC q cc gc h → z ≤ 40 → Fi h 145 1 = nI z → NA h 17 0 8 6 → pm_run PT n fr lo 149 (4, [some (.ref 0), some (.ref 145), some (.int x2), some (.int (nI i))], [], h, 198, sl) = some R → ∃ m wc, HC q cc gc ((v149b_4 q cc gc z j i (x2, h)).2) ∧ frm [12, 145, 147] [(145, 3)] h ((v149b_4 q cc gc z j i (x2, h)).2) ∧ Fi ((v149b_4 q cc gc z j i (x2, h)).2) 145 1 = nI z ∧ NA ((v149b_4 q cc gc z j i (x2, h)).2) 17 0 8 6 ∧ pm_run PT m fr lo 149 (46, [some (.ref 0), some (.ref 145), some (.int ((v149b_4 q cc gc z j i (x2, h)).1)), wc], [], (v149b_4 q cc gc z j i (x2, h)).2, 198, sl) = some R := by
  intro j
  induction j with
  | zero =>
    intro i x2 h n e eI hw hz e1 hol hh
    obtain ⟨n, hh⟩ := v149b_4_e hw hz e1 hol (by omega) (by omega) hh
    exact ⟨n, _, hw, fr_0, e1, hol, hh⟩
  | succ j ih =>
    intro i x2 h n e eI hw hz e1 hol hh
    obtain ⟨n, hc, hf, e1', hol', hh⟩ := v149b_4_s hw hz e1 hol (by omega) (by omega) hh
    obtain ⟨n, wc, hc2, hf2, e1'', hol'', hh⟩ := ih (by omega) (by omega) hc hz e1' hol' hh
    exact ⟨n, wc, hc2, fr_t hf2 hf, e1'', hol'', hh⟩
def v149b (q : QT) (cc gc : Nat) (h : pm_H) (z : Nat) : Int32 × pm_H := ((v149b_4 q cc gc z gc 0 ((nI 0), h)).1, (v149b_4 q cc gc z gc 0 ((nI 0), h)).2)
theorem v149b_ok {n fr lo sl cc gc : Nat} {q : QT} {h : pm_H} {R : pm_Rs} {z : Nat} (hw : HC q cc gc h) (hz : z ≤ 40) (e1 : Fi h 145 1 = nI z) (hol : NA h 17 0 8 6) (hh : pm_run PT n fr lo 149 (0, pm_l0 [.ref 0, .ref 145] 4, [], h, 198, sl) = some R) : R = (some (.int ((v149b q cc gc h z).1)), (v149b q cc gc h z).2, 198, sl) ∧ HC q cc gc ((v149b q cc gc h z).2) ∧ frm [12, 145, 147] [(145, 3)] h ((v149b q cc gc h z).2) := by
  have hcc := hw.cb
  have hgc := hw.gb
  have hzr := hw.zr
  obtain ⟨n, hh⟩ := rn_i rfl rfl rfl rfl hh
  obtain ⟨n, hh⟩ := rn_i rfl rfl rfl rfl hh
  obtain ⟨n, hh⟩ := rn_i rfl rfl rfl rfl hh
  obtain ⟨n, hh⟩ := rn_i rfl rfl rfl rfl hh
  have hh : pm_run PT n fr lo 149 (4, [some (.ref 0), some (.ref 145), some (.int (nI 0)), some (.int (nI 0))], [], h, 198, sl) = some R := hh
  obtain ⟨n, u1, hc3, hf4, _, hn2, hh⟩ := v149b_4_ok  (i := 0) (x2 := (nI 0)) (j := gc) (by omega) (by omega) hw hz e1 hol hh
  have hh : pm_run PT n fr lo 149 (46, [some (.ref 0), some (.ref 145), some (.int ((v149b_4 q cc gc z gc 0 ((nI 0), h)).1)), u1], [], (v149b_4 q cc gc z gc 0 ((nI 0), h)).2, 198, sl) = some R := hh
  obtain ⟨n, hh⟩ := rn_i rfl rfl rfl rfl hh
  have hh : pm_run PT n fr lo 149 (47, [some (.ref 0), some (.ref 145), some (.int ((v149b_4 q cc gc z gc 0 ((nI 0), h)).1)), u1], [.int ((v149b_4 q cc gc z gc 0 ((nI 0), h)).1)], (v149b_4 q cc gc z gc 0 ((nI 0), h)).2, 198, sl) = some R := hh
  have er5 : R = (some (.int ((v149b_4 q cc gc z gc 0 ((nI 0), h)).1)), (v149b_4 q cc gc z gc 0 ((nI 0), h)).2, 198, sl) := (rn_ret rfl (Or.inl rfl) hh).2
  have ed : v149b q cc gc h z = ((v149b_4 q cc gc z gc 0 ((nI 0), h)).1, (v149b_4 q cc gc z gc 0 ((nI 0), h)).2) := rfl
  refine ⟨?_, ?_, ?_⟩ <;> rw [ed]
  · exact er5
  · exact hc3
  · exact (fr_g rfl rfl hf4 fr_0)
def v122b (q : QT) (cc gc : Nat) (h : pm_H) (z : Nat) (r : Int32) : Int32 × pm_H := cond (pm_cmp .lt r 0) (((v149b q cc gc (fset h 1 1 (.int (nI 0))) z).1) - ((v149 q cc gc ((v149b q cc gc (fset h 1 1 (.int (nI 0))) z).2)).1), v56 q cc gc ((v149 q cc gc ((v149b q cc gc (fset h 1 1 (.int (nI 0))) z).2)).2) (((v149b q cc gc (fset h 1 1 (.int (nI 0))) z).1).toInt64) (((v149 q cc gc ((v149b q cc gc (fset h 1 1 (.int (nI 0))) z).2)).1).toInt64)) ((Int32.ofInt (-10000)) - r, fset h 1 1 (.int (nI 0)))
theorem v122b_ok {n fr lo sl cc gc : Nat} {q : QT} {h : pm_H} {R : pm_Rs} {z : Nat} {r : Int32} (hw : HC q cc gc h) (hz : z ≤ 40) (ho : OTp 145 h) (e1 : Fi h 145 1 = nI z) (hol : NA h 17 0 8 6) (hh : pm_run PT n fr lo 122 (8, [some (.ref 0), some (.int r), none, none], [], h, 198, sl) = some R) : R = (some (.int ((v122b q cc gc h z r).1)), (v122b q cc gc h z r).2, 198, sl) ∧ HC q cc gc ((v122b q cc gc h z r).2) ∧ frm [1, 3, 4, 12, 142, 144, 145, 147] [(1, 1), (3, 1), (142, 3), (145, 3)] h ((v122b q cc gc h z r).2) := by
  have hcc := hw.cb
  have hgc := hw.gb
  have hzr := hw.zr
  obtain ⟨n, hh⟩ := rn_i rfl rfl rfl rfl hh
  have hh : pm_run PT n fr lo 122 (9, [some (.ref 0), some (.int r), none, none], [.ref 0], h, 198, sl) = some R := hh
  obtain ⟨n, hh⟩ := rn_gr hw.wt rfl rfl (by decide) rfl (by decide) (show _ = some (2, ((1 : Nat) : Int), 1) from rfl) rfl hh
  obtain ⟨n, hh⟩ := rn_i rfl rfl rfl rfl hh
  have hh : pm_run PT n fr lo 122 (13, [some (.ref 0), some (.int r), none, none], [.int (nI 0), .ref 1], h, 198, sl) = some R := hh
  obtain ⟨n, hh⟩ := rn_pi hw.wt rfl rfl (by decide) rfl (by decide) rfl hh
  obtain ⟨n, hh⟩ := rn_i rfl rfl rfl rfl hh
  have hh : pm_run PT n fr lo 122 (17, [some (.ref 0), some (.int r), none, none], [.int r], fset h 1 1 (.int (nI 0)), 198, sl) = some R := hh
  obtain ⟨n, hh⟩ := en_zn (cc := .lt) (off := 9) (t := 26) (b := pm_cmp .lt r 0) rfl rfl rfl hh
  cases z1 : pm_cmp .lt r 0 with
  | true =>
    have hh := en_t z1 hh
    have hh : pm_run PT n fr lo 122 (26, [some (.ref 0), some (.int r), none, none], [], fset h 1 1 (.int (nI 0)), 198, sl) = some R := hh
    obtain ⟨n, hh⟩ := rn_i rfl rfl rfl rfl hh
    obtain ⟨n, hh⟩ := rn_i rfl rfl rfl rfl hh
    have hh : pm_run PT n fr lo 122 (28, [some (.ref 0), some (.int r), none, none], [.ref 0, .ref 0], fset h 1 1 (.int (nI 0)), 198, sl) = some R := hh
    obtain ⟨n, hh⟩ := rn_g9 (p := 145) ho (show (fset h 1 1 (.int (nI 0))) 0 = h 0 from (show frm [1] [(1, 1)] h (fset h 1 1 (.int (nI 0))) from (fr_f rfl rfl fr_0)).1 0 rfl) rfl rfl hh
    have hh : pm_run PT n fr lo 122 (31, [some (.ref 0), some (.int r), none, none], [.ref 145, .ref 0], fset h 1 1 (.int (nI 0)), 198, sl) = some R := hh
    obtain ⟨n, fr1, lo1, r1, hh1, hh⟩ := rn_call (w := 0) (t := 149) rfl rfl hh
    obtain ⟨er2, hc3, hf4⟩ := v149b_ok (z := z) (hc_f rfl rfl (by decide) rfl hw) hz ((Fi_n (Or.inl (by decide))).trans e1) (NA_e (Ar_f.trans rfl) hol) hh1
    subst er2
    obtain ⟨n, hh⟩ := rn_i rfl rfl rfl rfl hh
    obtain ⟨n, hh⟩ := rn_i rfl rfl rfl rfl hh
    obtain ⟨n, hh⟩ := rn_i rfl rfl rfl rfl hh
    have hh : pm_run PT n fr lo 122 (37, [some (.ref 0), some (.int r), some (.int ((v149b q cc gc (fset h 1 1 (.int (nI 0))) z).1)), none], [.ref 0, .ref 0], (v149b q cc gc (fset h 1 1 (.int (nI 0))) z).2, 198, sl) = some R := hh
    obtain ⟨n, hh⟩ := en_q hc3 rfl rfl hh
    have hh : pm_run PT n fr lo 122 (40, [some (.ref 0), some (.int r), some (.int ((v149b q cc gc (fset h 1 1 (.int (nI 0))) z).1)), none], [.ref q.1, .ref 0], (v149b q cc gc (fset h 1 1 (.int (nI 0))) z).2, 198, sl) = some R := hh
    obtain ⟨n, fr1, lo1, r1, hh1, hh⟩ := rn_call (w := 0) (t := 149) rfl rfl hh
    obtain ⟨er5, hc6, hf7⟩ := v149_ok hc3 (NA_e ((Ar_e (hf4.1 17 rfl)).trans (Ar_f.trans rfl)) hol) hh1
    subst er5
    obtain ⟨n, hh⟩ := rn_i rfl rfl rfl rfl hh
    obtain ⟨n, hh⟩ := rn_i rfl rfl rfl rfl hh
    have hh : pm_run PT n fr lo 122 (45, [some (.ref 0), some (.int r), some (.int ((v149b q cc gc (fset h 1 1 (.int (nI 0))) z).1)), some (.int ((v149 q cc gc ((v149b q cc gc (fset h 1 1 (.int (nI 0))) z).2)).1))], [.ref 0], (v149 q cc gc ((v149b q cc gc (fset h 1 1 (.int (nI 0))) z).2)).2, 198, sl) = some R := hh
    obtain ⟨n, hh⟩ := rn_gr hc6.wt rfl rfl (by decide) rfl (by decide) (show _ = some (2, ((3 : Nat) : Int), 1) from rfl) rfl hh
    obtain ⟨n, hh⟩ := rn_i rfl rfl rfl rfl hh
    obtain ⟨n, hh⟩ := rn_i rfl rfl rfl rfl hh
    obtain ⟨n, hh⟩ := rn_i rfl rfl rfl rfl hh
    obtain ⟨n, hh⟩ := rn_i rfl rfl rfl rfl hh
    have hh : pm_run PT n fr lo 122 (52, [some (.ref 0), some (.int r), some (.int ((v149b q cc gc (fset h 1 1 (.int (nI 0))) z).1)), some (.int ((v149 q cc gc ((v149b q cc gc (fset h 1 1 (.int (nI 0))) z).2)).1))], [.long (((v149 q cc gc ((v149b q cc gc (fset h 1 1 (.int (nI 0))) z).2)).1).toInt64), .long (((v149b q cc gc (fset h 1 1 (.int (nI 0))) z).1).toInt64), .ref 3], (v149 q cc gc ((v149b q cc gc (fset h 1 1 (.int (nI 0))) z).2)).2, 198, sl) = some R := hh
    obtain ⟨n, fr1, lo1, r1, hh1, hh⟩ := rn_call (w := 0) (t := 56) rfl rfl hh
    obtain ⟨er8, hc9, hf10⟩ := v56_ok (v := (((v149b q cc gc (fset h 1 1 (.int (nI 0))) z).1).toInt64)) (w := (((v149 q cc gc ((v149b q cc gc (fset h 1 1 (.int (nI 0))) z).2)).1).toInt64)) hc6 hh1
    subst er8
    obtain ⟨n, hh⟩ := rn_i rfl rfl rfl rfl hh
    obtain ⟨n, hh⟩ := rn_i rfl rfl rfl rfl hh
    obtain ⟨n, hh⟩ := rn_i rfl rfl rfl rfl hh
    have hh : pm_run PT n fr lo 122 (58, [some (.ref 0), some (.int r), some (.int ((v149b q cc gc (fset h 1 1 (.int (nI 0))) z).1)), some (.int ((v149 q cc gc ((v149b q cc gc (fset h 1 1 (.int (nI 0))) z).2)).1))], [.int (((v149b q cc gc (fset h 1 1 (.int (nI 0))) z).1) - ((v149 q cc gc ((v149b q cc gc (fset h 1 1 (.int (nI 0))) z).2)).1))], v56 q cc gc ((v149 q cc gc ((v149b q cc gc (fset h 1 1 (.int (nI 0))) z).2)).2) (((v149b q cc gc (fset h 1 1 (.int (nI 0))) z).1).toInt64) (((v149 q cc gc ((v149b q cc gc (fset h 1 1 (.int (nI 0))) z).2)).1).toInt64), 198, sl) = some R := hh
    have er11 : R = (some (.int (((v149b q cc gc (fset h 1 1 (.int (nI 0))) z).1) - ((v149 q cc gc ((v149b q cc gc (fset h 1 1 (.int (nI 0))) z).2)).1))), v56 q cc gc ((v149 q cc gc ((v149b q cc gc (fset h 1 1 (.int (nI 0))) z).2)).2) (((v149b q cc gc (fset h 1 1 (.int (nI 0))) z).1).toInt64) (((v149 q cc gc ((v149b q cc gc (fset h 1 1 (.int (nI 0))) z).2)).1).toInt64), 198, sl) := (rn_ret rfl (Or.inl rfl) hh).2
    have ed : v122b q cc gc h z r = (((v149b q cc gc (fset h 1 1 (.int (nI 0))) z).1) - ((v149 q cc gc ((v149b q cc gc (fset h 1 1 (.int (nI 0))) z).2)).1), v56 q cc gc ((v149 q cc gc ((v149b q cc gc (fset h 1 1 (.int (nI 0))) z).2)).2) (((v149b q cc gc (fset h 1 1 (.int (nI 0))) z).1).toInt64) (((v149 q cc gc ((v149b q cc gc (fset h 1 1 (.int (nI 0))) z).2)).1).toInt64)) := (ct z1).trans rfl
    refine ⟨?_, ?_, ?_⟩ <;> rw [ed]
    · exact er11
    · exact hc9
    · exact (fr_g rfl rfl hf10 (fr_g rfl rfl hf7 (fr_g rfl rfl hf4 (fr_f rfl rfl fr_0))))
  | false =>
    have hh := en_f z1 hh
    have hh : pm_run PT n fr lo 122 (20, [some (.ref 0), some (.int r), none, none], [], fset h 1 1 (.int (nI 0)), 198, sl) = some R := hh
    obtain ⟨n, hh⟩ := rn_i rfl rfl rfl rfl hh
    obtain ⟨n, hh⟩ := rn_i rfl rfl rfl rfl hh
    obtain ⟨n, hh⟩ := rn_i rfl rfl rfl rfl hh
    have hh : pm_run PT n fr lo 122 (25, [some (.ref 0), some (.int r), none, none], [.int ((Int32.ofInt (-10000)) - r)], fset h 1 1 (.int (nI 0)), 198, sl) = some R := hh
    have er12 : R = (some (.int ((Int32.ofInt (-10000)) - r)), fset h 1 1 (.int (nI 0)), 198, sl) := (rn_ret rfl (Or.inl rfl) hh).2
    have ed : v122b q cc gc h z r = ((Int32.ofInt (-10000)) - r, fset h 1 1 (.int (nI 0))) := (cf z1).trans rfl
    refine ⟨?_, ?_, ?_⟩ <;> rw [ed]
    · exact er12
    · exact (hc_f rfl rfl (by decide) rfl hw)
    · exact (fr_f rfl rfl fr_0)
def v258e (q : QT) (cc gc : Nat) (h : pm_H) (r : Int32) (v : Int32) (l : Int32) (w : Int32) : Int32 × pm_H := (w - v, v167 q cc gc (v167 q cc gc (fset h 162 1 (.int (nI 0))) ((w).toInt64)) ((v).toInt64))
theorem v258e_ok {n fr lo sl cc gc : Nat} {q : QT} {h : pm_H} {R : pm_Rs} {r : Int32} {v : Int32} {l : Int32} {w : Int32} (hw : HC q cc gc h) (hh : pm_run PT n fr lo 258 (91, [some (.ref 162), some (.int r), some (.int v), some (.int l), some (.int w)], [], h, 198, sl) = some R) : R = (some (.int ((v258e q cc gc h r v l w).1)), (v258e q cc gc h r v l w).2, 198, sl) ∧ HC q cc gc ((v258e q cc gc h r v l w).2) ∧ frm [162, 163] [(162, 1)] h ((v258e q cc gc h r v l w).2) := by
  have hcc := hw.cb
  have hgc := hw.gb
  have hzr := hw.zr
  obtain ⟨n, hh⟩ := rn_i rfl rfl rfl rfl hh
  obtain ⟨n, hh⟩ := rn_i rfl rfl rfl rfl hh
  have hh : pm_run PT n fr lo 258 (93, [some (.ref 162), some (.int r), some (.int v), some (.int l), some (.int w)], [.int (nI 0), .ref 162], h, 198, sl) = some R := hh
  obtain ⟨n, hh⟩ := rn_pi hw.wt rfl rfl (by decide) rfl (by decide) rfl hh
  obtain ⟨n, hh⟩ := rn_i rfl rfl rfl rfl hh
  obtain ⟨n, hh⟩ := rn_i rfl rfl rfl rfl hh
  obtain ⟨n, hh⟩ := rn_i rfl rfl rfl rfl hh
  have hh : pm_run PT n fr lo 258 (100, [some (.ref 162), some (.int r), some (.int v), some (.int l), some (.int w)], [.long ((w).toInt64), .ref 162], fset h 162 1 (.int (nI 0)), 198, sl) = some R := hh
  obtain ⟨n, fr1, lo1, r1, hh1, hh⟩ := rn_call (w := 0) (t := 167) rfl rfl hh
  obtain ⟨er1, hc2, hf3⟩ := v167_ok (v := ((w).toInt64)) (hc_f rfl rfl (by decide) rfl hw) hh1
  subst er1
  obtain ⟨n, hh⟩ := rn_i rfl rfl rfl rfl hh
  obtain ⟨n, hh⟩ := rn_i rfl rfl rfl rfl hh
  obtain ⟨n, hh⟩ := rn_i rfl rfl rfl rfl hh
  have hh : pm_run PT n fr lo 258 (106, [some (.ref 162), some (.int r), some (.int v), some (.int l), some (.int w)], [.long ((v).toInt64), .ref 162], v167 q cc gc (fset h 162 1 (.int (nI 0))) ((w).toInt64), 198, sl) = some R := hh
  obtain ⟨n, fr1, lo1, r1, hh1, hh⟩ := rn_call (w := 0) (t := 167) rfl rfl hh
  obtain ⟨er4, hc5, hf6⟩ := v167_ok (v := ((v).toInt64)) hc2 hh1
  subst er4
  obtain ⟨n, hh⟩ := rn_i rfl rfl rfl rfl hh
  obtain ⟨n, hh⟩ := rn_i rfl rfl rfl rfl hh
  obtain ⟨n, hh⟩ := rn_i rfl rfl rfl rfl hh
  have hh : pm_run PT n fr lo 258 (113, [some (.ref 162), some (.int r), some (.int v), some (.int l), some (.int w)], [.int (w - v)], v167 q cc gc (v167 q cc gc (fset h 162 1 (.int (nI 0))) ((w).toInt64)) ((v).toInt64), 198, sl) = some R := hh
  have er7 : R = (some (.int (w - v)), v167 q cc gc (v167 q cc gc (fset h 162 1 (.int (nI 0))) ((w).toInt64)) ((v).toInt64), 198, sl) := (rn_ret rfl (Or.inl rfl) hh).2
  have ed : v258e q cc gc h r v l w = (w - v, v167 q cc gc (v167 q cc gc (fset h 162 1 (.int (nI 0))) ((w).toInt64)) ((v).toInt64)) := rfl
  refine ⟨?_, ?_, ?_⟩ <;> rw [ed]
  · exact er7
  · exact hc5
  · exact (fr_g rfl rfl hf6 (fr_g rfl rfl hf3 (fr_f rfl rfl fr_0)))
def v124w1 (q : QT) (cc gc : Nat) (r : Int32) (m : Int32) : Int32 := (Int32.ofInt (-1))
theorem v124w1_ok {n fr lo sl cc gc : Nat} {q : QT} {h : pm_H} {R : pm_Rs} {r : Int32} {m : Int32} (hw : HC q cc gc h) (hb : pm_cmp .lt m (nI 1) = true) (hh : pm_run PT n fr lo 124 (0, pm_l0 [.ref 0, .int r, .int m] 8, [], h, 198, sl) = some R) : R = (some (.int (v124w1 q cc gc r m)), h, 198, sl) := by
  have hcc := hw.cb
  have hgc := hw.gb
  have hzr := hw.zr
  obtain ⟨n, hh⟩ := rn_i rfl rfl rfl rfl hh
  obtain ⟨n, hh⟩ := rn_i rfl rfl rfl rfl hh
  have hh : pm_run PT n fr lo 124 (2, [some (.ref 0), some (.int r), some (.int m), none, none, none, none, none], [.int (nI 1), .int m], h, 198, sl) = some R := hh
  obtain ⟨n, hh⟩ := en_cn (cc := .lt) (off := 9) (t := 11) (b := pm_cmp .lt m (nI 1)) rfl rfl rfl hh
  have hh := en_t hb hh
  have hh : pm_run PT n fr lo 124 (11, [some (.ref 0), some (.int r), some (.int m), none, none, none, none, none], [], h, 198, sl) = some R := hh
  obtain ⟨n, hh⟩ := rn_i rfl rfl rfl rfl hh
  have hh : pm_run PT n fr lo 124 (12, [some (.ref 0), some (.int r), some (.int m), none, none, none, none, none], [.int (Int32.ofInt (-1))], h, 198, sl) = some R := hh
  have er1 : R = (some (.int (Int32.ofInt (-1))), h, 198, sl) := (rn_ret rfl (Or.inl rfl) hh).2
  have ed : v124w1 q cc gc r m = (Int32.ofInt (-1)) := rfl
  rw [ed]
  exact er1
theorem v124w2_ok {n fr lo sl cc gc : Nat} {q : QT} {h : pm_H} {R : pm_Rs} {r : Int32} {m : Int32} (hw : HC q cc gc h) (hb1 : pm_cmp .lt m (nI 1) = false) (hb2 : pm_cmp .le m (nI 60) = false) (hh : pm_run PT n fr lo 124 (0, pm_l0 [.ref 0, .int r, .int m] 8, [], h, 198, sl) = some R) : R = (some (.int (v124w1 q cc gc r m)), h, 198, sl) := by
  have hcc := hw.cb
  have hgc := hw.gb
  have hzr := hw.zr
  obtain ⟨n, hh⟩ := rn_i rfl rfl rfl rfl hh
  obtain ⟨n, hh⟩ := rn_i rfl rfl rfl rfl hh
  have hh : pm_run PT n fr lo 124 (2, [some (.ref 0), some (.int r), some (.int m), none, none, none, none, none], [.int (nI 1), .int m], h, 198, sl) = some R := hh
  obtain ⟨n, hh⟩ := en_cn (cc := .lt) (off := 9) (t := 11) (b := pm_cmp .lt m (nI 1)) rfl rfl rfl hh
  have hh := en_f hb1 hh
  have hh : pm_run PT n fr lo 124 (5, [some (.ref 0), some (.int r), some (.int m), none, none, none, none, none], [], h, 198, sl) = some R := hh
  obtain ⟨n, hh⟩ := rn_i rfl rfl rfl rfl hh
  obtain ⟨n, hh⟩ := rn_i rfl rfl rfl rfl hh
  have hh : pm_run PT n fr lo 124 (8, [some (.ref 0), some (.int r), some (.int m), none, none, none, none, none], [.int (nI 60), .int m], h, 198, sl) = some R := hh
  obtain ⟨n, hh⟩ := en_cn (cc := .le) (off := 5) (t := 13) (b := pm_cmp .le m (nI 60)) rfl rfl rfl hh
  have hh := en_f hb2 hh
  have hh : pm_run PT n fr lo 124 (11, [some (.ref 0), some (.int r), some (.int m), none, none, none, none, none], [], h, 198, sl) = some R := hh
  obtain ⟨n, hh⟩ := rn_i rfl rfl rfl rfl hh
  have hh : pm_run PT n fr lo 124 (12, [some (.ref 0), some (.int r), some (.int m), none, none, none, none, none], [.int (Int32.ofInt (-1))], h, 198, sl) = some R := hh
  have er1 : R = (some (.int (Int32.ofInt (-1))), h, 198, sl) := (rn_ret rfl (Or.inl rfl) hh).2
  have ed : v124w1 q cc gc r m = (Int32.ofInt (-1)) := rfl
  rw [ed]
  exact er1
def v263w (q : QT) (cc gc : Nat) (h : pm_H) (r : Int32) (m : Int32) : Int32 × pm_H := ((Int32.ofInt (-1)), fset h 162 0 (.int (nI 0)))
theorem v263w_ok {n fr lo sl cc gc : Nat} {q : QT} {h : pm_H} {R : pm_Rs} {r : Int32} {m : Int32} (hw : HC q cc gc h) (hb : in_b ((m).toInt64) (Int64.ofNat 1) (60 : Int64) = false) (hh : pm_run PT n fr lo 263 (0, pm_l0 [.ref 162, .int r, .int m] 7, [], h, 198, sl) = some R) : R = (some (.int ((v263w q cc gc h r m).1)), (v263w q cc gc h r m).2, 198, sl) ∧ HC q cc gc ((v263w q cc gc h r m).2) ∧ frm [162] [(162, 0)] h ((v263w q cc gc h r m).2) := by
  have hcc := hw.cb
  have hgc := hw.gb
  have hzr := hw.zr
  obtain ⟨n, hh⟩ := rn_i rfl rfl rfl rfl hh
  obtain ⟨n, hh⟩ := rn_i rfl rfl rfl rfl hh
  have hh : pm_run PT n fr lo 263 (2, [some (.ref 162), some (.int r), some (.int m), none, none, none, none], [.int (nI 0), .ref 162], h, 198, sl) = some R := hh
  obtain ⟨n, hh⟩ := rn_pi hw.wt rfl rfl (by decide) rfl (by decide) rfl hh
  obtain ⟨n, hh⟩ := rn_i rfl rfl rfl rfl hh
  obtain ⟨n, hh⟩ := rn_i rfl rfl rfl rfl hh
  obtain ⟨n, hh⟩ := rn_i rfl rfl rfl rfl hh
  obtain ⟨n, hh⟩ := rn_i rfl rfl rfl rfl hh
  have hh : pm_run PT n fr lo 263 (11, [some (.ref 162), some (.int r), some (.int m), none, none, none, none], [.long (60 : Int64), .long (Int64.ofNat 1), .long ((m).toInt64)], fset h 162 0 (.int (nI 0)), 198, sl) = some R := hh
  obtain ⟨n, fr1, lo1, r1, hh1, hh⟩ := rn_call (w := 2) (t := 163) rfl rfl hh
  have er1 := rn_dt (F := 10) (Lo := 1000) (hd_in (fr := 10) (lo := 1000) (h := fset h 162 0 (.int (nI 0))) (sl := sl) ((m).toInt64) (Int64.ofNat 1) (60 : Int64)) hh1
  subst er1
  have hh : pm_run PT n fr lo 263 (14, [some (.ref 162), some (.int r), some (.int m), none, none, none, none], [.int (cond (in_b ((m).toInt64) (Int64.ofNat 1) (60 : Int64)) 1 0)], fset h 162 0 (.int (nI 0)), 198, sl) = some R := hh
  obtain ⟨n, hh⟩ := en_zn (cc := .ne) (off := 5) (t := 19) (b := in_b ((m).toInt64) (Int64.ofNat 1) (60 : Int64)) eb_ne rfl rfl hh
  have hh := en_f hb hh
  have hh : pm_run PT n fr lo 263 (17, [some (.ref 162), some (.int r), some (.int m), none, none, none, none], [], fset h 162 0 (.int (nI 0)), 198, sl) = some R := hh
  obtain ⟨n, hh⟩ := rn_i rfl rfl rfl rfl hh
  have hh : pm_run PT n fr lo 263 (18, [some (.ref 162), some (.int r), some (.int m), none, none, none, none], [.int (Int32.ofInt (-1))], fset h 162 0 (.int (nI 0)), 198, sl) = some R := hh
  have er2 : R = (some (.int (Int32.ofInt (-1))), fset h 162 0 (.int (nI 0)), 198, sl) := (rn_ret rfl (Or.inl rfl) hh).2
  have ed : v263w q cc gc h r m = ((Int32.ofInt (-1)), fset h 162 0 (.int (nI 0))) := rfl
  refine ⟨?_, ?_, ?_⟩ <;> rw [ed]
  · exact er2
  · exact (hc_f rfl rfl (by decide) rfl hw)
  · exact (fr_f rfl rfl fr_0)
def v135 (q : QT) (cc gc : Nat) (x : Int32) : Int32 := cond (pm_cmp .eq x (nI 102)) (nI 3) (cond (pm_cmp .eq x (nI 109)) (nI 2) (cond (pm_cmp .eq x (nI 112)) (nI 4) (cond (pm_cmp .eq x (nI 113)) (nI 4) (cond (pm_cmp .eq x (nI 115)) (nI 3) (nI 0)))))
theorem v135_ok {n fr lo sl cc gc : Nat} {q : QT} {h : pm_H} {R : pm_Rs} {x : Int32} (hw : HC q cc gc h) (hh : pm_run PT n fr lo 135 (0, pm_l0 [.int x] 1, [], h, 198, sl) = some R) : R = (some (.int (v135 q cc gc x)), h, 198, sl) := by
  have hcc := hw.cb
  have hgc := hw.gb
  have hzr := hw.zr
  obtain ⟨n, hh⟩ := rn_i rfl rfl rfl rfl hh
  have hh : pm_run PT n fr lo 135 (1, [some (.int x)], [.int x], h, 198, sl) = some R := hh
  cases z1 : pm_cmp .eq x (nI 102) with
  | true =>
    obtain ⟨n, hh⟩ := en_tsc (c := 102) (t := 74) rfl (en_xc (c := 102) (by decide) z1) (by decide) rfl rfl hh
    have hh : pm_run PT n fr lo 135 (74, [some (.int x)], [], h, 198, sl) = some R := hh
    obtain ⟨n, hh⟩ := rn_i rfl rfl rfl rfl hh
    have hh : pm_run PT n fr lo 135 (75, [some (.int x)], [.int (nI 3)], h, 198, sl) = some R := hh
    have er2 : R = (some (.int (nI 3)), h, 198, sl) := (rn_ret rfl (Or.inl rfl) hh).2
    have ed : v135 q cc gc x = nI 3 := (ct z1).trans rfl
    rw [ed]
    exact er2
  | false =>
    cases z3 : pm_cmp .eq x (nI 109) with
    | true =>
      obtain ⟨n, hh⟩ := en_tsc (c := 109) (t := 72) rfl (en_xc (c := 109) (by decide) z3) (by decide) rfl rfl hh
      have hh : pm_run PT n fr lo 135 (72, [some (.int x)], [], h, 198, sl) = some R := hh
      obtain ⟨n, hh⟩ := rn_i rfl rfl rfl rfl hh
      have hh : pm_run PT n fr lo 135 (73, [some (.int x)], [.int (nI 2)], h, 198, sl) = some R := hh
      have er4 : R = (some (.int (nI 2)), h, 198, sl) := (rn_ret rfl (Or.inl rfl) hh).2
      have ed : v135 q cc gc x = nI 2 := (cf z1).trans ((ct z3).trans rfl)
      rw [ed]
      exact er4
    | false =>
      cases z5 : pm_cmp .eq x (nI 112) with
      | true =>
        obtain ⟨n, hh⟩ := en_tsc (c := 112) (t := 76) rfl (en_xc (c := 112) (by decide) z5) (by decide) rfl rfl hh
        have hh : pm_run PT n fr lo 135 (76, [some (.int x)], [], h, 198, sl) = some R := hh
        obtain ⟨n, hh⟩ := rn_i rfl rfl rfl rfl hh
        have hh : pm_run PT n fr lo 135 (77, [some (.int x)], [.int (nI 4)], h, 198, sl) = some R := hh
        have er6 : R = (some (.int (nI 4)), h, 198, sl) := (rn_ret rfl (Or.inl rfl) hh).2
        have ed : v135 q cc gc x = nI 4 := (cf z1).trans ((cf z3).trans ((ct z5).trans rfl))
        rw [ed]
        exact er6
      | false =>
        cases z7 : pm_cmp .eq x (nI 113) with
        | true =>
          obtain ⟨n, hh⟩ := en_tsc (c := 113) (t := 76) rfl (en_xc (c := 113) (by decide) z7) (by decide) rfl rfl hh
          have hh : pm_run PT n fr lo 135 (76, [some (.int x)], [], h, 198, sl) = some R := hh
          obtain ⟨n, hh⟩ := rn_i rfl rfl rfl rfl hh
          have hh : pm_run PT n fr lo 135 (77, [some (.int x)], [.int (nI 4)], h, 198, sl) = some R := hh
          have er8 : R = (some (.int (nI 4)), h, 198, sl) := (rn_ret rfl (Or.inl rfl) hh).2
          have ed : v135 q cc gc x = nI 4 := (cf z1).trans ((cf z3).trans ((cf z5).trans ((ct z7).trans rfl)))
          rw [ed]
          exact er8
        | false =>
          cases z9 : pm_cmp .eq x (nI 115) with
          | true =>
            obtain ⟨n, hh⟩ := en_tsc (c := 115) (t := 74) rfl (en_xc (c := 115) (by decide) z9) (by decide) rfl rfl hh
            have hh : pm_run PT n fr lo 135 (74, [some (.int x)], [], h, 198, sl) = some R := hh
            obtain ⟨n, hh⟩ := rn_i rfl rfl rfl rfl hh
            have hh : pm_run PT n fr lo 135 (75, [some (.int x)], [.int (nI 3)], h, 198, sl) = some R := hh
            have er10 : R = (some (.int (nI 3)), h, 198, sl) := (rn_ret rfl (Or.inl rfl) hh).2
            have ed : v135 q cc gc x = nI 3 := (cf z1).trans ((cf z3).trans ((cf z5).trans ((cf z7).trans ((ct z9).trans rfl))))
            rw [ed]
            exact er10
          | false =>
            obtain ⟨n, hh⟩ := en_tsd (t := 78) [102, 109, 112, 113, 115] rfl (by decide) (by decide) (en_l1 (en_xn (c := 102) (by decide) z1) (en_l1 (en_xn (c := 109) (by decide) z3) (en_l1 (en_xn (c := 112) (by decide) z5) (en_l1 (en_xn (c := 113) (by decide) z7) (en_l1 (en_xn (c := 115) (by decide) z9) en_l0))))) rfl hh
            have hh : pm_run PT n fr lo 135 (78, [some (.int x)], [], h, 198, sl) = some R := hh
            obtain ⟨n, hh⟩ := rn_i rfl rfl rfl rfl hh
            have hh : pm_run PT n fr lo 135 (79, [some (.int x)], [.int (nI 0)], h, 198, sl) = some R := hh
            have er11 : R = (some (.int (nI 0)), h, 198, sl) := (rn_ret rfl (Or.inl rfl) hh).2
            have ed : v135 q cc gc x = nI 0 := (cf z1).trans ((cf z3).trans ((cf z5).trans ((cf z7).trans ((cf z9).trans rfl))))
            rw [ed]
            exact er11
def v16 (q : QT) (cc gc : Nat) (h : pm_H) (fi : Nat) (si : Nat) : pm_H := cp73 h (27 + 6 * ((fi + si) % 16)) 13
theorem v16_ok {n fr lo sl cc gc : Nat} {q : QT} {h : pm_H} {R : pm_Rs} {fi : Nat} {si : Nat} (hw : HC q cc gc h) (hfi : fi < 16) (hsi : si ≤ 15) (e1 : Fi h 25 1 = nI fi) (e2 : Fi h 25 2 = nI si) (hh : pm_run PT n fr lo 16 (0, pm_l0 [.ref 25, .ref 13] 2, [], h, 198, sl) = some R) : R = (none, v16 q cc gc h fi si, 198, sl) ∧ HC q cc gc (v16 q cc gc h fi si) ∧ frm [27, 28, 29, 30, 31, 32, 33, 34, 35, 36, 37, 38, 39, 40, 41, 42, 43, 44, 45, 46, 47, 48, 49, 50, 51, 52, 53, 54, 55, 56, 57, 58, 59, 60, 61, 62, 63, 64, 65, 66, 67, 68, 69, 70, 71, 72, 73, 74, 75, 76, 77, 78, 79, 80, 81, 82, 83, 84, 85, 86, 87, 88, 89, 90, 91, 92, 93, 94, 95, 96, 97, 98, 99, 100, 101, 102, 103, 104, 105, 106, 107, 108, 109, 110, 111, 112, 113, 114, 115, 116, 117, 118, 119, 120, 121, 122] [(27, 5), (27, 6), (33, 5), (33, 6), (39, 5), (39, 6), (45, 5), (45, 6), (51, 5), (51, 6), (57, 5), (57, 6), (63, 5), (63, 6), (69, 5), (69, 6), (75, 5), (75, 6), (81, 5), (81, 6), (87, 5), (87, 6), (93, 5), (93, 6), (99, 5), (99, 6), (105, 5), (105, 6), (111, 5), (111, 6), (117, 5), (117, 6)] h (v16 q cc gc h fi si) := by
  have hcc := hw.cb
  have hgc := hw.gb
  have hzr := hw.zr
  obtain ⟨n, hh⟩ := rn_i rfl rfl rfl rfl hh
  have hh : pm_run PT n fr lo 16 (1, [some (.ref 25), some (.ref 13)], [.ref 25], h, 198, sl) = some R := hh
  obtain ⟨n, hh⟩ := rn_gr hw.wt rfl rfl (by decide) rfl (by decide) (show _ = some (2, ((26 : Nat) : Int), 1) from rfl) rfl hh
  obtain ⟨n, hh⟩ := rn_i rfl rfl rfl rfl hh
  obtain ⟨n, hh⟩ := rn_i rfl rfl rfl rfl hh
  have hh : pm_run PT n fr lo 16 (6, [some (.ref 25), some (.ref 13)], [.ref 25, .ref 25, .ref 26], h, 198, sl) = some R := hh
  obtain ⟨n, hh⟩ := rn_gi (x := nI si) hw.wt rfl rfl (by decide) rfl (by decide) rfl e2 hh
  have hh : pm_run PT n fr lo 16 (9, [some (.ref 25), some (.ref 13)], [.int (nI si), .ref 25, .ref 26], h, 198, sl) = some R := hh
  obtain ⟨n, fr1, lo1, r1, hh1, hh⟩ := rn_call (w := 0) (t := 21) rfl rfl hh
  have hh1 : pm_run PT n fr1 lo1 21 (0, [some (.ref 25), some (.int (nI si))], [], h, 198, sl) = some r1 := hh1
  obtain ⟨n1, hh1⟩ := rn_i rfl rfl rfl rfl hh1
  have hh1 : pm_run PT n1 fr1 lo1 21 (1, [some (.ref 25), some (.int (nI si))], [.ref 25], h, 198, sl) = some r1 := hh1
  obtain ⟨n1, hh1⟩ := rn_gi (x := nI fi) hw.wt rfl rfl (by decide) rfl (by decide) rfl e1 hh1
  obtain ⟨n1, hh1⟩ := rn_i rfl rfl rfl rfl hh1
  have hh1 : pm_run PT n1 fr1 lo1 21 (5, [some (.ref 25), some (.int (nI si))], [.int (nI si), .int (nI fi)], h, 198, sl) = some r1 := hh1
  obtain ⟨n1, hh1⟩ := en_add rfl hh1
  have hh1 : pm_run PT n1 fr1 lo1 21 (6, [some (.ref 25), some (.int (nI si))], [.int (nI (fi + si))], h, 198, sl) = some r1 := hh1
  obtain ⟨n1, hh1⟩ := rn_i rfl rfl rfl rfl hh1
  have hh1 : pm_run PT n1 fr1 lo1 21 (8, [some (.ref 25), some (.int (nI si))], [.int (nI 16), .int (nI (fi + si))], h, 198, sl) = some r1 := hh1
  obtain ⟨n1, hh1⟩ := en_r16 (x := fi + si) (by omega) rfl hh1
  have hh1 : pm_run PT n1 fr1 lo1 21 (9, [some (.ref 25), some (.int (nI si))], [.int (nI ((fi + si) % 16))], h, 198, sl) = some r1 := hh1
  have hh1 : pm_run PT n1 fr1 lo1 21 (9, [some (.ref 25), some (.int (nI si))], [.int (nI ((fi + si) % 16))], h, 198, sl) = some r1 := hh1
  have er1 : r1 = (some (.int (nI ((fi + si) % 16))), h, 198, sl) := (rn_ret rfl (Or.inl rfl) hh1).2
  subst er1
  have hh : pm_run PT n fr lo 16 (12, [some (.ref 25), some (.ref 13)], [.int (nI ((fi + si) % 16)), .ref 26], h, 198, sl) = some R := hh
  obtain ⟨n, hx2, hh⟩ := en_q26 (t := (fi + si) % 16) (by omega) hw.wt rfl hh
  have hh : pm_run PT n fr lo 16 (13, [some (.ref 25), some (.ref 13)], [.ref (27 + 6 * ((fi + si) % 16))], h, 198, sl) = some R := hh
  obtain ⟨n, hh⟩ := rn_i rfl rfl rfl rfl hh
  have hh : pm_run PT n fr lo 16 (14, [some (.ref 25), some (.ref 13)], [.ref 13, .ref (27 + 6 * ((fi + si) % 16))], h, 198, sl) = some R := hh
  obtain ⟨n, fr1, lo1, r1, hh1, hh⟩ := rn_call (w := 0) (t := 73) rfl rfl hh
  obtain ⟨er3, hc4⟩ := cp73_ok (xst_27 (by omega)) rfl (by omega) hw hh1
  subst er3
  have er5 : R = (none, cp73 h (27 + 6 * ((fi + si) % 16)) 13, 198, sl) := rn_vret rfl rfl hh
  have ed : v16 q cc gc h fi si = cp73 h (27 + 6 * ((fi + si) % 16)) 13 := rfl
  refine ⟨?_, ?_, ?_⟩ <;> rw [ed]
  · exact er5
  · exact hc4
  · exact (fr_c27 (by omega) hw.wt rfl rfl fr_0)
theorem v16_fr {cc gc : Nat} {q : QT} {h : pm_H} {fi : Nat} {si : Nat} (hw : HC q cc gc h) (hfi : fi < 16) (hsi : si ≤ 15) : HC q cc gc (v16 q cc gc h fi si) ∧ frm [27, 28, 29, 30, 31, 32, 33, 34, 35, 36, 37, 38, 39, 40, 41, 42, 43, 44, 45, 46, 47, 48, 49, 50, 51, 52, 53, 54, 55, 56, 57, 58, 59, 60, 61, 62, 63, 64, 65, 66, 67, 68, 69, 70, 71, 72, 73, 74, 75, 76, 77, 78, 79, 80, 81, 82, 83, 84, 85, 86, 87, 88, 89, 90, 91, 92, 93, 94, 95, 96, 97, 98, 99, 100, 101, 102, 103, 104, 105, 106, 107, 108, 109, 110, 111, 112, 113, 114, 115, 116, 117, 118, 119, 120, 121, 122] [(27, 5), (27, 6), (33, 5), (33, 6), (39, 5), (39, 6), (45, 5), (45, 6), (51, 5), (51, 6), (57, 5), (57, 6), (63, 5), (63, 6), (69, 5), (69, 6), (75, 5), (75, 6), (81, 5), (81, 6), (87, 5), (87, 6), (93, 5), (93, 6), (99, 5), (99, 6), (105, 5), (105, 6), (111, 5), (111, 6), (117, 5), (117, 6)] h (v16 q cc gc h fi si) := by
  unfold v16
  show HC q cc gc (cp73 h (27 + 6 * ((fi + si) % 16)) 13) ∧ frm [27, 28, 29, 30, 31, 32, 33, 34, 35, 36, 37, 38, 39, 40, 41, 42, 43, 44, 45, 46, 47, 48, 49, 50, 51, 52, 53, 54, 55, 56, 57, 58, 59, 60, 61, 62, 63, 64, 65, 66, 67, 68, 69, 70, 71, 72, 73, 74, 75, 76, 77, 78, 79, 80, 81, 82, 83, 84, 85, 86, 87, 88, 89, 90, 91, 92, 93, 94, 95, 96, 97, 98, 99, 100, 101, 102, 103, 104, 105, 106, 107, 108, 109, 110, 111, 112, 113, 114, 115, 116, 117, 118, 119, 120, 121, 122] [(27, 5), (27, 6), (33, 5), (33, 6), (39, 5), (39, 6), (45, 5), (45, 6), (51, 5), (51, 6), (57, 5), (57, 6), (63, 5), (63, 6), (69, 5), (69, 6), (75, 5), (75, 6), (81, 5), (81, 6), (87, 5), (87, 6), (93, 5), (93, 6), (99, 5), (99, 6), (105, 5), (105, 6), (111, 5), (111, 6), (117, 5), (117, 6)] h (cp73 h (27 + 6 * ((fi + si) % 16)) 13)
  exact ⟨(cp73_hc (xst_27 (by omega)) hw), (fr_c27 (by omega) hw.wt rfl rfl fr_0)⟩
def v17 (q : QT) (cc gc : Nat) (h : pm_H) (fi : Nat) (si : Nat) : pm_H := cond (decide (15 ≤ si)) (fset h 25 1 (.int (nI ((fi + 1) % 16)))) (fset h 25 2 (.int (nI (si + 1))))
theorem v17_ok {n fr lo sl cc gc : Nat} {q : QT} {h : pm_H} {R : pm_Rs} {fi : Nat} {si : Nat} (hw : HC q cc gc h) (hfi : fi < 16) (hsi : si ≤ 15) (e1 : Fi h 25 1 = nI fi) (e2 : Fi h 25 2 = nI si) (hh : pm_run PT n fr lo 17 (0, pm_l0 [.ref 25] 1, [], h, 198, sl) = some R) : R = (none, v17 q cc gc h fi si, 198, sl) ∧ HC q cc gc (v17 q cc gc h fi si) ∧ frm [25] [(25, 1), (25, 2)] h (v17 q cc gc h fi si) := by
  have hcc := hw.cb
  have hgc := hw.gb
  have hzr := hw.zr
  obtain ⟨n, hh⟩ := rn_i rfl rfl rfl rfl hh
  have hh : pm_run PT n fr lo 17 (1, [some (.ref 25)], [.ref 25], h, 198, sl) = some R := hh
  obtain ⟨n, hh⟩ := rn_gi (x := nI si) hw.wt rfl rfl (by decide) rfl (by decide) rfl e2 hh
  obtain ⟨n, hh⟩ := rn_i rfl rfl rfl rfl hh
  have hh : pm_run PT n fr lo 17 (6, [some (.ref 25)], [.int (nI 15), .int (nI si)], h, 198, sl) = some R := hh
  obtain ⟨n, hh⟩ := en_cn (cc := .ge) (off := 16) (t := 22) (b := decide (15 ≤ si)) (hI_ge (by omega) (by omega)) rfl rfl hh
  cases z1 : decide (15 ≤ si) with
  | true =>
    have hh := en_t z1 hh
    have hh : pm_run PT n fr lo 17 (22, [some (.ref 25)], [], h, 198, sl) = some R := hh
    have y2 := of_decide_eq_true z1
    obtain ⟨n, hh⟩ := rn_i rfl rfl rfl rfl hh
    obtain ⟨n, hh⟩ := rn_i rfl rfl rfl rfl hh
    obtain ⟨n, hh⟩ := rn_i rfl rfl rfl rfl hh
    have hh : pm_run PT n fr lo 17 (25, [some (.ref 25)], [.int (nI 1), .ref 25, .ref 25], h, 198, sl) = some R := hh
    obtain ⟨n, fr1, lo1, r1, hh1, hh⟩ := rn_call (w := 0) (t := 21) rfl rfl hh
    have hh1 : pm_run PT n fr1 lo1 21 (0, [some (.ref 25), some (.int (nI 1))], [], h, 198, sl) = some r1 := hh1
    obtain ⟨n1, hh1⟩ := rn_i rfl rfl rfl rfl hh1
    have hh1 : pm_run PT n1 fr1 lo1 21 (1, [some (.ref 25), some (.int (nI 1))], [.ref 25], h, 198, sl) = some r1 := hh1
    obtain ⟨n1, hh1⟩ := rn_gi (x := nI fi) hw.wt rfl rfl (by decide) rfl (by decide) rfl e1 hh1
    obtain ⟨n1, hh1⟩ := rn_i rfl rfl rfl rfl hh1
    have hh1 : pm_run PT n1 fr1 lo1 21 (5, [some (.ref 25), some (.int (nI 1))], [.int (nI 1), .int (nI fi)], h, 198, sl) = some r1 := hh1
    obtain ⟨n1, hh1⟩ := en_add rfl hh1
    have hh1 : pm_run PT n1 fr1 lo1 21 (6, [some (.ref 25), some (.int (nI 1))], [.int (nI (fi + 1))], h, 198, sl) = some r1 := hh1
    obtain ⟨n1, hh1⟩ := rn_i rfl rfl rfl rfl hh1
    have hh1 : pm_run PT n1 fr1 lo1 21 (8, [some (.ref 25), some (.int (nI 1))], [.int (nI 16), .int (nI (fi + 1))], h, 198, sl) = some r1 := hh1
    obtain ⟨n1, hh1⟩ := en_r16 (x := fi + 1) (by omega) rfl hh1
    have hh1 : pm_run PT n1 fr1 lo1 21 (9, [some (.ref 25), some (.int (nI 1))], [.int (nI ((fi + 1) % 16))], h, 198, sl) = some r1 := hh1
    have hh1 : pm_run PT n1 fr1 lo1 21 (9, [some (.ref 25), some (.int (nI 1))], [.int (nI ((fi + 1) % 16))], h, 198, sl) = some r1 := hh1
    have er3 : r1 = (some (.int (nI ((fi + 1) % 16))), h, 198, sl) := (rn_ret rfl (Or.inl rfl) hh1).2
    subst er3
    have hh : pm_run PT n fr lo 17 (28, [some (.ref 25)], [.int (nI ((fi + 1) % 16)), .ref 25], h, 198, sl) = some R := hh
    obtain ⟨n, hh⟩ := rn_pi hw.wt rfl rfl (by decide) rfl (by decide) rfl hh
    have er4 : R = (none, fset h 25 1 (.int (nI ((fi + 1) % 16))), 198, sl) := rn_vret rfl rfl hh
    have ed : v17 q cc gc h fi si = fset h 25 1 (.int (nI ((fi + 1) % 16))) := (ct z1).trans rfl
    refine ⟨?_, ?_, ?_⟩ <;> rw [ed]
    · exact er4
    · exact (hc_f rfl rfl (by decide) rfl hw)
    · exact (fr_f rfl rfl fr_0)
  | false =>
    have hh := en_f z1 hh
    have hh : pm_run PT n fr lo 17 (9, [some (.ref 25)], [], h, 198, sl) = some R := hh
    have y5 := of_decide_eq_false z1
    obtain ⟨n, hh⟩ := rn_i rfl rfl rfl rfl hh
    obtain ⟨n, hh⟩ := rn_i rfl rfl rfl rfl hh
    have hh : pm_run PT n fr lo 17 (11, [some (.ref 25)], [.ref 25, .ref 25], h, 198, sl) = some R := hh
    obtain ⟨n, hh⟩ := rn_gi (x := nI si) hw.wt rfl rfl (by decide) rfl (by decide) rfl e2 hh
    obtain ⟨n, hh⟩ := rn_i rfl rfl rfl rfl hh
    have hh : pm_run PT n fr lo 17 (15, [some (.ref 25)], [.int (nI 1), .int (nI si), .ref 25], h, 198, sl) = some R := hh
    obtain ⟨n, hh⟩ := en_add rfl hh
    have hh : pm_run PT n fr lo 17 (16, [some (.ref 25)], [.int (nI (si + 1)), .ref 25], h, 198, sl) = some R := hh
    have hh : pm_run PT n fr lo 17 (16, [some (.ref 25)], [.int (nI (si + 1)), .ref 25], h, 198, sl) = some R := hh
    obtain ⟨n, hh⟩ := rn_pi hw.wt rfl rfl (by decide) rfl (by decide) rfl hh
    obtain ⟨n, hh⟩ := rn_i rfl rfl rfl rfl hh
    have er6 : R = (none, fset h 25 2 (.int (nI (si + 1))), 198, sl) := rn_vret rfl rfl hh
    have ed : v17 q cc gc h fi si = fset h 25 2 (.int (nI (si + 1))) := (cf z1).trans rfl
    refine ⟨?_, ?_, ?_⟩ <;> rw [ed]
    · exact er6
    · exact (hc_f rfl rfl (by decide) rfl hw)
    · exact (fr_f rfl rfl fr_0)
theorem v17_fr {cc gc : Nat} {q : QT} {h : pm_H} {fi : Nat} {si : Nat} (hw : HC q cc gc h) (hfi : fi < 16) (hsi : si ≤ 15) : HC q cc gc (v17 q cc gc h fi si) ∧ frm [25] [(25, 1), (25, 2)] h (v17 q cc gc h fi si) := by
  unfold v17
  refine cd_s (P := fun (p : pm_H) => HC q cc gc (p) ∧ frm [25] [(25, 1), (25, 2)] h (p)) (b := decide (15 ≤ si)) (fun _ => ?_) (fun _ => ?_)
  · show HC q cc gc (fset h 25 1 (.int (nI ((fi + 1) % 16)))) ∧ frm [25] [(25, 1), (25, 2)] h (fset h 25 1 (.int (nI ((fi + 1) % 16))))
    exact ⟨(hc_f rfl rfl (by decide) rfl hw), (fr_f rfl rfl fr_0)⟩
  · show HC q cc gc (fset h 25 2 (.int (nI (si + 1)))) ∧ frm [25] [(25, 1), (25, 2)] h (fset h 25 2 (.int (nI (si + 1))))
    exact ⟨(hc_f rfl rfl (by decide) rfl hw), (fr_f rfl rfl fr_0)⟩
def v100e (q : QT) (cc gc : Nat) (h : pm_H) (fi : Nat) (si : Nat) (a : Int32) (k : Nat) (s : Int32) (p : Int32) (i : Int32) : Int32 × pm_H := cond (decide (k ≤ 0)) (cond (pm_cmp .eq s 0) (nI k, v56 q cc gc (fset h 1 1 (.int (nI 0))) (Int64.ofNat 0) ((v270 q cc gc (Fi h 13 5)).toInt64)) (nI k, v56 q cc gc (fset h 1 1 (.int (nI 0))) (Int64.ofNat 1) ((v270 q cc gc (Fi h 13 5)).toInt64))) (cond (pm_cmp .eq s 0) (nI k, v56 q cc gc (v17 q cc gc (fset h 1 1 (.int (nI 0))) fi si) (Int64.ofNat 0) ((v270 q cc gc (Fi h 13 5)).toInt64)) (nI k, v56 q cc gc (v17 q cc gc (fset h 1 1 (.int (nI 0))) fi si) (Int64.ofNat 1) ((v270 q cc gc (Fi h 13 5)).toInt64)))
theorem v100e_ok {n fr lo sl cc gc : Nat} {q : QT} {h : pm_H} {R : pm_Rs} {fi : Nat} {si : Nat} {a : Int32} {k : Nat} {s : Int32} {p : Int32} {i : Int32} (hw : HC q cc gc h) (h_k : k < 60) (hfi : fi < 16) (hsi : si ≤ 15) (e1 : Fi h 25 1 = nI fi) (e2 : Fi h 25 2 = nI si) (hh : pm_run PT n fr lo 100 (107, [some (.ref 0), some (.int a), some (.int (nI k)), some (.int s), some (.int p), some (.int i)], [], h, 198, sl) = some R) : R = (some (.int ((v100e q cc gc h fi si a k s p i).1)), (v100e q cc gc h fi si a k s p i).2, 198, sl) ∧ HC q cc gc ((v100e q cc gc h fi si a k s p i).2) ∧ frm [1, 3, 4, 25] [(1, 1), (3, 1), (25, 1), (25, 2)] h ((v100e q cc gc h fi si a k s p i).2) := by
  have hcc := hw.cb
  have hgc := hw.gb
  have hzr := hw.zr
  obtain ⟨n, hh⟩ := rn_i rfl rfl rfl rfl hh
  have hh : pm_run PT n fr lo 100 (108, [some (.ref 0), some (.int a), some (.int (nI k)), some (.int s), some (.int p), some (.int i)], [.ref 0], h, 198, sl) = some R := hh
  obtain ⟨n, hh⟩ := rn_gr hw.wt rfl rfl (by decide) rfl (by decide) (show _ = some (2, ((1 : Nat) : Int), 1) from rfl) rfl hh
  obtain ⟨n, hh⟩ := rn_i rfl rfl rfl rfl hh
  have hh : pm_run PT n fr lo 100 (112, [some (.ref 0), some (.int a), some (.int (nI k)), some (.int s), some (.int p), some (.int i)], [.int (nI 0), .ref 1], h, 198, sl) = some R := hh
  obtain ⟨n, hh⟩ := rn_pi hw.wt rfl rfl (by decide) rfl (by decide) rfl hh
  obtain ⟨n, hh⟩ := rn_i rfl rfl rfl rfl hh
  have hh : pm_run PT n fr lo 100 (116, [some (.ref 0), some (.int a), some (.int (nI k)), some (.int s), some (.int p), some (.int i)], [.int (nI k)], fset h 1 1 (.int (nI 0)), 198, sl) = some R := hh
  obtain ⟨n, hh⟩ := en_zn (cc := .le) (off := 10) (t := 126) (b := decide (k ≤ 0)) (hI_le (b := 0) (by omega) (by omega)) rfl rfl hh
  cases z1 : decide (k ≤ 0) with
  | true =>
    have hh := en_t z1 hh
    have hh : pm_run PT n fr lo 100 (126, [some (.ref 0), some (.int a), some (.int (nI k)), some (.int s), some (.int p), some (.int i)], [], fset h 1 1 (.int (nI 0)), 198, sl) = some R := hh
    have y2 := of_decide_eq_true z1
    obtain ⟨n, hh⟩ := rn_i rfl rfl rfl rfl hh
    have hh : pm_run PT n fr lo 100 (127, [some (.ref 0), some (.int a), some (.int (nI k)), some (.int s), some (.int p), some (.int i)], [.ref 0], fset h 1 1 (.int (nI 0)), 198, sl) = some R := hh
    obtain ⟨n, hh⟩ := rn_gr (hc_f rfl rfl (by decide) rfl hw).wt rfl rfl (by decide) rfl (by decide) (show _ = some (2, ((3 : Nat) : Int), 1) from rfl) rfl hh
    obtain ⟨n, hh⟩ := rn_i rfl rfl rfl rfl hh
    have hh : pm_run PT n fr lo 100 (131, [some (.ref 0), some (.int a), some (.int (nI k)), some (.int s), some (.int p), some (.int i)], [.int s, .ref 3], fset h 1 1 (.int (nI 0)), 198, sl) = some R := hh
    obtain ⟨n, hh⟩ := en_zn (cc := .eq) (off := 7) (t := 138) (b := pm_cmp .eq s 0) rfl rfl rfl hh
    cases z3 : pm_cmp .eq s 0 with
    | true =>
      have hh := en_t z3 hh
      have hh : pm_run PT n fr lo 100 (138, [some (.ref 0), some (.int a), some (.int (nI k)), some (.int s), some (.int p), some (.int i)], [.ref 3], fset h 1 1 (.int (nI 0)), 198, sl) = some R := hh
      obtain ⟨n, hh⟩ := rn_i rfl rfl rfl rfl hh
      obtain ⟨n, hh⟩ := rn_i rfl rfl rfl rfl hh
      have hh : pm_run PT n fr lo 100 (140, [some (.ref 0), some (.int a), some (.int (nI k)), some (.int s), some (.int p), some (.int i)], [.ref 0, .long (Int64.ofNat 0), .ref 3], fset h 1 1 (.int (nI 0)), 198, sl) = some R := hh
      obtain ⟨n, hh⟩ := rn_gr (hc_f rfl rfl (by decide) rfl hw).wt rfl rfl (by decide) rfl (by decide) (show _ = some (2, ((13 : Nat) : Int), 1) from rfl) rfl hh
      have hh : pm_run PT n fr lo 100 (143, [some (.ref 0), some (.int a), some (.int (nI k)), some (.int s), some (.int p), some (.int i)], [.ref 13, .long (Int64.ofNat 0), .ref 3], fset h 1 1 (.int (nI 0)), 198, sl) = some R := hh
      obtain ⟨n, hh⟩ := rn_gi (x := Fi h 13 5) (hc_f rfl rfl (by decide) rfl hw).wt rfl rfl (by decide) rfl (by decide) rfl ((Fi_n (Or.inl (by decide))).trans rfl) hh
      have hh : pm_run PT n fr lo 100 (146, [some (.ref 0), some (.int a), some (.int (nI k)), some (.int s), some (.int p), some (.int i)], [.int (Fi h 13 5), .long (Int64.ofNat 0), .ref 3], fset h 1 1 (.int (nI 0)), 198, sl) = some R := hh
      obtain ⟨n, fr1, lo1, r1, hh1, hh⟩ := rn_call (w := 2) (t := 270) rfl rfl hh
      have er4 := v270_ok (a := (Fi h 13 5)) (hc_f rfl rfl (by decide) rfl hw) hh1
      subst er4
      obtain ⟨n, hh⟩ := rn_i rfl rfl rfl rfl hh
      have hh : pm_run PT n fr lo 100 (150, [some (.ref 0), some (.int a), some (.int (nI k)), some (.int s), some (.int p), some (.int i)], [.long ((v270 q cc gc (Fi h 13 5)).toInt64), .long (Int64.ofNat 0), .ref 3], fset h 1 1 (.int (nI 0)), 198, sl) = some R := hh
      obtain ⟨n, fr1, lo1, r1, hh1, hh⟩ := rn_call (w := 0) (t := 56) rfl rfl hh
      obtain ⟨er5, hc6, hf7⟩ := v56_ok (v := (Int64.ofNat 0)) (w := ((v270 q cc gc (Fi h 13 5)).toInt64)) (hc_f rfl rfl (by decide) rfl hw) hh1
      subst er5
      obtain ⟨n, hh⟩ := rn_i rfl rfl rfl rfl hh
      have hh : pm_run PT n fr lo 100 (154, [some (.ref 0), some (.int a), some (.int (nI k)), some (.int s), some (.int p), some (.int i)], [.int (nI k)], v56 q cc gc (fset h 1 1 (.int (nI 0))) (Int64.ofNat 0) ((v270 q cc gc (Fi h 13 5)).toInt64), 198, sl) = some R := hh
      have er8 : R = (some (.int (nI k)), v56 q cc gc (fset h 1 1 (.int (nI 0))) (Int64.ofNat 0) ((v270 q cc gc (Fi h 13 5)).toInt64), 198, sl) := (rn_ret rfl (Or.inl rfl) hh).2
      have ed : v100e q cc gc h fi si a k s p i = (nI k, v56 q cc gc (fset h 1 1 (.int (nI 0))) (Int64.ofNat 0) ((v270 q cc gc (Fi h 13 5)).toInt64)) := (ct z1).trans ((ct z3).trans rfl)
      refine ⟨?_, ?_, ?_⟩ <;> rw [ed]
      · exact er8
      · exact hc6
      · exact (fr_g rfl rfl hf7 (fr_f rfl rfl fr_0))
    | false =>
      have hh := en_f z3 hh
      have hh : pm_run PT n fr lo 100 (134, [some (.ref 0), some (.int a), some (.int (nI k)), some (.int s), some (.int p), some (.int i)], [.ref 3], fset h 1 1 (.int (nI 0)), 198, sl) = some R := hh
      obtain ⟨n, hh⟩ := rn_i rfl rfl rfl rfl hh
      obtain ⟨n, hh⟩ := rn_i rfl rfl rfl rfl hh
      obtain ⟨n, hh⟩ := rn_i rfl rfl rfl rfl hh
      have hh : pm_run PT n fr lo 100 (140, [some (.ref 0), some (.int a), some (.int (nI k)), some (.int s), some (.int p), some (.int i)], [.ref 0, .long (Int64.ofNat 1), .ref 3], fset h 1 1 (.int (nI 0)), 198, sl) = some R := hh
      obtain ⟨n, hh⟩ := rn_gr (hc_f rfl rfl (by decide) rfl hw).wt rfl rfl (by decide) rfl (by decide) (show _ = some (2, ((13 : Nat) : Int), 1) from rfl) rfl hh
      have hh : pm_run PT n fr lo 100 (143, [some (.ref 0), some (.int a), some (.int (nI k)), some (.int s), some (.int p), some (.int i)], [.ref 13, .long (Int64.ofNat 1), .ref 3], fset h 1 1 (.int (nI 0)), 198, sl) = some R := hh
      obtain ⟨n, hh⟩ := rn_gi (x := Fi h 13 5) (hc_f rfl rfl (by decide) rfl hw).wt rfl rfl (by decide) rfl (by decide) rfl ((Fi_n (Or.inl (by decide))).trans rfl) hh
      have hh : pm_run PT n fr lo 100 (146, [some (.ref 0), some (.int a), some (.int (nI k)), some (.int s), some (.int p), some (.int i)], [.int (Fi h 13 5), .long (Int64.ofNat 1), .ref 3], fset h 1 1 (.int (nI 0)), 198, sl) = some R := hh
      obtain ⟨n, fr1, lo1, r1, hh1, hh⟩ := rn_call (w := 2) (t := 270) rfl rfl hh
      have er9 := v270_ok (a := (Fi h 13 5)) (hc_f rfl rfl (by decide) rfl hw) hh1
      subst er9
      obtain ⟨n, hh⟩ := rn_i rfl rfl rfl rfl hh
      have hh : pm_run PT n fr lo 100 (150, [some (.ref 0), some (.int a), some (.int (nI k)), some (.int s), some (.int p), some (.int i)], [.long ((v270 q cc gc (Fi h 13 5)).toInt64), .long (Int64.ofNat 1), .ref 3], fset h 1 1 (.int (nI 0)), 198, sl) = some R := hh
      obtain ⟨n, fr1, lo1, r1, hh1, hh⟩ := rn_call (w := 0) (t := 56) rfl rfl hh
      obtain ⟨er10, hc11, hf12⟩ := v56_ok (v := (Int64.ofNat 1)) (w := ((v270 q cc gc (Fi h 13 5)).toInt64)) (hc_f rfl rfl (by decide) rfl hw) hh1
      subst er10
      obtain ⟨n, hh⟩ := rn_i rfl rfl rfl rfl hh
      have hh : pm_run PT n fr lo 100 (154, [some (.ref 0), some (.int a), some (.int (nI k)), some (.int s), some (.int p), some (.int i)], [.int (nI k)], v56 q cc gc (fset h 1 1 (.int (nI 0))) (Int64.ofNat 1) ((v270 q cc gc (Fi h 13 5)).toInt64), 198, sl) = some R := hh
      have er13 : R = (some (.int (nI k)), v56 q cc gc (fset h 1 1 (.int (nI 0))) (Int64.ofNat 1) ((v270 q cc gc (Fi h 13 5)).toInt64), 198, sl) := (rn_ret rfl (Or.inl rfl) hh).2
      have ed : v100e q cc gc h fi si a k s p i = (nI k, v56 q cc gc (fset h 1 1 (.int (nI 0))) (Int64.ofNat 1) ((v270 q cc gc (Fi h 13 5)).toInt64)) := (ct z1).trans ((cf z3).trans rfl)
      refine ⟨?_, ?_, ?_⟩ <;> rw [ed]
      · exact er13
      · exact hc11
      · exact (fr_g rfl rfl hf12 (fr_f rfl rfl fr_0))
  | false =>
    have hh := en_f z1 hh
    have hh : pm_run PT n fr lo 100 (119, [some (.ref 0), some (.int a), some (.int (nI k)), some (.int s), some (.int p), some (.int i)], [], fset h 1 1 (.int (nI 0)), 198, sl) = some R := hh
    have y14 := of_decide_eq_false z1
    obtain ⟨n, hh⟩ := rn_i rfl rfl rfl rfl hh
    have hh : pm_run PT n fr lo 100 (120, [some (.ref 0), some (.int a), some (.int (nI k)), some (.int s), some (.int p), some (.int i)], [.ref 0], fset h 1 1 (.int (nI 0)), 198, sl) = some R := hh
    obtain ⟨n, hh⟩ := rn_gr (hc_f rfl rfl (by decide) rfl hw).wt rfl rfl (by decide) rfl (by decide) (show _ = some (2, ((25 : Nat) : Int), 1) from rfl) rfl hh
    have hh : pm_run PT n fr lo 100 (123, [some (.ref 0), some (.int a), some (.int (nI k)), some (.int s), some (.int p), some (.int i)], [.ref 25], fset h 1 1 (.int (nI 0)), 198, sl) = some R := hh
    obtain ⟨n, fr1, lo1, r1, hh1, hh⟩ := rn_call (w := 0) (t := 17) rfl rfl hh
    obtain ⟨er15, hc16, hf17⟩ := v17_ok (fi := fi) (si := si) (hc_f rfl rfl (by decide) rfl hw) hfi hsi ((Fi_n (Or.inl (by decide))).trans e1) ((Fi_n (Or.inl (by decide))).trans e2) hh1
    subst er15
    obtain ⟨n, hh⟩ := rn_i rfl rfl rfl rfl hh
    have hh : pm_run PT n fr lo 100 (127, [some (.ref 0), some (.int a), some (.int (nI k)), some (.int s), some (.int p), some (.int i)], [.ref 0], v17 q cc gc (fset h 1 1 (.int (nI 0))) fi si, 198, sl) = some R := hh
    obtain ⟨n, hh⟩ := rn_gr hc16.wt rfl rfl (by decide) rfl (by decide) (show _ = some (2, ((3 : Nat) : Int), 1) from rfl) rfl hh
    obtain ⟨n, hh⟩ := rn_i rfl rfl rfl rfl hh
    have hh : pm_run PT n fr lo 100 (131, [some (.ref 0), some (.int a), some (.int (nI k)), some (.int s), some (.int p), some (.int i)], [.int s, .ref 3], v17 q cc gc (fset h 1 1 (.int (nI 0))) fi si, 198, sl) = some R := hh
    obtain ⟨n, hh⟩ := en_zn (cc := .eq) (off := 7) (t := 138) (b := pm_cmp .eq s 0) rfl rfl rfl hh
    cases z18 : pm_cmp .eq s 0 with
    | true =>
      have hh := en_t z18 hh
      have hh : pm_run PT n fr lo 100 (138, [some (.ref 0), some (.int a), some (.int (nI k)), some (.int s), some (.int p), some (.int i)], [.ref 3], v17 q cc gc (fset h 1 1 (.int (nI 0))) fi si, 198, sl) = some R := hh
      obtain ⟨n, hh⟩ := rn_i rfl rfl rfl rfl hh
      obtain ⟨n, hh⟩ := rn_i rfl rfl rfl rfl hh
      have hh : pm_run PT n fr lo 100 (140, [some (.ref 0), some (.int a), some (.int (nI k)), some (.int s), some (.int p), some (.int i)], [.ref 0, .long (Int64.ofNat 0), .ref 3], v17 q cc gc (fset h 1 1 (.int (nI 0))) fi si, 198, sl) = some R := hh
      obtain ⟨n, hh⟩ := rn_gr hc16.wt rfl rfl (by decide) rfl (by decide) (show _ = some (2, ((13 : Nat) : Int), 1) from rfl) rfl hh
      have hh : pm_run PT n fr lo 100 (143, [some (.ref 0), some (.int a), some (.int (nI k)), some (.int s), some (.int p), some (.int i)], [.ref 13, .long (Int64.ofNat 0), .ref 3], v17 q cc gc (fset h 1 1 (.int (nI 0))) fi si, 198, sl) = some R := hh
      obtain ⟨n, hh⟩ := rn_gi (x := Fi h 13 5) hc16.wt rfl rfl (by decide) rfl (by decide) rfl ((hf17.2 13 5 (by decide +kernel) rfl).trans ((Fi_n (Or.inl (by decide))).trans rfl)) hh
      have hh : pm_run PT n fr lo 100 (146, [some (.ref 0), some (.int a), some (.int (nI k)), some (.int s), some (.int p), some (.int i)], [.int (Fi h 13 5), .long (Int64.ofNat 0), .ref 3], v17 q cc gc (fset h 1 1 (.int (nI 0))) fi si, 198, sl) = some R := hh
      obtain ⟨n, fr1, lo1, r1, hh1, hh⟩ := rn_call (w := 2) (t := 270) rfl rfl hh
      have er19 := v270_ok (a := (Fi h 13 5)) hc16 hh1
      subst er19
      obtain ⟨n, hh⟩ := rn_i rfl rfl rfl rfl hh
      have hh : pm_run PT n fr lo 100 (150, [some (.ref 0), some (.int a), some (.int (nI k)), some (.int s), some (.int p), some (.int i)], [.long ((v270 q cc gc (Fi h 13 5)).toInt64), .long (Int64.ofNat 0), .ref 3], v17 q cc gc (fset h 1 1 (.int (nI 0))) fi si, 198, sl) = some R := hh
      obtain ⟨n, fr1, lo1, r1, hh1, hh⟩ := rn_call (w := 0) (t := 56) rfl rfl hh
      obtain ⟨er20, hc21, hf22⟩ := v56_ok (v := (Int64.ofNat 0)) (w := ((v270 q cc gc (Fi h 13 5)).toInt64)) hc16 hh1
      subst er20
      obtain ⟨n, hh⟩ := rn_i rfl rfl rfl rfl hh
      have hh : pm_run PT n fr lo 100 (154, [some (.ref 0), some (.int a), some (.int (nI k)), some (.int s), some (.int p), some (.int i)], [.int (nI k)], v56 q cc gc (v17 q cc gc (fset h 1 1 (.int (nI 0))) fi si) (Int64.ofNat 0) ((v270 q cc gc (Fi h 13 5)).toInt64), 198, sl) = some R := hh
      have er23 : R = (some (.int (nI k)), v56 q cc gc (v17 q cc gc (fset h 1 1 (.int (nI 0))) fi si) (Int64.ofNat 0) ((v270 q cc gc (Fi h 13 5)).toInt64), 198, sl) := (rn_ret rfl (Or.inl rfl) hh).2
      have ed : v100e q cc gc h fi si a k s p i = (nI k, v56 q cc gc (v17 q cc gc (fset h 1 1 (.int (nI 0))) fi si) (Int64.ofNat 0) ((v270 q cc gc (Fi h 13 5)).toInt64)) := (cf z1).trans ((ct z18).trans rfl)
      refine ⟨?_, ?_, ?_⟩ <;> rw [ed]
      · exact er23
      · exact hc21
      · exact (fr_g rfl rfl hf22 (fr_g rfl rfl hf17 (fr_f rfl rfl fr_0)))
    | false =>
      have hh := en_f z18 hh
      have hh : pm_run PT n fr lo 100 (134, [some (.ref 0), some (.int a), some (.int (nI k)), some (.int s), some (.int p), some (.int i)], [.ref 3], v17 q cc gc (fset h 1 1 (.int (nI 0))) fi si, 198, sl) = some R := hh
      obtain ⟨n, hh⟩ := rn_i rfl rfl rfl rfl hh
      obtain ⟨n, hh⟩ := rn_i rfl rfl rfl rfl hh
      obtain ⟨n, hh⟩ := rn_i rfl rfl rfl rfl hh
      have hh : pm_run PT n fr lo 100 (140, [some (.ref 0), some (.int a), some (.int (nI k)), some (.int s), some (.int p), some (.int i)], [.ref 0, .long (Int64.ofNat 1), .ref 3], v17 q cc gc (fset h 1 1 (.int (nI 0))) fi si, 198, sl) = some R := hh
      obtain ⟨n, hh⟩ := rn_gr hc16.wt rfl rfl (by decide) rfl (by decide) (show _ = some (2, ((13 : Nat) : Int), 1) from rfl) rfl hh
      have hh : pm_run PT n fr lo 100 (143, [some (.ref 0), some (.int a), some (.int (nI k)), some (.int s), some (.int p), some (.int i)], [.ref 13, .long (Int64.ofNat 1), .ref 3], v17 q cc gc (fset h 1 1 (.int (nI 0))) fi si, 198, sl) = some R := hh
      obtain ⟨n, hh⟩ := rn_gi (x := Fi h 13 5) hc16.wt rfl rfl (by decide) rfl (by decide) rfl ((hf17.2 13 5 (by decide +kernel) rfl).trans ((Fi_n (Or.inl (by decide))).trans rfl)) hh
      have hh : pm_run PT n fr lo 100 (146, [some (.ref 0), some (.int a), some (.int (nI k)), some (.int s), some (.int p), some (.int i)], [.int (Fi h 13 5), .long (Int64.ofNat 1), .ref 3], v17 q cc gc (fset h 1 1 (.int (nI 0))) fi si, 198, sl) = some R := hh
      obtain ⟨n, fr1, lo1, r1, hh1, hh⟩ := rn_call (w := 2) (t := 270) rfl rfl hh
      have er24 := v270_ok (a := (Fi h 13 5)) hc16 hh1
      subst er24
      obtain ⟨n, hh⟩ := rn_i rfl rfl rfl rfl hh
      have hh : pm_run PT n fr lo 100 (150, [some (.ref 0), some (.int a), some (.int (nI k)), some (.int s), some (.int p), some (.int i)], [.long ((v270 q cc gc (Fi h 13 5)).toInt64), .long (Int64.ofNat 1), .ref 3], v17 q cc gc (fset h 1 1 (.int (nI 0))) fi si, 198, sl) = some R := hh
      obtain ⟨n, fr1, lo1, r1, hh1, hh⟩ := rn_call (w := 0) (t := 56) rfl rfl hh
      obtain ⟨er25, hc26, hf27⟩ := v56_ok (v := (Int64.ofNat 1)) (w := ((v270 q cc gc (Fi h 13 5)).toInt64)) hc16 hh1
      subst er25
      obtain ⟨n, hh⟩ := rn_i rfl rfl rfl rfl hh
      have hh : pm_run PT n fr lo 100 (154, [some (.ref 0), some (.int a), some (.int (nI k)), some (.int s), some (.int p), some (.int i)], [.int (nI k)], v56 q cc gc (v17 q cc gc (fset h 1 1 (.int (nI 0))) fi si) (Int64.ofNat 1) ((v270 q cc gc (Fi h 13 5)).toInt64), 198, sl) = some R := hh
      have er28 : R = (some (.int (nI k)), v56 q cc gc (v17 q cc gc (fset h 1 1 (.int (nI 0))) fi si) (Int64.ofNat 1) ((v270 q cc gc (Fi h 13 5)).toInt64), 198, sl) := (rn_ret rfl (Or.inl rfl) hh).2
      have ed : v100e q cc gc h fi si a k s p i = (nI k, v56 q cc gc (v17 q cc gc (fset h 1 1 (.int (nI 0))) fi si) (Int64.ofNat 1) ((v270 q cc gc (Fi h 13 5)).toInt64)) := (cf z1).trans ((cf z18).trans rfl)
      refine ⟨?_, ?_, ?_⟩ <;> rw [ed]
      · exact er28
      · exact hc26
      · exact (fr_g rfl rfl hf27 (fr_g rfl rfl hf17 (fr_f rfl rfl fr_0)))
def v228e (q : QT) (cc gc : Nat) (h : pm_H) (c : Nat) (u : Nat) (a : Int32) (b : Int32) (d : Int32) (k : Nat) : Int32 × pm_H := cond (decide (k ≤ 0)) (nI 0, v167 q cc gc (v167 q cc gc (fset h 162 1 (.int (nI 0))) ((cond (cond (decide (c ≤ k)) false true) 1 0 : Int32).toInt64)) ((v270 q cc gc ((Ar h 170) 94)).toInt64)) ((v212 q cc gc (v167 q cc gc (v167 q cc gc (fset h 162 1 (.int (nI 0))) ((cond (cond (decide (c ≤ k)) false true) 1 0 : Int32).toInt64)) ((v270 q cc gc ((Ar h 170) 94)).toInt64)) u (nI k)).1, (v212 q cc gc (v167 q cc gc (v167 q cc gc (fset h 162 1 (.int (nI 0))) ((cond (cond (decide (c ≤ k)) false true) 1 0 : Int32).toInt64)) ((v270 q cc gc ((Ar h 170) 94)).toInt64)) u (nI k)).2)
theorem v228e_ok {n fr lo sl cc gc : Nat} {q : QT} {h : pm_H} {R : pm_Rs} {c : Nat} {u : Nat} {a : Int32} {b : Int32} {d : Int32} {k : Nat} (hw : HC q cc gc h) (h_k : k < 60) (hc : c < 60) (hu : u ≤ 15) (e35 : Fi h 162 35 = nI c) (e1 : Fi h 162 27 = nI u) (hh : pm_run PT n fr lo 228 (88, [some (.ref 162), some (.int a), some (.int b), some (.int d), some (.int (nI k))], [], h, 198, sl) = some R) : R = (some (.int ((v228e q cc gc h c u a b d k).1)), (v228e q cc gc h c u a b d k).2, 198, sl) ∧ HC q cc gc ((v228e q cc gc h c u a b d k).2) ∧ frm [162, 163, 178] [(162, 1), (162, 27)] h ((v228e q cc gc h c u a b d k).2) := by
  have hcc := hw.cb
  have hgc := hw.gb
  have hzr := hw.zr
  obtain ⟨n, hh⟩ := rn_i rfl rfl rfl rfl hh
  obtain ⟨n, hh⟩ := rn_i rfl rfl rfl rfl hh
  have hh : pm_run PT n fr lo 228 (90, [some (.ref 162), some (.int a), some (.int b), some (.int d), some (.int (nI k))], [.int (nI 0), .ref 162], h, 198, sl) = some R := hh
  obtain ⟨n, hh⟩ := rn_pi hw.wt rfl rfl (by decide) rfl (by decide) rfl hh
  obtain ⟨n, hh⟩ := rn_i rfl rfl rfl rfl hh
  obtain ⟨n, hh⟩ := rn_i rfl rfl rfl rfl hh
  obtain ⟨n, hh⟩ := rn_i rfl rfl rfl rfl hh
  have hh : pm_run PT n fr lo 228 (97, [some (.ref 162), some (.int a), some (.int b), some (.int d), some (.int (nI k))], [.ref 162, .int (nI k), .ref 162], fset h 162 1 (.int (nI 0)), 198, sl) = some R := hh
  obtain ⟨n, hh⟩ := rn_gi (x := nI c) (hc_f rfl rfl (by decide) rfl hw).wt rfl rfl (by decide) rfl (by decide) rfl ((Fi_n (Or.inr (by decide))).trans e35) hh
  have hh : pm_run PT n fr lo 228 (100, [some (.ref 162), some (.int a), some (.int b), some (.int d), some (.int (nI k))], [.int (nI c), .int (nI k), .ref 162], fset h 162 1 (.int (nI 0)), 198, sl) = some R := hh
  obtain ⟨n, hh⟩ := en_cn (cc := .ge) (off := 7) (t := 107) (b := decide (c ≤ k)) (hI_ge (by omega) (by omega)) rfl rfl hh
  have hj2 : ∃ mJ, pm_run PT mJ fr lo 228 (cond (decide (c ≤ k)) (108, [some (.ref 162), some (.int a), some (.int b), some (.int d), some (.int (nI k))], [.int (nI 0), .ref 162], fset h 162 1 (.int (nI 0)), 198, sl) (108, [some (.ref 162), some (.int a), some (.int b), some (.int d), some (.int (nI k))], [.int (nI 1), .ref 162], fset h 162 1 (.int (nI 0)), 198, sl)) = some R := en_J (fun z1 => by
      have hh := en_t z1 hh
      have hh : pm_run PT n fr lo 228 (107, [some (.ref 162), some (.int a), some (.int b), some (.int d), some (.int (nI k))], [.ref 162], fset h 162 1 (.int (nI 0)), 198, sl) = some R := hh
      have y_z1 := of_decide_eq_true z1
      obtain ⟨n, hh⟩ := rn_i rfl rfl rfl rfl hh
      exact ⟨n, hh⟩) (fun z1 => by
      have hh := en_f z1 hh
      have hh : pm_run PT n fr lo 228 (103, [some (.ref 162), some (.int a), some (.int b), some (.int d), some (.int (nI k))], [.ref 162], fset h 162 1 (.int (nI 0)), 198, sl) = some R := hh
      have y_z1 := of_decide_eq_false z1
      obtain ⟨n, hh⟩ := rn_i rfl rfl rfl rfl hh
      obtain ⟨n, hh⟩ := rn_i rfl rfl rfl rfl hh
      exact ⟨n, hh⟩)
  obtain ⟨n, hh⟩ := hj2
  rw [show (cond (decide (c ≤ k)) (108, [some (.ref 162), some (.int a), some (.int b), some (.int d), some (.int (nI k))], [.int (nI 0), .ref 162], fset h 162 1 (.int (nI 0)), 198, sl) (108, [some (.ref 162), some (.int a), some (.int b), some (.int d), some (.int (nI k))], [.int (nI 1), .ref 162], fset h 162 1 (.int (nI 0)), 198, sl) : pm_St) = (108, [some (.ref 162), some (.int a), some (.int b), some (.int d), some (.int (nI k))], [.int (cond (cond (decide (c ≤ k)) false true) 1 0), .ref 162], fset h 162 1 (.int (nI 0)), 198, sl) from by cases (decide (c ≤ k)) <;> rfl] at hh
  have hh : pm_run PT n fr lo 228 (108, [some (.ref 162), some (.int a), some (.int b), some (.int d), some (.int (nI k))], [.int (cond (cond (decide (c ≤ k)) false true) 1 0), .ref 162], fset h 162 1 (.int (nI 0)), 198, sl) = some R := hh
  obtain ⟨n, fr1, lo1, r1, hh1, hh⟩ := rn_call (w := 2) (t := 165) rfl rfl hh
  have er3 := rn_dt (F := 10) (Lo := 1000) (hd_flag (fr := 10) (lo := 1000) (h := fset h 162 1 (.int (nI 0))) (sl := sl) (cond (decide (c ≤ k)) false true)) hh1
  subst er3
  obtain ⟨n, hh⟩ := rn_i rfl rfl rfl rfl hh
  have hh : pm_run PT n fr lo 228 (112, [some (.ref 162), some (.int a), some (.int b), some (.int d), some (.int (nI k))], [.long ((cond (cond (decide (c ≤ k)) false true) 1 0 : Int32).toInt64), .ref 162], fset h 162 1 (.int (nI 0)), 198, sl) = some R := hh
  obtain ⟨n, fr1, lo1, r1, hh1, hh⟩ := rn_call (w := 0) (t := 167) rfl rfl hh
  obtain ⟨er4, hc5, hf6⟩ := v167_ok (v := ((cond (cond (decide (c ≤ k)) false true) 1 0 : Int32).toInt64)) (hc_f rfl rfl (by decide) rfl hw) hh1
  subst er4
  obtain ⟨n, hh⟩ := rn_i rfl rfl rfl rfl hh
  obtain ⟨n, hh⟩ := rn_i rfl rfl rfl rfl hh
  have hh : pm_run PT n fr lo 228 (117, [some (.ref 162), some (.int a), some (.int b), some (.int d), some (.int (nI k))], [.ref 162, .ref 162], v167 q cc gc (fset h 162 1 (.int (nI 0))) ((cond (cond (decide (c ≤ k)) false true) 1 0 : Int32).toInt64), 198, sl) = some R := hh
  obtain ⟨n, hh⟩ := rn_gr hc5.wt rfl rfl (by decide) rfl (by decide) (show _ = some (2, ((170 : Nat) : Int), 1) from rfl) rfl hh
  obtain ⟨n, hh⟩ := rn_i rfl rfl rfl rfl hh
  have hh : pm_run PT n fr lo 228 (122, [some (.ref 162), some (.int a), some (.int b), some (.int d), some (.int (nI k))], [.int (nI 94), .ref 170, .ref 162], v167 q cc gc (fset h 162 1 (.int (nI 0))) ((cond (cond (decide (c ≤ k)) false true) 1 0 : Int32).toInt64), 198, sl) = some R := hh
  obtain ⟨n, hx7, hh⟩ := en_lu (t := 94) (f := Ar h 170) (w := (Ar h 170) 94) (nI_clamp (by omega)) hc5.wt rfl (by decide) rfl (by decide) ((Ar_e (hf6.1 170 rfl)).trans (Ar_f.trans rfl)) (fun _ => rfl) hh
  have hh : pm_run PT n fr lo 228 (123, [some (.ref 162), some (.int a), some (.int b), some (.int d), some (.int (nI k))], [.int ((Ar h 170) 94), .ref 162], v167 q cc gc (fset h 162 1 (.int (nI 0))) ((cond (cond (decide (c ≤ k)) false true) 1 0 : Int32).toInt64), 198, sl) = some R := hh
  obtain ⟨n, fr1, lo1, r1, hh1, hh⟩ := rn_call (w := 2) (t := 270) rfl rfl hh
  have er8 := v270_ok (a := ((Ar h 170) 94)) hc5 hh1
  subst er8
  obtain ⟨n, hh⟩ := rn_i rfl rfl rfl rfl hh
  have hh : pm_run PT n fr lo 228 (127, [some (.ref 162), some (.int a), some (.int b), some (.int d), some (.int (nI k))], [.long ((v270 q cc gc ((Ar h 170) 94)).toInt64), .ref 162], v167 q cc gc (fset h 162 1 (.int (nI 0))) ((cond (cond (decide (c ≤ k)) false true) 1 0 : Int32).toInt64), 198, sl) = some R := hh
  obtain ⟨n, fr1, lo1, r1, hh1, hh⟩ := rn_call (w := 0) (t := 167) rfl rfl hh
  obtain ⟨er9, hc10, hf11⟩ := v167_ok (v := ((v270 q cc gc ((Ar h 170) 94)).toInt64)) hc5 hh1
  subst er9
  obtain ⟨n, hh⟩ := rn_i rfl rfl rfl rfl hh
  have hh : pm_run PT n fr lo 228 (132, [some (.ref 162), some (.int a), some (.int b), some (.int d), some (.int (nI k))], [.int (nI k)], v167 q cc gc (v167 q cc gc (fset h 162 1 (.int (nI 0))) ((cond (cond (decide (c ≤ k)) false true) 1 0 : Int32).toInt64)) ((v270 q cc gc ((Ar h 170) 94)).toInt64), 198, sl) = some R := hh
  obtain ⟨n, hh⟩ := en_zn (cc := .le) (off := 12) (t := 144) (b := decide (k ≤ 0)) (hI_le (b := 0) (by omega) (by omega)) rfl rfl hh
  cases z12 : decide (k ≤ 0) with
  | true =>
    have hh := en_t z12 hh
    have hh : pm_run PT n fr lo 228 (144, [some (.ref 162), some (.int a), some (.int b), some (.int d), some (.int (nI k))], [], v167 q cc gc (v167 q cc gc (fset h 162 1 (.int (nI 0))) ((cond (cond (decide (c ≤ k)) false true) 1 0 : Int32).toInt64)) ((v270 q cc gc ((Ar h 170) 94)).toInt64), 198, sl) = some R := hh
    have y13 := of_decide_eq_true z12
    obtain ⟨n, hh⟩ := rn_i rfl rfl rfl rfl hh
    have hh : pm_run PT n fr lo 228 (145, [some (.ref 162), some (.int a), some (.int b), some (.int d), some (.int (nI k))], [.int (nI 0)], v167 q cc gc (v167 q cc gc (fset h 162 1 (.int (nI 0))) ((cond (cond (decide (c ≤ k)) false true) 1 0 : Int32).toInt64)) ((v270 q cc gc ((Ar h 170) 94)).toInt64), 198, sl) = some R := hh
    have er14 : R = (some (.int (nI 0)), v167 q cc gc (v167 q cc gc (fset h 162 1 (.int (nI 0))) ((cond (cond (decide (c ≤ k)) false true) 1 0 : Int32).toInt64)) ((v270 q cc gc ((Ar h 170) 94)).toInt64), 198, sl) := (rn_ret rfl (Or.inl rfl) hh).2
    have ed : v228e q cc gc h c u a b d k = (nI 0, v167 q cc gc (v167 q cc gc (fset h 162 1 (.int (nI 0))) ((cond (cond (decide (c ≤ k)) false true) 1 0 : Int32).toInt64)) ((v270 q cc gc ((Ar h 170) 94)).toInt64)) := (ct z12).trans rfl
    refine ⟨?_, ?_, ?_⟩ <;> rw [ed]
    · exact er14
    · exact hc10
    · exact (fr_g rfl rfl hf11 (fr_g rfl rfl hf6 (fr_f rfl rfl fr_0)))
  | false =>
    have hh := en_f z12 hh
    have hh : pm_run PT n fr lo 228 (135, [some (.ref 162), some (.int a), some (.int b), some (.int d), some (.int (nI k))], [], v167 q cc gc (v167 q cc gc (fset h 162 1 (.int (nI 0))) ((cond (cond (decide (c ≤ k)) false true) 1 0 : Int32).toInt64)) ((v270 q cc gc ((Ar h 170) 94)).toInt64), 198, sl) = some R := hh
    have y15 := of_decide_eq_false z12
    obtain ⟨n, hh⟩ := rn_i rfl rfl rfl rfl hh
    obtain ⟨n, hh⟩ := rn_i rfl rfl rfl rfl hh
    have hh : pm_run PT n fr lo 228 (138, [some (.ref 162), some (.int a), some (.int b), some (.int d), some (.int (nI k))], [.int (nI k), .ref 162], v167 q cc gc (v167 q cc gc (fset h 162 1 (.int (nI 0))) ((cond (cond (decide (c ≤ k)) false true) 1 0 : Int32).toInt64)) ((v270 q cc gc ((Ar h 170) 94)).toInt64), 198, sl) = some R := hh
    obtain ⟨n, fr1, lo1, r1, hh1, hh⟩ := rn_call (w := 0) (t := 212) rfl rfl hh
    obtain ⟨er16, hc17, hf18⟩ := v212_ok (u := u) (v := (nI k)) hc10 hu ((hf11.2 162 27 (by decide +kernel) rfl).trans ((hf6.2 162 27 (by decide +kernel) rfl).trans ((Fi_n (Or.inr (by decide))).trans e1))) hh1
    subst er16
    obtain ⟨n, hh⟩ := rn_i rfl rfl rfl rfl hh
    have hh : pm_run PT n fr lo 228 (145, [some (.ref 162), some (.int a), some (.int b), some (.int d), some (.int (nI k))], [.int ((v212 q cc gc (v167 q cc gc (v167 q cc gc (fset h 162 1 (.int (nI 0))) ((cond (cond (decide (c ≤ k)) false true) 1 0 : Int32).toInt64)) ((v270 q cc gc ((Ar h 170) 94)).toInt64)) u (nI k)).1)], (v212 q cc gc (v167 q cc gc (v167 q cc gc (fset h 162 1 (.int (nI 0))) ((cond (cond (decide (c ≤ k)) false true) 1 0 : Int32).toInt64)) ((v270 q cc gc ((Ar h 170) 94)).toInt64)) u (nI k)).2, 198, sl) = some R := hh
    have er19 : R = (some (.int ((v212 q cc gc (v167 q cc gc (v167 q cc gc (fset h 162 1 (.int (nI 0))) ((cond (cond (decide (c ≤ k)) false true) 1 0 : Int32).toInt64)) ((v270 q cc gc ((Ar h 170) 94)).toInt64)) u (nI k)).1)), (v212 q cc gc (v167 q cc gc (v167 q cc gc (fset h 162 1 (.int (nI 0))) ((cond (cond (decide (c ≤ k)) false true) 1 0 : Int32).toInt64)) ((v270 q cc gc ((Ar h 170) 94)).toInt64)) u (nI k)).2, 198, sl) := (rn_ret rfl (Or.inl rfl) hh).2
    have ed : v228e q cc gc h c u a b d k = ((v212 q cc gc (v167 q cc gc (v167 q cc gc (fset h 162 1 (.int (nI 0))) ((cond (cond (decide (c ≤ k)) false true) 1 0 : Int32).toInt64)) ((v270 q cc gc ((Ar h 170) 94)).toInt64)) u (nI k)).1, (v212 q cc gc (v167 q cc gc (v167 q cc gc (fset h 162 1 (.int (nI 0))) ((cond (cond (decide (c ≤ k)) false true) 1 0 : Int32).toInt64)) ((v270 q cc gc ((Ar h 170) 94)).toInt64)) u (nI k)).2) := (cf z12).trans rfl
    refine ⟨?_, ?_, ?_⟩ <;> rw [ed]
    · exact er19
    · exact hc17
    · exact (fr_g rfl rfl hf18 (fr_g rfl rfl hf11 (fr_g rfl rfl hf6 (fr_f rfl rfl fr_0))))
def v141s (q : QT) (cc gc : Nat) (h : pm_H) (p : Nat) (n0 : Nat) (a : Nat) (b : Nat) : Bool × pm_H := ((v142 q cc gc h a b).1, (v142 q cc gc h a b).2)
theorem v141s_ok {n fr lo sl cc gc : Nat} {q : QT} {h : pm_H} {R : pm_Rs} {p : Nat} {n0 : Nat} {a : Nat} {b : Nat} (hw : HC q cc gc h) (h_p : p < 100) (hn : n0 ≤ 80) (px : pX h n0 cc (Ar h 2)) (hs : sgA (Ar h 2) n0 p 60 = nI 115) (hd1 : dgA (Ar h 2) n0 (p + 1) 60 = nI a) (ha : a < 10) (hd2 : dgA (Ar h 2) n0 (p + 2) 60 = nI b) (hb : b < 10) (hol : NA h 17 0 8 6) (hh : pm_run PT n fr lo 141 (0, pm_l0 [.ref 0, .int (nI p)] 5, [], h, 198, sl) = some R) : R = (some (.int (cond (v141s q cc gc h p n0 a b).1 1 0)), (v141s q cc gc h p n0 a b).2, 198, sl) ∧ HC q cc gc ((v141s q cc gc h p n0 a b).2) ∧ frm [12, 15, 16, 17, 18, 142, 144, 145, 147] [(142, 3), (145, 3)] h ((v141s q cc gc h p n0 a b).2) := by
  have hcc := hw.cb
  have hgc := hw.gb
  have hzr := hw.zr
  obtain ⟨n, hh⟩ := rn_i rfl rfl rfl rfl hh
  have hh : pm_run PT n fr lo 141 (1, [some (.ref 0), some (.int (nI p)), none, none, none], [.ref 0], h, 198, sl) = some R := hh
  obtain ⟨n, hh⟩ := rn_gr hw.wt rfl rfl (by decide) rfl (by decide) (show _ = some (2, ((1 : Nat) : Int), 1) from rfl) rfl hh
  obtain ⟨n, hh⟩ := rn_i rfl rfl rfl rfl hh
  obtain ⟨n, hh⟩ := rn_i rfl rfl rfl rfl hh
  have hh : pm_run PT n fr lo 141 (6, [some (.ref 0), some (.int (nI p)), none, none, none], [.int (nI 1), .int (nI p), .ref 1], h, 198, sl) = some R := hh
  obtain ⟨n, hh⟩ := en_add rfl hh
  have hh : pm_run PT n fr lo 141 (7, [some (.ref 0), some (.int (nI p)), none, none, none], [.int (nI (p + 1)), .ref 1], h, 198, sl) = some R := hh
  obtain ⟨n, hh⟩ := rn_i rfl rfl rfl rfl hh
  have hh : pm_run PT n fr lo 141 (9, [some (.ref 0), some (.int (nI p)), none, none, none], [.int (nI 60), .int (nI (p + 1)), .ref 1], h, 198, sl) = some R := hh
  obtain ⟨n, fr1, lo1, r1, hh1, hh⟩ := rn_call (w := 0) (t := 81) rfl rfl hh
  have er1 := dgA_run (n0 := n0) (l := 60) (p := p + 1) hn (by decide) (by omega) px hh1
  rw [hd1] at er1
  subst er1
  obtain ⟨n, hh⟩ := rn_i rfl rfl rfl rfl hh
  obtain ⟨n, hh⟩ := rn_i rfl rfl rfl rfl hh
  have hh : pm_run PT n fr lo 141 (14, [some (.ref 0), some (.int (nI p)), some (.int (nI a)), none, none], [.ref 0], h, 198, sl) = some R := hh
  obtain ⟨n, hh⟩ := rn_gr hw.wt rfl rfl (by decide) rfl (by decide) (show _ = some (2, ((1 : Nat) : Int), 1) from rfl) rfl hh
  obtain ⟨n, hh⟩ := rn_i rfl rfl rfl rfl hh
  obtain ⟨n, hh⟩ := rn_i rfl rfl rfl rfl hh
  have hh : pm_run PT n fr lo 141 (19, [some (.ref 0), some (.int (nI p)), some (.int (nI a)), none, none], [.int (nI 2), .int (nI p), .ref 1], h, 198, sl) = some R := hh
  obtain ⟨n, hh⟩ := en_add rfl hh
  have hh : pm_run PT n fr lo 141 (20, [some (.ref 0), some (.int (nI p)), some (.int (nI a)), none, none], [.int (nI (p + 2)), .ref 1], h, 198, sl) = some R := hh
  obtain ⟨n, hh⟩ := rn_i rfl rfl rfl rfl hh
  have hh : pm_run PT n fr lo 141 (22, [some (.ref 0), some (.int (nI p)), some (.int (nI a)), none, none], [.int (nI 60), .int (nI (p + 2)), .ref 1], h, 198, sl) = some R := hh
  obtain ⟨n, fr1, lo1, r1, hh1, hh⟩ := rn_call (w := 0) (t := 81) rfl rfl hh
  have er2 := dgA_run (n0 := n0) (l := 60) (p := p + 2) hn (by decide) (by omega) px hh1
  rw [hd2] at er2
  subst er2
  obtain ⟨n, hh⟩ := rn_i rfl rfl rfl rfl hh
  obtain ⟨n, hh⟩ := rn_i rfl rfl rfl rfl hh
  have hh : pm_run PT n fr lo 141 (27, [some (.ref 0), some (.int (nI p)), some (.int (nI a)), some (.int (nI b)), none], [.ref 0], h, 198, sl) = some R := hh
  obtain ⟨n, hh⟩ := rn_gr hw.wt rfl rfl (by decide) rfl (by decide) (show _ = some (2, ((1 : Nat) : Int), 1) from rfl) rfl hh
  obtain ⟨n, hh⟩ := rn_i rfl rfl rfl rfl hh
  obtain ⟨n, hh⟩ := rn_i rfl rfl rfl rfl hh
  have hh : pm_run PT n fr lo 141 (32, [some (.ref 0), some (.int (nI p)), some (.int (nI a)), some (.int (nI b)), none], [.int (nI 3), .int (nI p), .ref 1], h, 198, sl) = some R := hh
  obtain ⟨n, hh⟩ := en_add rfl hh
  have hh : pm_run PT n fr lo 141 (33, [some (.ref 0), some (.int (nI p)), some (.int (nI a)), some (.int (nI b)), none], [.int (nI (p + 3)), .ref 1], h, 198, sl) = some R := hh
  obtain ⟨n, hh⟩ := rn_i rfl rfl rfl rfl hh
  have hh : pm_run PT n fr lo 141 (35, [some (.ref 0), some (.int (nI p)), some (.int (nI a)), some (.int (nI b)), none], [.int (nI 60), .int (nI (p + 3)), .ref 1], h, 198, sl) = some R := hh
  obtain ⟨n, fr1, lo1, r1, hh1, hh⟩ := rn_call (w := 0) (t := 81) rfl rfl hh
  have er3 := dgA_run (n0 := n0) (l := 60) (p := p + 3) hn (by decide) (by omega) px hh1
  subst er3
  obtain ⟨n, hh⟩ := rn_i rfl rfl rfl rfl hh
  obtain ⟨n, hh⟩ := rn_i rfl rfl rfl rfl hh
  have hh : pm_run PT n fr lo 141 (41, [some (.ref 0), some (.int (nI p)), some (.int (nI a)), some (.int (nI b)), some (.int (dgA (Ar h 2) n0 (p + 3) 60))], [.ref 0], h, 198, sl) = some R := hh
  obtain ⟨n, hh⟩ := rn_gr hw.wt rfl rfl (by decide) rfl (by decide) (show _ = some (2, ((1 : Nat) : Int), 1) from rfl) rfl hh
  obtain ⟨n, hh⟩ := rn_i rfl rfl rfl rfl hh
  obtain ⟨n, hh⟩ := rn_i rfl rfl rfl rfl hh
  have hh : pm_run PT n fr lo 141 (47, [some (.ref 0), some (.int (nI p)), some (.int (nI a)), some (.int (nI b)), some (.int (dgA (Ar h 2) n0 (p + 3) 60))], [.int (nI 60), .int (nI p), .ref 1], h, 198, sl) = some R := hh
  obtain ⟨n, fr1, lo1, r1, hh1, hh⟩ := rn_call (w := 0) (t := 80) rfl rfl hh
  have er4 := sgA_run (n0 := n0) (l := 60) (p := p) hn (by decide) (by omega) px hh1
  rw [hs] at er4
  subst er4
  have hh : pm_run PT n fr lo 141 (50, [some (.ref 0), some (.int (nI p)), some (.int (nI a)), some (.int (nI b)), some (.int (dgA (Ar h 2) n0 (p + 3) 60))], [.int (nI 115)], h, 198, sl) = some R := hh
  obtain ⟨n, hh⟩ := rn_i rfl rfl rfl rfl hh
  have hh : pm_run PT n fr lo 141 (120, [some (.ref 0), some (.int (nI p)), some (.int (nI a)), some (.int (nI b)), some (.int (dgA (Ar h 2) n0 (p + 3) 60))], [], h, 198, sl) = some R := hh
  obtain ⟨n, hh⟩ := rn_i rfl rfl rfl rfl hh
  obtain ⟨n, hh⟩ := rn_i rfl rfl rfl rfl hh
  obtain ⟨n, hh⟩ := rn_i rfl rfl rfl rfl hh
  have hh : pm_run PT n fr lo 141 (123, [some (.ref 0), some (.int (nI p)), some (.int (nI a)), some (.int (nI b)), some (.int (dgA (Ar h 2) n0 (p + 3) 60))], [.int (nI b), .int (nI a), .ref 0], h, 198, sl) = some R := hh
  obtain ⟨n, fr1, lo1, r1, hh1, hh⟩ := rn_call (w := 0) (t := 142) rfl rfl hh
  obtain ⟨er5, hc6, hf7⟩ := v142_ok (g := a) (c := b) hw (by omega) (by omega) hol hh1
  subst er5
  have hh : pm_run PT n fr lo 141 (126, [some (.ref 0), some (.int (nI p)), some (.int (nI a)), some (.int (nI b)), some (.int (dgA (Ar h 2) n0 (p + 3) 60))], [.int (cond ((v142 q cc gc h a b).1) 1 0)], (v142 q cc gc h a b).2, 198, sl) = some R := hh
  have er8 : R = (some (.int (cond ((v142 q cc gc h a b).1) 1 0)), (v142 q cc gc h a b).2, 198, sl) := (rn_ret rfl (Or.inr rfl) hh).2
  have ed : v141s q cc gc h p n0 a b = ((v142 q cc gc h a b).1, (v142 q cc gc h a b).2) := rfl
  refine ⟨?_, ?_, ?_⟩ <;> rw [ed]
  · exact er8
  · exact hc6
  · exact (fr_g rfl rfl hf7 fr_0)
def v141m (q : QT) (cc gc : Nat) (h : pm_H) (p : Nat) (n0 : Nat) (a : Nat) : Bool × pm_H := (true, v140 q cc gc h a)
theorem v141m_ok {n fr lo sl cc gc : Nat} {q : QT} {h : pm_H} {R : pm_Rs} {p : Nat} {n0 : Nat} {a : Nat} (hw : HC q cc gc h) (h_p : p < 100) (hn : n0 ≤ 80) (px : pX h n0 cc (Ar h 2)) (hs : sgA (Ar h 2) n0 p 60 = nI 109) (hd1 : dgA (Ar h 2) n0 (p + 1) 60 = nI a) (ha : a < 10) (hol : NA h 17 0 8 6) (hh : pm_run PT n fr lo 141 (0, pm_l0 [.ref 0, .int (nI p)] 5, [], h, 198, sl) = some R) : R = (some (.int (cond (v141m q cc gc h p n0 a).1 1 0)), (v141m q cc gc h p n0 a).2, 198, sl) ∧ HC q cc gc ((v141m q cc gc h p n0 a).2) ∧ frm [13, 14] [(13, 5), (13, 6)] h ((v141m q cc gc h p n0 a).2) := by
  have hcc := hw.cb
  have hgc := hw.gb
  have hzr := hw.zr
  obtain ⟨n, hh⟩ := rn_i rfl rfl rfl rfl hh
  have hh : pm_run PT n fr lo 141 (1, [some (.ref 0), some (.int (nI p)), none, none, none], [.ref 0], h, 198, sl) = some R := hh
  obtain ⟨n, hh⟩ := rn_gr hw.wt rfl rfl (by decide) rfl (by decide) (show _ = some (2, ((1 : Nat) : Int), 1) from rfl) rfl hh
  obtain ⟨n, hh⟩ := rn_i rfl rfl rfl rfl hh
  obtain ⟨n, hh⟩ := rn_i rfl rfl rfl rfl hh
  have hh : pm_run PT n fr lo 141 (6, [some (.ref 0), some (.int (nI p)), none, none, none], [.int (nI 1), .int (nI p), .ref 1], h, 198, sl) = some R := hh
  obtain ⟨n, hh⟩ := en_add rfl hh
  have hh : pm_run PT n fr lo 141 (7, [some (.ref 0), some (.int (nI p)), none, none, none], [.int (nI (p + 1)), .ref 1], h, 198, sl) = some R := hh
  obtain ⟨n, hh⟩ := rn_i rfl rfl rfl rfl hh
  have hh : pm_run PT n fr lo 141 (9, [some (.ref 0), some (.int (nI p)), none, none, none], [.int (nI 60), .int (nI (p + 1)), .ref 1], h, 198, sl) = some R := hh
  obtain ⟨n, fr1, lo1, r1, hh1, hh⟩ := rn_call (w := 0) (t := 81) rfl rfl hh
  have er1 := dgA_run (n0 := n0) (l := 60) (p := p + 1) hn (by decide) (by omega) px hh1
  rw [hd1] at er1
  subst er1
  obtain ⟨n, hh⟩ := rn_i rfl rfl rfl rfl hh
  obtain ⟨n, hh⟩ := rn_i rfl rfl rfl rfl hh
  have hh : pm_run PT n fr lo 141 (14, [some (.ref 0), some (.int (nI p)), some (.int (nI a)), none, none], [.ref 0], h, 198, sl) = some R := hh
  obtain ⟨n, hh⟩ := rn_gr hw.wt rfl rfl (by decide) rfl (by decide) (show _ = some (2, ((1 : Nat) : Int), 1) from rfl) rfl hh
  obtain ⟨n, hh⟩ := rn_i rfl rfl rfl rfl hh
  obtain ⟨n, hh⟩ := rn_i rfl rfl rfl rfl hh
  have hh : pm_run PT n fr lo 141 (19, [some (.ref 0), some (.int (nI p)), some (.int (nI a)), none, none], [.int (nI 2), .int (nI p), .ref 1], h, 198, sl) = some R := hh
  obtain ⟨n, hh⟩ := en_add rfl hh
  have hh : pm_run PT n fr lo 141 (20, [some (.ref 0), some (.int (nI p)), some (.int (nI a)), none, none], [.int (nI (p + 2)), .ref 1], h, 198, sl) = some R := hh
  obtain ⟨n, hh⟩ := rn_i rfl rfl rfl rfl hh
  have hh : pm_run PT n fr lo 141 (22, [some (.ref 0), some (.int (nI p)), some (.int (nI a)), none, none], [.int (nI 60), .int (nI (p + 2)), .ref 1], h, 198, sl) = some R := hh
  obtain ⟨n, fr1, lo1, r1, hh1, hh⟩ := rn_call (w := 0) (t := 81) rfl rfl hh
  have er2 := dgA_run (n0 := n0) (l := 60) (p := p + 2) hn (by decide) (by omega) px hh1
  subst er2
  obtain ⟨n, hh⟩ := rn_i rfl rfl rfl rfl hh
  obtain ⟨n, hh⟩ := rn_i rfl rfl rfl rfl hh
  have hh : pm_run PT n fr lo 141 (27, [some (.ref 0), some (.int (nI p)), some (.int (nI a)), some (.int (dgA (Ar h 2) n0 (p + 2) 60)), none], [.ref 0], h, 198, sl) = some R := hh
  obtain ⟨n, hh⟩ := rn_gr hw.wt rfl rfl (by decide) rfl (by decide) (show _ = some (2, ((1 : Nat) : Int), 1) from rfl) rfl hh
  obtain ⟨n, hh⟩ := rn_i rfl rfl rfl rfl hh
  obtain ⟨n, hh⟩ := rn_i rfl rfl rfl rfl hh
  have hh : pm_run PT n fr lo 141 (32, [some (.ref 0), some (.int (nI p)), some (.int (nI a)), some (.int (dgA (Ar h 2) n0 (p + 2) 60)), none], [.int (nI 3), .int (nI p), .ref 1], h, 198, sl) = some R := hh
  obtain ⟨n, hh⟩ := en_add rfl hh
  have hh : pm_run PT n fr lo 141 (33, [some (.ref 0), some (.int (nI p)), some (.int (nI a)), some (.int (dgA (Ar h 2) n0 (p + 2) 60)), none], [.int (nI (p + 3)), .ref 1], h, 198, sl) = some R := hh
  obtain ⟨n, hh⟩ := rn_i rfl rfl rfl rfl hh
  have hh : pm_run PT n fr lo 141 (35, [some (.ref 0), some (.int (nI p)), some (.int (nI a)), some (.int (dgA (Ar h 2) n0 (p + 2) 60)), none], [.int (nI 60), .int (nI (p + 3)), .ref 1], h, 198, sl) = some R := hh
  obtain ⟨n, fr1, lo1, r1, hh1, hh⟩ := rn_call (w := 0) (t := 81) rfl rfl hh
  have er3 := dgA_run (n0 := n0) (l := 60) (p := p + 3) hn (by decide) (by omega) px hh1
  subst er3
  obtain ⟨n, hh⟩ := rn_i rfl rfl rfl rfl hh
  obtain ⟨n, hh⟩ := rn_i rfl rfl rfl rfl hh
  have hh : pm_run PT n fr lo 141 (41, [some (.ref 0), some (.int (nI p)), some (.int (nI a)), some (.int (dgA (Ar h 2) n0 (p + 2) 60)), some (.int (dgA (Ar h 2) n0 (p + 3) 60))], [.ref 0], h, 198, sl) = some R := hh
  obtain ⟨n, hh⟩ := rn_gr hw.wt rfl rfl (by decide) rfl (by decide) (show _ = some (2, ((1 : Nat) : Int), 1) from rfl) rfl hh
  obtain ⟨n, hh⟩ := rn_i rfl rfl rfl rfl hh
  obtain ⟨n, hh⟩ := rn_i rfl rfl rfl rfl hh
  have hh : pm_run PT n fr lo 141 (47, [some (.ref 0), some (.int (nI p)), some (.int (nI a)), some (.int (dgA (Ar h 2) n0 (p + 2) 60)), some (.int (dgA (Ar h 2) n0 (p + 3) 60))], [.int (nI 60), .int (nI p), .ref 1], h, 198, sl) = some R := hh
  obtain ⟨n, fr1, lo1, r1, hh1, hh⟩ := rn_call (w := 0) (t := 80) rfl rfl hh
  have er4 := sgA_run (n0 := n0) (l := 60) (p := p) hn (by decide) (by omega) px hh1
  rw [hs] at er4
  subst er4
  have hh : pm_run PT n fr lo 141 (50, [some (.ref 0), some (.int (nI p)), some (.int (nI a)), some (.int (dgA (Ar h 2) n0 (p + 2) 60)), some (.int (dgA (Ar h 2) n0 (p + 3) 60))], [.int (nI 109)], h, 198, sl) = some R := hh
  obtain ⟨n, hh⟩ := rn_i rfl rfl rfl rfl hh
  have hh : pm_run PT n fr lo 141 (127, [some (.ref 0), some (.int (nI p)), some (.int (nI a)), some (.int (dgA (Ar h 2) n0 (p + 2) 60)), some (.int (dgA (Ar h 2) n0 (p + 3) 60))], [], h, 198, sl) = some R := hh
  obtain ⟨n, hh⟩ := rn_i rfl rfl rfl rfl hh
  obtain ⟨n, hh⟩ := rn_i rfl rfl rfl rfl hh
  have hh : pm_run PT n fr lo 141 (129, [some (.ref 0), some (.int (nI p)), some (.int (nI a)), some (.int (dgA (Ar h 2) n0 (p + 2) 60)), some (.int (dgA (Ar h 2) n0 (p + 3) 60))], [.int (nI a), .ref 0], h, 198, sl) = some R := hh
  obtain ⟨n, fr1, lo1, r1, hh1, hh⟩ := rn_call (w := 0) (t := 140) rfl rfl hh
  obtain ⟨er5, hc6, hf7⟩ := v140_ok (m := a) hw (by omega) hh1
  subst er5
  obtain ⟨n, hh⟩ := rn_i rfl rfl rfl rfl hh
  have hh : pm_run PT n fr lo 141 (133, [some (.ref 0), some (.int (nI p)), some (.int (nI a)), some (.int (dgA (Ar h 2) n0 (p + 2) 60)), some (.int (dgA (Ar h 2) n0 (p + 3) 60))], [.int (nI 1)], v140 q cc gc h a, 198, sl) = some R := hh
  have er8 : R = (some (.int (nI 1)), v140 q cc gc h a, 198, sl) := (rn_ret rfl (Or.inr rfl) hh).2
  have ed : v141m q cc gc h p n0 a = (true, v140 q cc gc h a) := rfl
  refine ⟨?_, ?_, ?_⟩ <;> rw [ed]
  · exact er8
  · exact hc6
  · exact (fr_g rfl rfl hf7 fr_0)
def v141f (q : QT) (cc gc : Nat) (h : pm_H) (p : Nat) (n0 : Nat) (a : Nat) (b : Nat) : Bool × pm_H := ((v143 q cc gc h a b).1, (v143 q cc gc h a b).2)
theorem v141f_ok {n fr lo sl cc gc : Nat} {q : QT} {h : pm_H} {R : pm_Rs} {p : Nat} {n0 : Nat} {a : Nat} {b : Nat} (hw : HC q cc gc h) (h_p : p < 100) (hn : n0 ≤ 80) (px : pX h n0 cc (Ar h 2)) (hs : sgA (Ar h 2) n0 p 60 = nI 102) (hd1 : dgA (Ar h 2) n0 (p + 1) 60 = nI a) (ha : a < 10) (hd2 : dgA (Ar h 2) n0 (p + 2) 60 = nI b) (hb : b < 10) (hol : NA h 17 0 8 6) (hh : pm_run PT n fr lo 141 (0, pm_l0 [.ref 0, .int (nI p)] 5, [], h, 198, sl) = some R) : R = (some (.int (cond (v141f q cc gc h p n0 a b).1 1 0)), (v141f q cc gc h p n0 a b).2, 198, sl) ∧ HC q cc gc ((v141f q cc gc h p n0 a b).2) ∧ frm [16] [] h ((v141f q cc gc h p n0 a b).2) := by
  have hcc := hw.cb
  have hgc := hw.gb
  have hzr := hw.zr
  obtain ⟨n, hh⟩ := rn_i rfl rfl rfl rfl hh
  have hh : pm_run PT n fr lo 141 (1, [some (.ref 0), some (.int (nI p)), none, none, none], [.ref 0], h, 198, sl) = some R := hh
  obtain ⟨n, hh⟩ := rn_gr hw.wt rfl rfl (by decide) rfl (by decide) (show _ = some (2, ((1 : Nat) : Int), 1) from rfl) rfl hh
  obtain ⟨n, hh⟩ := rn_i rfl rfl rfl rfl hh
  obtain ⟨n, hh⟩ := rn_i rfl rfl rfl rfl hh
  have hh : pm_run PT n fr lo 141 (6, [some (.ref 0), some (.int (nI p)), none, none, none], [.int (nI 1), .int (nI p), .ref 1], h, 198, sl) = some R := hh
  obtain ⟨n, hh⟩ := en_add rfl hh
  have hh : pm_run PT n fr lo 141 (7, [some (.ref 0), some (.int (nI p)), none, none, none], [.int (nI (p + 1)), .ref 1], h, 198, sl) = some R := hh
  obtain ⟨n, hh⟩ := rn_i rfl rfl rfl rfl hh
  have hh : pm_run PT n fr lo 141 (9, [some (.ref 0), some (.int (nI p)), none, none, none], [.int (nI 60), .int (nI (p + 1)), .ref 1], h, 198, sl) = some R := hh
  obtain ⟨n, fr1, lo1, r1, hh1, hh⟩ := rn_call (w := 0) (t := 81) rfl rfl hh
  have er1 := dgA_run (n0 := n0) (l := 60) (p := p + 1) hn (by decide) (by omega) px hh1
  rw [hd1] at er1
  subst er1
  obtain ⟨n, hh⟩ := rn_i rfl rfl rfl rfl hh
  obtain ⟨n, hh⟩ := rn_i rfl rfl rfl rfl hh
  have hh : pm_run PT n fr lo 141 (14, [some (.ref 0), some (.int (nI p)), some (.int (nI a)), none, none], [.ref 0], h, 198, sl) = some R := hh
  obtain ⟨n, hh⟩ := rn_gr hw.wt rfl rfl (by decide) rfl (by decide) (show _ = some (2, ((1 : Nat) : Int), 1) from rfl) rfl hh
  obtain ⟨n, hh⟩ := rn_i rfl rfl rfl rfl hh
  obtain ⟨n, hh⟩ := rn_i rfl rfl rfl rfl hh
  have hh : pm_run PT n fr lo 141 (19, [some (.ref 0), some (.int (nI p)), some (.int (nI a)), none, none], [.int (nI 2), .int (nI p), .ref 1], h, 198, sl) = some R := hh
  obtain ⟨n, hh⟩ := en_add rfl hh
  have hh : pm_run PT n fr lo 141 (20, [some (.ref 0), some (.int (nI p)), some (.int (nI a)), none, none], [.int (nI (p + 2)), .ref 1], h, 198, sl) = some R := hh
  obtain ⟨n, hh⟩ := rn_i rfl rfl rfl rfl hh
  have hh : pm_run PT n fr lo 141 (22, [some (.ref 0), some (.int (nI p)), some (.int (nI a)), none, none], [.int (nI 60), .int (nI (p + 2)), .ref 1], h, 198, sl) = some R := hh
  obtain ⟨n, fr1, lo1, r1, hh1, hh⟩ := rn_call (w := 0) (t := 81) rfl rfl hh
  have er2 := dgA_run (n0 := n0) (l := 60) (p := p + 2) hn (by decide) (by omega) px hh1
  rw [hd2] at er2
  subst er2
  obtain ⟨n, hh⟩ := rn_i rfl rfl rfl rfl hh
  obtain ⟨n, hh⟩ := rn_i rfl rfl rfl rfl hh
  have hh : pm_run PT n fr lo 141 (27, [some (.ref 0), some (.int (nI p)), some (.int (nI a)), some (.int (nI b)), none], [.ref 0], h, 198, sl) = some R := hh
  obtain ⟨n, hh⟩ := rn_gr hw.wt rfl rfl (by decide) rfl (by decide) (show _ = some (2, ((1 : Nat) : Int), 1) from rfl) rfl hh
  obtain ⟨n, hh⟩ := rn_i rfl rfl rfl rfl hh
  obtain ⟨n, hh⟩ := rn_i rfl rfl rfl rfl hh
  have hh : pm_run PT n fr lo 141 (32, [some (.ref 0), some (.int (nI p)), some (.int (nI a)), some (.int (nI b)), none], [.int (nI 3), .int (nI p), .ref 1], h, 198, sl) = some R := hh
  obtain ⟨n, hh⟩ := en_add rfl hh
  have hh : pm_run PT n fr lo 141 (33, [some (.ref 0), some (.int (nI p)), some (.int (nI a)), some (.int (nI b)), none], [.int (nI (p + 3)), .ref 1], h, 198, sl) = some R := hh
  obtain ⟨n, hh⟩ := rn_i rfl rfl rfl rfl hh
  have hh : pm_run PT n fr lo 141 (35, [some (.ref 0), some (.int (nI p)), some (.int (nI a)), some (.int (nI b)), none], [.int (nI 60), .int (nI (p + 3)), .ref 1], h, 198, sl) = some R := hh
  obtain ⟨n, fr1, lo1, r1, hh1, hh⟩ := rn_call (w := 0) (t := 81) rfl rfl hh
  have er3 := dgA_run (n0 := n0) (l := 60) (p := p + 3) hn (by decide) (by omega) px hh1
  subst er3
  obtain ⟨n, hh⟩ := rn_i rfl rfl rfl rfl hh
  obtain ⟨n, hh⟩ := rn_i rfl rfl rfl rfl hh
  have hh : pm_run PT n fr lo 141 (41, [some (.ref 0), some (.int (nI p)), some (.int (nI a)), some (.int (nI b)), some (.int (dgA (Ar h 2) n0 (p + 3) 60))], [.ref 0], h, 198, sl) = some R := hh
  obtain ⟨n, hh⟩ := rn_gr hw.wt rfl rfl (by decide) rfl (by decide) (show _ = some (2, ((1 : Nat) : Int), 1) from rfl) rfl hh
  obtain ⟨n, hh⟩ := rn_i rfl rfl rfl rfl hh
  obtain ⟨n, hh⟩ := rn_i rfl rfl rfl rfl hh
  have hh : pm_run PT n fr lo 141 (47, [some (.ref 0), some (.int (nI p)), some (.int (nI a)), some (.int (nI b)), some (.int (dgA (Ar h 2) n0 (p + 3) 60))], [.int (nI 60), .int (nI p), .ref 1], h, 198, sl) = some R := hh
  obtain ⟨n, fr1, lo1, r1, hh1, hh⟩ := rn_call (w := 0) (t := 80) rfl rfl hh
  have er4 := sgA_run (n0 := n0) (l := 60) (p := p) hn (by decide) (by omega) px hh1
  rw [hs] at er4
  subst er4
  have hh : pm_run PT n fr lo 141 (50, [some (.ref 0), some (.int (nI p)), some (.int (nI a)), some (.int (nI b)), some (.int (dgA (Ar h 2) n0 (p + 3) 60))], [.int (nI 102)], h, 198, sl) = some R := hh
  obtain ⟨n, hh⟩ := rn_i rfl rfl rfl rfl hh
  have hh : pm_run PT n fr lo 141 (134, [some (.ref 0), some (.int (nI p)), some (.int (nI a)), some (.int (nI b)), some (.int (dgA (Ar h 2) n0 (p + 3) 60))], [], h, 198, sl) = some R := hh
  obtain ⟨n, hh⟩ := rn_i rfl rfl rfl rfl hh
  obtain ⟨n, hh⟩ := rn_i rfl rfl rfl rfl hh
  obtain ⟨n, hh⟩ := rn_i rfl rfl rfl rfl hh
  have hh : pm_run PT n fr lo 141 (137, [some (.ref 0), some (.int (nI p)), some (.int (nI a)), some (.int (nI b)), some (.int (dgA (Ar h 2) n0 (p + 3) 60))], [.int (nI b), .int (nI a), .ref 0], h, 198, sl) = some R := hh
  obtain ⟨n, fr1, lo1, r1, hh1, hh⟩ := rn_call (w := 0) (t := 143) rfl rfl hh
  obtain ⟨er5, hc6, hf7⟩ := v143_ok (a := a) (b := b) hw (by omega) (by omega) hh1
  subst er5
  have hh : pm_run PT n fr lo 141 (140, [some (.ref 0), some (.int (nI p)), some (.int (nI a)), some (.int (nI b)), some (.int (dgA (Ar h 2) n0 (p + 3) 60))], [.int (cond ((v143 q cc gc h a b).1) 1 0)], (v143 q cc gc h a b).2, 198, sl) = some R := hh
  have er8 : R = (some (.int (cond ((v143 q cc gc h a b).1) 1 0)), (v143 q cc gc h a b).2, 198, sl) := (rn_ret rfl (Or.inr rfl) hh).2
  have ed : v141f q cc gc h p n0 a b = ((v143 q cc gc h a b).1, (v143 q cc gc h a b).2) := rfl
  refine ⟨?_, ?_, ?_⟩ <;> rw [ed]
  · exact er8
  · exact hc6
  · exact (fr_g rfl rfl hf7 fr_0)
def v141p (q : QT) (cc gc : Nat) (h : pm_H) (p : Nat) (n0 : Nat) (a : Nat) (b : Nat) : Bool × pm_H := ((v144 q cc gc h a b (dgA (Ar h 2) n0 (p + 3) 60)).1, (v144 q cc gc h a b (dgA (Ar h 2) n0 (p + 3) 60)).2)
theorem v141p_ok {n fr lo sl cc gc : Nat} {q : QT} {h : pm_H} {R : pm_Rs} {p : Nat} {n0 : Nat} {a : Nat} {b : Nat} (hw : HC q cc gc h) (h_p : p < 100) (hn : n0 ≤ 80) (px : pX h n0 cc (Ar h 2)) (hs : sgA (Ar h 2) n0 p 60 = nI 112) (hd1 : dgA (Ar h 2) n0 (p + 1) 60 = nI a) (ha : a < 10) (hd2 : dgA (Ar h 2) n0 (p + 2) 60 = nI b) (hb : b < 10) (hol : NA h 17 0 8 6) (hh : pm_run PT n fr lo 141 (0, pm_l0 [.ref 0, .int (nI p)] 5, [], h, 198, sl) = some R) : R = (some (.int (cond (v141p q cc gc h p n0 a b).1 1 0)), (v141p q cc gc h p n0 a b).2, 198, sl) ∧ HC q cc gc ((v141p q cc gc h p n0 a b).2) ∧ frm [15] [] h ((v141p q cc gc h p n0 a b).2) := by
  have hcc := hw.cb
  have hgc := hw.gb
  have hzr := hw.zr
  obtain ⟨n, hh⟩ := rn_i rfl rfl rfl rfl hh
  have hh : pm_run PT n fr lo 141 (1, [some (.ref 0), some (.int (nI p)), none, none, none], [.ref 0], h, 198, sl) = some R := hh
  obtain ⟨n, hh⟩ := rn_gr hw.wt rfl rfl (by decide) rfl (by decide) (show _ = some (2, ((1 : Nat) : Int), 1) from rfl) rfl hh
  obtain ⟨n, hh⟩ := rn_i rfl rfl rfl rfl hh
  obtain ⟨n, hh⟩ := rn_i rfl rfl rfl rfl hh
  have hh : pm_run PT n fr lo 141 (6, [some (.ref 0), some (.int (nI p)), none, none, none], [.int (nI 1), .int (nI p), .ref 1], h, 198, sl) = some R := hh
  obtain ⟨n, hh⟩ := en_add rfl hh
  have hh : pm_run PT n fr lo 141 (7, [some (.ref 0), some (.int (nI p)), none, none, none], [.int (nI (p + 1)), .ref 1], h, 198, sl) = some R := hh
  obtain ⟨n, hh⟩ := rn_i rfl rfl rfl rfl hh
  have hh : pm_run PT n fr lo 141 (9, [some (.ref 0), some (.int (nI p)), none, none, none], [.int (nI 60), .int (nI (p + 1)), .ref 1], h, 198, sl) = some R := hh
  obtain ⟨n, fr1, lo1, r1, hh1, hh⟩ := rn_call (w := 0) (t := 81) rfl rfl hh
  have er1 := dgA_run (n0 := n0) (l := 60) (p := p + 1) hn (by decide) (by omega) px hh1
  rw [hd1] at er1
  subst er1
  obtain ⟨n, hh⟩ := rn_i rfl rfl rfl rfl hh
  obtain ⟨n, hh⟩ := rn_i rfl rfl rfl rfl hh
  have hh : pm_run PT n fr lo 141 (14, [some (.ref 0), some (.int (nI p)), some (.int (nI a)), none, none], [.ref 0], h, 198, sl) = some R := hh
  obtain ⟨n, hh⟩ := rn_gr hw.wt rfl rfl (by decide) rfl (by decide) (show _ = some (2, ((1 : Nat) : Int), 1) from rfl) rfl hh
  obtain ⟨n, hh⟩ := rn_i rfl rfl rfl rfl hh
  obtain ⟨n, hh⟩ := rn_i rfl rfl rfl rfl hh
  have hh : pm_run PT n fr lo 141 (19, [some (.ref 0), some (.int (nI p)), some (.int (nI a)), none, none], [.int (nI 2), .int (nI p), .ref 1], h, 198, sl) = some R := hh
  obtain ⟨n, hh⟩ := en_add rfl hh
  have hh : pm_run PT n fr lo 141 (20, [some (.ref 0), some (.int (nI p)), some (.int (nI a)), none, none], [.int (nI (p + 2)), .ref 1], h, 198, sl) = some R := hh
  obtain ⟨n, hh⟩ := rn_i rfl rfl rfl rfl hh
  have hh : pm_run PT n fr lo 141 (22, [some (.ref 0), some (.int (nI p)), some (.int (nI a)), none, none], [.int (nI 60), .int (nI (p + 2)), .ref 1], h, 198, sl) = some R := hh
  obtain ⟨n, fr1, lo1, r1, hh1, hh⟩ := rn_call (w := 0) (t := 81) rfl rfl hh
  have er2 := dgA_run (n0 := n0) (l := 60) (p := p + 2) hn (by decide) (by omega) px hh1
  rw [hd2] at er2
  subst er2
  obtain ⟨n, hh⟩ := rn_i rfl rfl rfl rfl hh
  obtain ⟨n, hh⟩ := rn_i rfl rfl rfl rfl hh
  have hh : pm_run PT n fr lo 141 (27, [some (.ref 0), some (.int (nI p)), some (.int (nI a)), some (.int (nI b)), none], [.ref 0], h, 198, sl) = some R := hh
  obtain ⟨n, hh⟩ := rn_gr hw.wt rfl rfl (by decide) rfl (by decide) (show _ = some (2, ((1 : Nat) : Int), 1) from rfl) rfl hh
  obtain ⟨n, hh⟩ := rn_i rfl rfl rfl rfl hh
  obtain ⟨n, hh⟩ := rn_i rfl rfl rfl rfl hh
  have hh : pm_run PT n fr lo 141 (32, [some (.ref 0), some (.int (nI p)), some (.int (nI a)), some (.int (nI b)), none], [.int (nI 3), .int (nI p), .ref 1], h, 198, sl) = some R := hh
  obtain ⟨n, hh⟩ := en_add rfl hh
  have hh : pm_run PT n fr lo 141 (33, [some (.ref 0), some (.int (nI p)), some (.int (nI a)), some (.int (nI b)), none], [.int (nI (p + 3)), .ref 1], h, 198, sl) = some R := hh
  obtain ⟨n, hh⟩ := rn_i rfl rfl rfl rfl hh
  have hh : pm_run PT n fr lo 141 (35, [some (.ref 0), some (.int (nI p)), some (.int (nI a)), some (.int (nI b)), none], [.int (nI 60), .int (nI (p + 3)), .ref 1], h, 198, sl) = some R := hh
  obtain ⟨n, fr1, lo1, r1, hh1, hh⟩ := rn_call (w := 0) (t := 81) rfl rfl hh
  have er3 := dgA_run (n0 := n0) (l := 60) (p := p + 3) hn (by decide) (by omega) px hh1
  subst er3
  obtain ⟨n, hh⟩ := rn_i rfl rfl rfl rfl hh
  obtain ⟨n, hh⟩ := rn_i rfl rfl rfl rfl hh
  have hh : pm_run PT n fr lo 141 (41, [some (.ref 0), some (.int (nI p)), some (.int (nI a)), some (.int (nI b)), some (.int (dgA (Ar h 2) n0 (p + 3) 60))], [.ref 0], h, 198, sl) = some R := hh
  obtain ⟨n, hh⟩ := rn_gr hw.wt rfl rfl (by decide) rfl (by decide) (show _ = some (2, ((1 : Nat) : Int), 1) from rfl) rfl hh
  obtain ⟨n, hh⟩ := rn_i rfl rfl rfl rfl hh
  obtain ⟨n, hh⟩ := rn_i rfl rfl rfl rfl hh
  have hh : pm_run PT n fr lo 141 (47, [some (.ref 0), some (.int (nI p)), some (.int (nI a)), some (.int (nI b)), some (.int (dgA (Ar h 2) n0 (p + 3) 60))], [.int (nI 60), .int (nI p), .ref 1], h, 198, sl) = some R := hh
  obtain ⟨n, fr1, lo1, r1, hh1, hh⟩ := rn_call (w := 0) (t := 80) rfl rfl hh
  have er4 := sgA_run (n0 := n0) (l := 60) (p := p) hn (by decide) (by omega) px hh1
  rw [hs] at er4
  subst er4
  have hh : pm_run PT n fr lo 141 (50, [some (.ref 0), some (.int (nI p)), some (.int (nI a)), some (.int (nI b)), some (.int (dgA (Ar h 2) n0 (p + 3) 60))], [.int (nI 112)], h, 198, sl) = some R := hh
  obtain ⟨n, hh⟩ := rn_i rfl rfl rfl rfl hh
  have hh : pm_run PT n fr lo 141 (141, [some (.ref 0), some (.int (nI p)), some (.int (nI a)), some (.int (nI b)), some (.int (dgA (Ar h 2) n0 (p + 3) 60))], [], h, 198, sl) = some R := hh
  obtain ⟨n, hh⟩ := rn_i rfl rfl rfl rfl hh
  obtain ⟨n, hh⟩ := rn_i rfl rfl rfl rfl hh
  obtain ⟨n, hh⟩ := rn_i rfl rfl rfl rfl hh
  obtain ⟨n, hh⟩ := rn_i rfl rfl rfl rfl hh
  have hh : pm_run PT n fr lo 141 (146, [some (.ref 0), some (.int (nI p)), some (.int (nI a)), some (.int (nI b)), some (.int (dgA (Ar h 2) n0 (p + 3) 60))], [.int (dgA (Ar h 2) n0 (p + 3) 60), .int (nI b), .int (nI a), .ref 0], h, 198, sl) = some R := hh
  obtain ⟨n, fr1, lo1, r1, hh1, hh⟩ := rn_call (w := 0) (t := 144) rfl rfl hh
  obtain ⟨er5, hc6, hf7⟩ := v144_ok (a := a) (b := b) (m := (dgA (Ar h 2) n0 (p + 3) 60)) hw (by omega) (by omega) hh1
  subst er5
  have hh : pm_run PT n fr lo 141 (149, [some (.ref 0), some (.int (nI p)), some (.int (nI a)), some (.int (nI b)), some (.int (dgA (Ar h 2) n0 (p + 3) 60))], [.int (cond ((v144 q cc gc h a b (dgA (Ar h 2) n0 (p + 3) 60)).1) 1 0)], (v144 q cc gc h a b (dgA (Ar h 2) n0 (p + 3) 60)).2, 198, sl) = some R := hh
  have er8 : R = (some (.int (cond ((v144 q cc gc h a b (dgA (Ar h 2) n0 (p + 3) 60)).1) 1 0)), (v144 q cc gc h a b (dgA (Ar h 2) n0 (p + 3) 60)).2, 198, sl) := (rn_ret rfl (Or.inr rfl) hh).2
  have ed : v141p q cc gc h p n0 a b = ((v144 q cc gc h a b (dgA (Ar h 2) n0 (p + 3) 60)).1, (v144 q cc gc h a b (dgA (Ar h 2) n0 (p + 3) 60)).2) := rfl
  refine ⟨?_, ?_, ?_⟩ <;> rw [ed]
  · exact er8
  · exact hc6
  · exact (fr_g rfl rfl hf7 fr_0)
def v141q (q : QT) (cc gc : Nat) (h : pm_H) (p : Nat) (n0 : Nat) (a : Nat) (b : Nat) : Bool × pm_H := ((v144 q cc gc h a b (-(dgA (Ar h 2) n0 (p + 3) 60))).1, (v144 q cc gc h a b (-(dgA (Ar h 2) n0 (p + 3) 60))).2)
theorem v141q_ok {n fr lo sl cc gc : Nat} {q : QT} {h : pm_H} {R : pm_Rs} {p : Nat} {n0 : Nat} {a : Nat} {b : Nat} (hw : HC q cc gc h) (h_p : p < 100) (hn : n0 ≤ 80) (px : pX h n0 cc (Ar h 2)) (hs : sgA (Ar h 2) n0 p 60 = nI 113) (hd1 : dgA (Ar h 2) n0 (p + 1) 60 = nI a) (ha : a < 10) (hd2 : dgA (Ar h 2) n0 (p + 2) 60 = nI b) (hb : b < 10) (hol : NA h 17 0 8 6) (hh : pm_run PT n fr lo 141 (0, pm_l0 [.ref 0, .int (nI p)] 5, [], h, 198, sl) = some R) : R = (some (.int (cond (v141q q cc gc h p n0 a b).1 1 0)), (v141q q cc gc h p n0 a b).2, 198, sl) ∧ HC q cc gc ((v141q q cc gc h p n0 a b).2) ∧ frm [15] [] h ((v141q q cc gc h p n0 a b).2) := by
  have hcc := hw.cb
  have hgc := hw.gb
  have hzr := hw.zr
  obtain ⟨n, hh⟩ := rn_i rfl rfl rfl rfl hh
  have hh : pm_run PT n fr lo 141 (1, [some (.ref 0), some (.int (nI p)), none, none, none], [.ref 0], h, 198, sl) = some R := hh
  obtain ⟨n, hh⟩ := rn_gr hw.wt rfl rfl (by decide) rfl (by decide) (show _ = some (2, ((1 : Nat) : Int), 1) from rfl) rfl hh
  obtain ⟨n, hh⟩ := rn_i rfl rfl rfl rfl hh
  obtain ⟨n, hh⟩ := rn_i rfl rfl rfl rfl hh
  have hh : pm_run PT n fr lo 141 (6, [some (.ref 0), some (.int (nI p)), none, none, none], [.int (nI 1), .int (nI p), .ref 1], h, 198, sl) = some R := hh
  obtain ⟨n, hh⟩ := en_add rfl hh
  have hh : pm_run PT n fr lo 141 (7, [some (.ref 0), some (.int (nI p)), none, none, none], [.int (nI (p + 1)), .ref 1], h, 198, sl) = some R := hh
  obtain ⟨n, hh⟩ := rn_i rfl rfl rfl rfl hh
  have hh : pm_run PT n fr lo 141 (9, [some (.ref 0), some (.int (nI p)), none, none, none], [.int (nI 60), .int (nI (p + 1)), .ref 1], h, 198, sl) = some R := hh
  obtain ⟨n, fr1, lo1, r1, hh1, hh⟩ := rn_call (w := 0) (t := 81) rfl rfl hh
  have er1 := dgA_run (n0 := n0) (l := 60) (p := p + 1) hn (by decide) (by omega) px hh1
  rw [hd1] at er1
  subst er1
  obtain ⟨n, hh⟩ := rn_i rfl rfl rfl rfl hh
  obtain ⟨n, hh⟩ := rn_i rfl rfl rfl rfl hh
  have hh : pm_run PT n fr lo 141 (14, [some (.ref 0), some (.int (nI p)), some (.int (nI a)), none, none], [.ref 0], h, 198, sl) = some R := hh
  obtain ⟨n, hh⟩ := rn_gr hw.wt rfl rfl (by decide) rfl (by decide) (show _ = some (2, ((1 : Nat) : Int), 1) from rfl) rfl hh
  obtain ⟨n, hh⟩ := rn_i rfl rfl rfl rfl hh
  obtain ⟨n, hh⟩ := rn_i rfl rfl rfl rfl hh
  have hh : pm_run PT n fr lo 141 (19, [some (.ref 0), some (.int (nI p)), some (.int (nI a)), none, none], [.int (nI 2), .int (nI p), .ref 1], h, 198, sl) = some R := hh
  obtain ⟨n, hh⟩ := en_add rfl hh
  have hh : pm_run PT n fr lo 141 (20, [some (.ref 0), some (.int (nI p)), some (.int (nI a)), none, none], [.int (nI (p + 2)), .ref 1], h, 198, sl) = some R := hh
  obtain ⟨n, hh⟩ := rn_i rfl rfl rfl rfl hh
  have hh : pm_run PT n fr lo 141 (22, [some (.ref 0), some (.int (nI p)), some (.int (nI a)), none, none], [.int (nI 60), .int (nI (p + 2)), .ref 1], h, 198, sl) = some R := hh
  obtain ⟨n, fr1, lo1, r1, hh1, hh⟩ := rn_call (w := 0) (t := 81) rfl rfl hh
  have er2 := dgA_run (n0 := n0) (l := 60) (p := p + 2) hn (by decide) (by omega) px hh1
  rw [hd2] at er2
  subst er2
  obtain ⟨n, hh⟩ := rn_i rfl rfl rfl rfl hh
  obtain ⟨n, hh⟩ := rn_i rfl rfl rfl rfl hh
  have hh : pm_run PT n fr lo 141 (27, [some (.ref 0), some (.int (nI p)), some (.int (nI a)), some (.int (nI b)), none], [.ref 0], h, 198, sl) = some R := hh
  obtain ⟨n, hh⟩ := rn_gr hw.wt rfl rfl (by decide) rfl (by decide) (show _ = some (2, ((1 : Nat) : Int), 1) from rfl) rfl hh
  obtain ⟨n, hh⟩ := rn_i rfl rfl rfl rfl hh
  obtain ⟨n, hh⟩ := rn_i rfl rfl rfl rfl hh
  have hh : pm_run PT n fr lo 141 (32, [some (.ref 0), some (.int (nI p)), some (.int (nI a)), some (.int (nI b)), none], [.int (nI 3), .int (nI p), .ref 1], h, 198, sl) = some R := hh
  obtain ⟨n, hh⟩ := en_add rfl hh
  have hh : pm_run PT n fr lo 141 (33, [some (.ref 0), some (.int (nI p)), some (.int (nI a)), some (.int (nI b)), none], [.int (nI (p + 3)), .ref 1], h, 198, sl) = some R := hh
  obtain ⟨n, hh⟩ := rn_i rfl rfl rfl rfl hh
  have hh : pm_run PT n fr lo 141 (35, [some (.ref 0), some (.int (nI p)), some (.int (nI a)), some (.int (nI b)), none], [.int (nI 60), .int (nI (p + 3)), .ref 1], h, 198, sl) = some R := hh
  obtain ⟨n, fr1, lo1, r1, hh1, hh⟩ := rn_call (w := 0) (t := 81) rfl rfl hh
  have er3 := dgA_run (n0 := n0) (l := 60) (p := p + 3) hn (by decide) (by omega) px hh1
  subst er3
  obtain ⟨n, hh⟩ := rn_i rfl rfl rfl rfl hh
  obtain ⟨n, hh⟩ := rn_i rfl rfl rfl rfl hh
  have hh : pm_run PT n fr lo 141 (41, [some (.ref 0), some (.int (nI p)), some (.int (nI a)), some (.int (nI b)), some (.int (dgA (Ar h 2) n0 (p + 3) 60))], [.ref 0], h, 198, sl) = some R := hh
  obtain ⟨n, hh⟩ := rn_gr hw.wt rfl rfl (by decide) rfl (by decide) (show _ = some (2, ((1 : Nat) : Int), 1) from rfl) rfl hh
  obtain ⟨n, hh⟩ := rn_i rfl rfl rfl rfl hh
  obtain ⟨n, hh⟩ := rn_i rfl rfl rfl rfl hh
  have hh : pm_run PT n fr lo 141 (47, [some (.ref 0), some (.int (nI p)), some (.int (nI a)), some (.int (nI b)), some (.int (dgA (Ar h 2) n0 (p + 3) 60))], [.int (nI 60), .int (nI p), .ref 1], h, 198, sl) = some R := hh
  obtain ⟨n, fr1, lo1, r1, hh1, hh⟩ := rn_call (w := 0) (t := 80) rfl rfl hh
  have er4 := sgA_run (n0 := n0) (l := 60) (p := p) hn (by decide) (by omega) px hh1
  rw [hs] at er4
  subst er4
  have hh : pm_run PT n fr lo 141 (50, [some (.ref 0), some (.int (nI p)), some (.int (nI a)), some (.int (nI b)), some (.int (dgA (Ar h 2) n0 (p + 3) 60))], [.int (nI 113)], h, 198, sl) = some R := hh
  obtain ⟨n, hh⟩ := rn_i rfl rfl rfl rfl hh
  have hh : pm_run PT n fr lo 141 (150, [some (.ref 0), some (.int (nI p)), some (.int (nI a)), some (.int (nI b)), some (.int (dgA (Ar h 2) n0 (p + 3) 60))], [], h, 198, sl) = some R := hh
  obtain ⟨n, hh⟩ := rn_i rfl rfl rfl rfl hh
  obtain ⟨n, hh⟩ := rn_i rfl rfl rfl rfl hh
  obtain ⟨n, hh⟩ := rn_i rfl rfl rfl rfl hh
  obtain ⟨n, hh⟩ := rn_i rfl rfl rfl rfl hh
  obtain ⟨n, hh⟩ := rn_i rfl rfl rfl rfl hh
  have hh : pm_run PT n fr lo 141 (156, [some (.ref 0), some (.int (nI p)), some (.int (nI a)), some (.int (nI b)), some (.int (dgA (Ar h 2) n0 (p + 3) 60))], [.int (-(dgA (Ar h 2) n0 (p + 3) 60)), .int (nI b), .int (nI a), .ref 0], h, 198, sl) = some R := hh
  obtain ⟨n, fr1, lo1, r1, hh1, hh⟩ := rn_call (w := 0) (t := 144) rfl rfl hh
  obtain ⟨er5, hc6, hf7⟩ := v144_ok (a := a) (b := b) (m := (-(dgA (Ar h 2) n0 (p + 3) 60))) hw (by omega) (by omega) hh1
  subst er5
  have hh : pm_run PT n fr lo 141 (159, [some (.ref 0), some (.int (nI p)), some (.int (nI a)), some (.int (nI b)), some (.int (dgA (Ar h 2) n0 (p + 3) 60))], [.int (cond ((v144 q cc gc h a b (-(dgA (Ar h 2) n0 (p + 3) 60))).1) 1 0)], (v144 q cc gc h a b (-(dgA (Ar h 2) n0 (p + 3) 60))).2, 198, sl) = some R := hh
  have er8 : R = (some (.int (cond ((v144 q cc gc h a b (-(dgA (Ar h 2) n0 (p + 3) 60))).1) 1 0)), (v144 q cc gc h a b (-(dgA (Ar h 2) n0 (p + 3) 60))).2, 198, sl) := (rn_ret rfl (Or.inr rfl) hh).2
  have ed : v141q q cc gc h p n0 a b = ((v144 q cc gc h a b (-(dgA (Ar h 2) n0 (p + 3) 60))).1, (v144 q cc gc h a b (-(dgA (Ar h 2) n0 (p + 3) 60))).2) := rfl
  refine ⟨?_, ?_, ?_⟩ <;> rw [ed]
  · exact er8
  · exact hc6
  · exact (fr_g rfl rfl hf7 fr_0)
end EW
end MH95zzyvx2
section MH95zzyvx3
section MG95zzzaax0
/-! sheet() of both sides answers alike -/
section SHT
variable {q : QT} {cc gc sl : Nat} {h hx hm h1 h2 : pm_H} {k m e s v w : Int32}
theorem fi_of {c ci g : Nat} {fs : List Value} {x : Int32} (e : h c = .inr (ci, fs)) (e1 : fs[g]? = some (.int x)) : Fi h c g = x := by
  unfold Fi
  rw [e]
  dsimp only
  rw [e1]
def asZ (c : Nat) : List av := match bB c with
  | .inr (_, as) => as
  | _ => []
theorem hc_rule (hI : ah_ok bB 198 [] h) {p : Nat} (hb : bB p = .inr (6, asZ p)) (hp : p < 198) (h1 : (asZ p)[1]? = some (0, 0, 40)) : ∃ n : Nat, n ≤ 40 ∧ Fi h p 1 = nI n := by
  have b0 : ac_ok (h p) (bB p) := hI p hp
  rw [hb] at b0
  obtain ⟨fs, e0, hl, hv⟩ := aE_obj b0 (by decide)
  have hlt : 1 < fs.length := by
    have := (List.getElem?_eq_some_iff.mp h1).1
    omega
  have ev := List.getElem?_eq_getElem hlt
  obtain ⟨x, ex, x1, x2⟩ := av_int rfl (hv 1 _ _ ev h1)
  obtain ⟨n, rfl, -, en⟩ := hI_of (x := x) x1
  rw [ex] at ev
  refine ⟨n, ?_, fi_of e0 ev⟩
  dsimp only at x2
  omega
def sF (q : QT) (cc gc : Nat) (k m e s : Int32) (b : Bool) (i : Nat) : Int32 := cond (cond b false (cond (pm_cmp .ge (nI i) m) false true)) (imax (nI 0) (imin (nI 999) (v157t q cc gc k (e + nI i * s)))) (nI 0)
theorem sx_loop (b : Bool) : ∀ (j i : Nat) (h : pm_H) (t : Nat), Ar (v95_44 q cc gc k m e s b j i h) 14 t = if i ≤ t ∧ t < i + j then sF q cc gc k m e s b t else Ar h 14 t
  | 0, i, h, t => by
    rw [if_neg (by omega)]
    rfl
  | j + 1, i, h, t => by
    have ih := sx_loop b j (i + 1) (v95_44b q cc gc h k m e s b i) t
    have e1 : v95_44 q cc gc k m e s b (j + 1) i h = v95_44 q cc gc k m e s b j (i + 1) (v95_44b q cc gc h k m e s b i) := rfl
    rw [e1, ih]
    have e2 : Ar (v95_44b q cc gc h k m e s b i) 14 t = if t = i then sF q cc gc k m e s b i else Ar h 14 t := by
      unfold v95_44b
      rw [Ar_s]
      rfl
    rw [e2]
    by_cases h1 : t = i
    · subst h1
      rw [if_neg (by omega), if_pos rfl, if_pos (by omega)]
    · rw [if_neg h1]
      by_cases h2 : i + 1 ≤ t ∧ t < i + 1 + j
      · rw [if_pos h2, if_pos (by omega)]
      · rw [if_neg h2, if_neg (by omega)]
def shM (k m e s : Int32) (i : Nat) : Int32 := cond (pm_cmp .eq k (nI 3)) (nI 0) (cond (pm_cmp .lt (nI i) m) (imax (nI 0) (imin (nI 999) (cond (pm_cmp .ne k 0) (cond (pm_cmp .ne k (nI 1)) (e + nI i * s) ((e + nI i * s).toInt16.toInt32)) ((e + nI i * s).toInt8.toInt32)))) (nI 0))
theorem sm_loop : ∀ (j i : Nat) (x : Int32) (h : pm_H) (t : Nat), x = e + nI i * s → Ar (v210_43 q cc gc k m e s j i (x, h)).2 170 t = if i ≤ t ∧ t < i + j then shM k m e s t else Ar h 170 t
  | 0, i, x, h, t, _ => by
    rw [if_neg (by omega)]
    rfl
  | j + 1, i, x, h, t, hx => by
    have e3 : x + s = e + nI (i + 1) * s := by
      rw [hx, ← nI_add i 1, Int32.add_mul, show nI 1 = 1 from rfl, Int32.one_mul, Int32.add_assoc]
    have eb : v210_43b q cc gc h k m e s i x = (x + s, aset h 170 96 (upd (Ar h 170) i (shM k m e s i))) := by
      rw [hx]
      unfold v210_43b shM
      cases pm_cmp .ne k 0 <;> cases pm_cmp .ne k (nI 1) <;> cases pm_cmp .eq k (nI 3) <;> cases pm_cmp .lt (nI i) m <;> rfl
    have ih := sm_loop j (i + 1) (x + s) (aset h 170 96 (upd (Ar h 170) i (shM k m e s i))) t e3
    have e1 : v210_43 q cc gc k m e s (j + 1) i (x, h) = v210_43 q cc gc k m e s j (i + 1) (v210_43b q cc gc h k m e s i x) := rfl
    rw [e1, eb, ih]
    have e2 : Ar (aset h 170 96 (upd (Ar h 170) i (shM k m e s i))) 170 t = if t = i then shM k m e s i else Ar h 170 t := by
      rw [Ar_s]
      rfl
    rw [e2]
    by_cases h1 : t = i
    · subst h1
      rw [if_neg (by omega), if_pos rfl, if_pos (by omega)]
    · rw [if_neg h1]
      by_cases h2 : i + 1 ≤ t ∧ t < i + 1 + j
      · rw [if_pos h2, if_pos (by omega)]
      · rw [if_neg h2, if_neg (by omega)]
theorem i_ge (x y : Int32) : pm_cmp .ge x y = !(pm_cmp .lt x y) := by
  show decide (y ≤ x) = !(decide (x < y))
  by_cases z : x < y
  · rw [decide_eq_true z, decide_eq_false (fun z2 => by rw [Int32.lt_iff_toInt_lt] at z; rw [Int32.le_iff_toInt_le] at z2; omega)]
    rfl
  · rw [decide_eq_false z, decide_eq_true (by rw [Int32.lt_iff_toInt_lt] at z; rw [Int32.le_iff_toInt_le]; omega)]
    rfl
theorem i_ne (x y : Int32) : pm_cmp .ne x y = !(pm_cmp .eq x y) := by
  show decide (¬ x = y) = !(decide (x = y))
  by_cases z : x = y
  · rw [decide_eq_true z, decide_eq_false (fun z2 => z2 z)]
    rfl
  · rw [decide_eq_false z, decide_eq_true z]
    rfl
theorem sf_eq (i : Nat) : sF q cc gc k m e s (cond (pm_cmp .ne k (nI 3)) false true) i = shM k m e s i := by
  unfold sF shM v157t
  rw [i_ne, i_ne, i_ne, i_ge, show (0 : Int32) = nI 0 from rfl]
  cases pm_cmp .eq k (nI 3) <;> cases pm_cmp .lt (nI i) m <;> cases pm_cmp .eq k (nI 0) <;> cases pm_cmp .eq k (nI 1) <;> simp only [cond_true, cond_false, Bool.not_true, Bool.not_false]
theorem sht_in (k : Int32) : in_b k.toInt64 (Int64.ofNat 0) (3 : Int64) = (!(pm_cmp .lt k 0) && !(pm_cmp .gt k (nI 3))) := by
  unfold in_b
  have e1 : decide (k.toInt64 < Int64.ofNat 0) = pm_cmp .lt k 0 := by
    show _ = decide (k < 0)
    rw [decide_eq_decide, Int64.lt_iff_toInt_lt, Int32.lt_iff_toInt_lt, Int32.toInt_toInt64]
    exact Iff.rfl
  have e2 : decide ((3 : Int64) < k.toInt64) = pm_cmp .gt k (nI 3) := by
    show _ = decide (nI 3 < k)
    rw [decide_eq_decide, Int64.lt_iff_toInt_lt, Int32.lt_iff_toInt_lt, Int32.toInt_toInt64]
    exact Iff.rfl
  rw [e1, e2]
end SHT
end MG95zzzaax0
section MG95zzzaax1
/-! the acts as pairs of calls: SR is kept, the answers are alike -/
section ACO
variable {sl cc gc fi si : Nat} {q : QT} {h h1 h2 : pm_H} {v w x y z : Int32} {W : List Nat} {V : List (Nat × Nat)}
theorem na_17 (hI : ah_ok bB 198 [] h) : NA h 17 0 8 6 := by
  intro j _ hj
  have b0 : ac_ok (h 17) (.inl (0, 8, (0, 0, 5))) := hI 17 (by decide)
  have e0 := wt_a (wt_of hI) (by decide) (show wd (bB 17) = .inl (0, 8, ai_top) from rfl) (by decide)
  rw [e0] at b0
  have b0 : 0 = 0 ∧ 8 = 8 ∧ ∀ j, j < 8 → av_ok (.int (Ar h 17 j)) (0, 0, 5) := b0
  have q := b0.2.2 j hj
  have q1 : 0 ≤ (Ar h 17 j).toInt := q.2.1
  have q2 : (Ar h 17 j).toInt ≤ 5 := q.2.2
  obtain ⟨k, ek, hk, ei⟩ := hI_of q1
  rw [ek, nI_clamp hk]
  exact ⟨rfl, by omega⟩
def asR : List av := match bB 170 with
  | .inr (_, as) => as
  | _ => []
theorem asR_all : (List.range 8).all (fun j => decide (asR[78 + j]? = some ((0, 0, 5) : av))) = true := by decide +kernel
theorem na_170 (hI : ah_ok bB 198 [] h) : NA h 170 78 86 6 := by
  intro j h1 h2
  have e0 := wt_a (wt_of hI) (by decide) (show wd (bB 170) = .inl (0, 96, ai_top) from rfl) (by decide)
  have b0 : ac_ok (h 170) (.inr (1000, asR)) := hI 170 (by decide)
  rw [e0] at b0
  have b0 : 1000 = 1000 + 0 ∧ 96 = asR.length ∧ ∀ (j : Nat) (a : av), asR[j]? = some a → av_ok (.int (Ar h 170 j)) a := b0
  have z := of_decide_eq_true (List.all_eq_true.mp asR_all (j - 78) (List.mem_range.mpr (by omega)))
  rw [show 78 + (j - 78) = j by omega] at z
  have q := b0.2.2 j _ z
  have q1 : 0 ≤ (Ar h 170 j).toInt := q.2.1
  have q2 : (Ar h 170 j).toInt ≤ 5 := q.2.2
  obtain ⟨k, ek, hk, ei⟩ := hI_of q1
  rw [ek, nI_clamp hk]
  exact ⟨rfl, by omega⟩
theorem pP_iv (e : pP cc x y = true) : ∃ a b, a < cc ∧ b < cc ∧ a ≠ b ∧ x = nI a ∧ y = nI b := by
  unfold pP at e
  rw [Bool.and_eq_true, Bool.and_eq_true] at e
  obtain ⟨e1, e2, e3⟩ := e
  obtain ⟨a, ha, ea⟩ := cB_iv e1
  obtain ⟨b, hb, eb⟩ := cB_iv e2
  refine ⟨a, b, ha, hb, fun q => ?_, ea, eb⟩
  rw [ea, eb, q, decide_eq_true rfl] at e3
  cases e3
/-- what an act takes out of SR -/
theorem SR_open (s : SR h) : ∃ (q : QT) (cc gc fi si : Nat), HC q cc gc h ∧ SRq q cc gc h ∧ fi < 16 ∧ si ≤ 15 ∧ Fi h 25 1 = nI fi ∧ Fi h 25 2 = nI si ∧ Fi h 162 27 = nI si ∧ ∀ j, j < si → RSb cc gc (27 + 6 * ((fi + j) % 16)) h (fun k => Ar h 178 (96 * j + k)) ∧ RI cc gc (fun k => Ar h 178 (96 * j + k)) := by
  obtain ⟨q, cc, gc, hc, s⟩ := s
  obtain ⟨fi, si, p1, p2, ⟨p3, p4, p5⟩, p6⟩ := s.2.2.2.1
  exact ⟨q, cc, gc, fi, si, hc, s, p1, p2, p3, p4, p5, p6⟩
def refM (W : List Nat) (V : List (Nat × Nat)) : Bool := (List.range 162).all (fun a => !(W.elem a)) && (CK.all (fun a => !(W.elem a)) && (!(V.elem (162, 47)) && !(V.elem (162, 27))))
/-- SR where nothing but what isn't read yet was written -/
theorem ref_sr (hc : HC q cc gc h) (s : SRq q cc gc h) (hfi : fi < 16) (hsi : si ≤ 15) (e1 : Fi h 25 1 = nI fi) (e2 : Fi h 25 2 = nI si) (e3 : Fi h 162 27 = nI si) (pa : ∀ j, j < si → RSb cc gc (27 + 6 * ((fi + j) % 16)) h (fun k => Ar h 178 (96 * j + k)) ∧ RI cc gc (fun k => Ar h 178 (96 * j + k))) (c2 : HC q cc gc h2) (f : frm W V h h2) (k : refM W V = true) (e170 : Ar h2 170 = Ar h 170) (e178 : ∀ x, x < 96 * si → Ar h2 178 x = Ar h 178 x) : SR h2 := by
  unfold refM at k
  rw [Bool.and_eq_true, Bool.and_eq_true, Bool.and_eq_true] at k
  obtain ⟨k1, k2, k3, k4⟩ := k
  have lo : ∀ a, a < 162 → h2 a = h a := fun a ha => f.1 a (nel (List.all_eq_true.mp k1 a (List.mem_range.mpr ha)))
  have cs : ∀ a, CK.elem a = true → h2 a = h a := fun a e => f.1 a (nel (List.all_eq_true.mp k2 a (List.elem_iff.mp e)))
  have ka : kpt AK h h2 := fun a e => Ar_e (cs a (List.elem_iff.mpr (List.mem_append_left _ (List.elem_iff.mp e))))
  have f47 : Fi h2 162 47 = Fi h 162 47 := f.2 162 47 rfl (nel2 k3)
  have kf : kpf FK h h2 := by
    intro c g e
    have e := List.elem_iff.mp e
    simp only [FK, List.mem_cons, Prod.mk.injEq, List.not_mem_nil, or_false] at e
    rcases e with ⟨rfl, rfl⟩ | ⟨rfl, rfl⟩ | ⟨rfl, rfl⟩ | ⟨rfl, rfl⟩ | ⟨rfl, rfl⟩ | ⟨rfl, rfl⟩ | ⟨rfl, rfl⟩ | ⟨rfl, rfl⟩ | ⟨rfl, rfl⟩ | ⟨rfl, rfl⟩ | ⟨rfl, rfl⟩
    · exact Fi_e (cs 0 rfl)
    · exact Fi_e (cs 5 rfl)
    · exact Fi_e (cs 5 rfl)
    · exact Fi_e (cs 159 rfl)
    · exact f47
    · exact Fi_e (cs 124 rfl)
    · exact Fi_e (cs 124 rfl)
    · exact Fi_e (cs 130 rfl)
    · exact Fi_e (cs 130 rfl)
    · exact Fi_e (cs 136 rfl)
    · exact Fi_e (cs 136 rfl)
  have k9 : k0f 9 h h2 := fun fs p e1 e2 => ⟨fs, (cs 0 rfl).trans e1, e2⟩
  obtain ⟨⟨s1, s2⟩, -⟩ := s.2
  refine SR_act c2 hc.qq s ka kf k9 ⟨?_, ?_⟩ ⟨fi, si, hfi, hsi, ⟨?_, ?_, ?_⟩, fun j hj => ?_⟩
  · rw [e170]
    exact RSb_e (fun i h1 h2 => lo i (by omega)) s1
  · rw [e170]
    exact s2
  · exact (Fi_e (lo 25 (by decide))).trans e1
  · exact (Fi_e (lo 25 (by decide))).trans e2
  · exact (f.2 162 27 rfl (nel2 k4)).trans e3
  · obtain ⟨q1, q2⟩ := pa j hj
    exact ⟨RS_cg hc.cb hc.gb (fun k hk => e178 _ (by omega)) (RSb_e (fun i h1 h2 => lo i (by omega)) q1), RI_cg hc.cb hc.gb (fun k hk => e178 _ (by omega)) q2⟩
theorem ref_0 (hc : HC q cc gc h) (s : SRq q cc gc h) (hfi : fi < 16) (hsi : si ≤ 15) (e1 : Fi h 25 1 = nI fi) (e2 : Fi h 25 2 = nI si) (e3 : Fi h 162 27 = nI si) (pa : ∀ j, j < si → RSb cc gc (27 + 6 * ((fi + j) % 16)) h (fun k => Ar h 178 (96 * j + k)) ∧ RI cc gc (fun k => Ar h 178 (96 * j + k))) : SR (fset h 162 0 (.int (nI 0))) :=
  ref_sr (W := [162]) (V := [(162, 0)]) hc s hfi hsi e1 e2 e3 pa (hc_f rfl rfl (by decide) rfl hc) (fr_f rfl rfl fr_0) (by decide +kernel) Ar_f (fun x _ => congrFun Ar_f x)
theorem ref_put (hc : HC q cc gc h) (s : SRq q cc gc h) (hfi : fi < 16) (hsi : si ≤ 15) (e1 : Fi h 25 1 = nI fi) (e2 : Fi h 25 2 = nI si) (e3 : Fi h 162 27 = nI si) (pa : ∀ j, j < si → RSb cc gc (27 + 6 * ((fi + j) % 16)) h (fun k => Ar h 178 (96 * j + k)) ∧ RI cc gc (fun k => Ar h 178 (96 * j + k))) : SR (v211 q cc gc (fset h 162 0 (.int (nI 0))) si) := by
  have cF : HC q cc gc (fset h 162 0 (.int (nI 0))) := hc_f rfl rfl (by decide) rfl hc
  obtain ⟨c0, g0⟩ := v211_fr (u := si) cF hsi
  obtain ⟨a1, a2, a3⟩ := v211_ar (q := q) (cc := cc) (gc := gc) (h := fset h 162 0 (.int (nI 0))) (u := si)
  exact ref_sr (W := [162, 178]) (V := [(162, 0)]) hc s hfi hsi e1 e2 e3 pa c0 (fr_g rfl rfl g0 (fr_f rfl rfl fr_0)) (by decide +kernel) (a1.trans Ar_f) (fun x hx => (a3 x (Or.inl hx)).trans (congrFun Ar_f x))
theorem up_id {f : Nat → Int32} {k : Nat} {a : Int32} (e : f k = a) : upd f k a = f := by
  funext i
  by_cases z : i = k
  · rw [z, up_e rfl, e]
  · rw [up_n z]
theorem v213_lt {M0 : pm_H} {u : Nat} (e : pm_cmp .ge x 0 = false) : v213 q cc gc M0 u x = (x, M0) := by
  unfold v213
  rw [e]
  rfl
theorem n2_ge : pm_cmp .ge (Int32.ofInt (-2)) 0 = false := by decide
theorem n2_lt : pm_cmp .lt (Int32.ofInt (-2)) 0 = true := by decide
theorem n1_ge : pm_cmp .ge (Int32.ofInt (-1)) 0 = false := by decide
theorem z0_ge : pm_cmp .ge (nI 0) 0 = true := by decide
theorem ne_ff {x : Int32} : pm_cmp .ne x x = false := decide_eq_false (fun z => z rfl)
theorem ne_tt {x y : Int32} (e : x ≠ y) : pm_cmp .ne x y = true := decide_eq_true e
/-- send: gift and court are there -/
theorem snd_hold {g : Nat} (s : SRq q cc gc h) (hg : g < gc) : ∃ F, F < cc ∧ Ar h 170 (78 + g) = nI F ∧ Ar h 17 g = nI F := by
  obtain ⟨F, hF, eF⟩ := s.2.1.2.2.2.2.1 g hg
  exact ⟨F, hF, eF, (s.2.1.1.2.2.2.1 g hg).trans eF⟩
theorem v222_two {M0 : pm_H} {g F : Nat} (hg : g < gc) (hF : F < cc) (h6 : cc ≤ 6) (eM : Ar M0 170 (78 + g) = nI F) (e : v211 q cc gc (fset h 162 0 (.int (nI 0))) si = M0) : v222 q cc gc h si g F = (Int32.ofInt (-2), M0) := by
  have e217 : v217 q cc gc M0 g F = (Int32.ofInt (-2), M0) := by
    unfold v217
    rw [decide_eq_true hg, decide_eq_true hF, eM, nI_clamp (by omega), decide_eq_false (fun z : ¬ F = F => z rfl)]
    rfl
  unfold v222
  rw [e, e217]
  dsimp only
  rw [v213_lt n2_ge]
  dsimp only
  rw [n2_lt]
  rfl
theorem v96_two {g F : Nat} (hg : g < gc) (hF : F < cc) (eX : Ar h 17 g = nI F) : v96 q cc gc h fi si g F = (Int32.ofInt (-2), h) := by
  have ev : v136 q cc gc (Ar h 17) g F = Int32.ofInt (-2) := by
    unfold v136
    rw [decide_eq_true hg, decide_eq_true hF, eX, ne_ff]
    rfl
  unfold v96
  rw [ev, n2_ge]
  rfl
theorem v96_good {g c F : Nat} (hc : HC q cc gc h) (hg : g < gc) (hcc : c < cc) (hF : F < cc) (eX : Ar h 17 g = nI F) (hn : F ≠ c) (hsi : si ≤ 15) (e1 : Fi h 25 1 = nI fi) (e2 : Fi h 25 2 = nI si) : ∃ H A B, XP q cc gc fi si h H ∧ v96 q cc gc h fi si g c = (Ar (v40 q cc gc (v39 q cc gc H g c).2 g c (v39 q cc gc H g c).1) 15 (c * 6 + F), v56 q cc gc (v40 q cc gc (v39 q cc gc H g c).2 g c (v39 q cc gc H g c).1) A B) := by
  have h6 := hc.cb
  have ev : v136 q cc gc (Ar h 17) g c = nI 0 := by
    unfold v136
    rw [decide_eq_true hg, decide_eq_true hcc, eX, ne_tt (fun z => hn (nI_ij (by omega) (by omega) z))]
    rfl
  unfold v96
  rw [ev, z0_ge, eX, nI_clamp (by omega)]
  by_cases z15 : 15 ≤ si
  · rw [decide_eq_true z15]
    exact ⟨_, _, _, xp_1 hc z15 hsi e2, rfl⟩
  · rw [decide_eq_false z15]
    exact ⟨_, _, _, xp_0 hc z15 e1, rfl⟩
theorem sr_send (pr : prun sl 96 222 [x, y] h h1 h2 v w) (hI : mInv h) (s : SR h) : v = w ∧ SR h2 := by
  obtain ⟨⟨m1, r1⟩, ⟨f1, i1⟩, ⟨m2, r2⟩, -, -⟩ := pr
  obtain ⟨q, cc, gc, fi, si, hc, s, hfi, hsi, e1, e2, e3, pa⟩ := SR_open s
  have hP := ref_put hc s hfi hsi e1 e2 e3 pa
  have h6 := hc.cb
  have h8 := hc.gb
  cases zx : cB gc x with
  | false =>
    have a1 := v96w1_ok hc zx r1
    cases a1
    obtain ⟨a2, -, -⟩ := v222w1_ok hc zx hsi e3 r2
    cases a2
    exact ⟨rfl, hP⟩
  | true =>
    cases zy : cB cc y with
    | false =>
      have a1 := v96w2_ok hc zx zy r1
      cases a1
      obtain ⟨a2, -, -⟩ := v222w2_ok hc zx zy hsi e3 r2
      cases a2
      exact ⟨rfl, hP⟩
    | true =>
      obtain ⟨g, hg, rfl⟩ := cB_iv zx
      obtain ⟨c, hcc, rfl⟩ := cB_iv zy
      obtain ⟨F, hF, eF, eX⟩ := snd_hold s hg
      obtain ⟨a1, c1, -⟩ := v96_ok hc (by omega) (by omega) hfi hsi e1 e2 (na_17 hI.1) r1
      by_cases hn : F = c
      · subst hn
        have eM : Ar (v211 q cc gc (fset h 162 0 (.int (nI 0))) si) 170 (78 + g) = nI F := (congrFun (v211_ar.1.trans Ar_f) _).trans eF
        have e222 := v222_two (q := q) (h := h) (si := si) hg hF h6 eM rfl
        rw [v96_two hg hF eX] at a1
        cases a1
        obtain ⟨a2, -, -⟩ := v222_ok hc (by omega) (by omega) hsi e3 (na_170 i1.1) r2
        rw [e222] at a2
        cases a2
        exact ⟨rfl, hP⟩
      · obtain ⟨H, A, B, xp, e96⟩ := v96_good hc hg hcc hF eX hn hsi e1 e2
        rw [e96] at a1 c1
        have a1 : (some (.int v), h1, 198, sl) = ((some (.int (Ar (v40 q cc gc (v39 q cc gc H g c).2 g c (v39 q cc gc H g c).1) 15 (c * 6 + F))), v56 q cc gc (v40 q cc gc (v39 q cc gc H g c).2 g c (v39 q cc gc H g c).1) A B, 198, sl) : pm_Rs) := a1
        injection a1 with b1 b2
        injection b1 with b1
        injection b1 with b1
        injection b2 with b2 b3
        have c1 : HC q cc gc h1 := by
          rw [b2]
          exact c1
        have e3' : Fi h1 162 27 = nI si := (Fi_e (f1.1 162 rfl)).trans e3
        obtain ⟨a2, c2, -⟩ := v222_ok c1 (by omega) (by omega) hsi e3' (na_170 i1.1) r2
        obtain ⟨n1, n2⟩ := snd_sr hc s hfi hsi pa xp hg hcc hF eF hn b2 c2
        injection a2 with d1 d2
        injection d1 with d1
        injection d1 with d1
        injection d2 with d2 d3
        rw [d1, d2, b1]
        exact ⟨n2.symm, n1⟩
/-- envoy -/
theorem env_in {m : Int32} {a b : Nat} (zp : pP cc (nI a) (nI b) = true) : v137 q cc gc a b m = !(in_b m.toInt64 (-9 : Int64) (9 : Int64) && pm_cmp .ne m 0) := by
  have d1 : decide (m.toInt64 < (-9 : Int64)) = pm_cmp .lt m (Int32.ofInt (-9)) := by
    refine decide_eq_decide.mpr ?_
    rw [Int64.lt_iff_toInt_lt, Int32.lt_iff_toInt_lt, Int32.toInt_toInt64, show (-9 : Int64).toInt = -9 by decide, show (Int32.ofInt (-9)).toInt = -9 by decide]
  have d2 : decide ((9 : Int64) < m.toInt64) = pm_cmp .gt m (nI 9) := by
    refine decide_eq_decide.mpr ?_
    show _ ↔ nI 9 < m
    rw [Int64.lt_iff_toInt_lt, Int32.lt_iff_toInt_lt, Int32.toInt_toInt64, show (9 : Int64).toInt = 9 by decide, show (nI 9).toInt = 9 by decide]
  unfold v137 in_b
  rw [zp, d1, d2]
  cases pm_cmp .lt m (Int32.ofInt (-9)) <;> cases pm_cmp .gt m (nI 9) <;> cases pm_cmp .ne m 0 <;> rfl
theorem v98_good {a b : Nat} {m : Int32} (hc : HC q cc gc h) (e : v137 q cc gc a b m = false) (hsi : si ≤ 15) (e1 : Fi h 25 1 = nI fi) (e2 : Fi h 25 2 = nI si) : ∃ H, XP q cc gc fi si h H ∧ v98 q cc gc h fi si a b m = (Ar (v138 q cc gc H a b m) 15 (a * 6 + b), v138 q cc gc H a b m) := by
  unfold v98
  rw [e]
  by_cases z15 : 15 ≤ si
  · rw [decide_eq_true z15]
    exact ⟨_, xp_1 hc z15 hsi e2, rfl⟩
  · rw [decide_eq_false z15]
    exact ⟨_, xp_0 hc z15 e1, rfl⟩
theorem v224_one {M0 : pm_H} {a b : Nat} {m : Int32} (zp : pP cc (nI a) (nI b) = true) (zi : (in_b m.toInt64 (-9 : Int64) (9 : Int64) && pm_cmp .ne m 0) = false) (e : v211 q cc gc (fset h 162 0 (.int (nI 0))) si = M0) : v224 q cc gc h si a b m = (Int32.ofInt (-1), M0) := by
  have e220 : v220 q cc gc M0 a b m = (Int32.ofInt (-1), M0) := by
    unfold v220
    rw [zp]
    cases z1 : in_b m.toInt64 (-9 : Int64) (9 : Int64) with
    | false => rfl
    | true =>
      rw [z1, Bool.true_and] at zi
      rw [zi]
      rfl
  unfold v224
  rw [e, e220]
  dsimp only
  rw [v213_lt n1_ge]
theorem sr_envoy (pr : prun sl 98 224 [x, y, z] h h1 h2 v w) (s : SR h) : v = w ∧ SR h2 := by
  obtain ⟨⟨m1, r1⟩, ⟨f1, i1⟩, ⟨m2, r2⟩, -, -⟩ := pr
  obtain ⟨q, cc, gc, fi, si, hc, s, hfi, hsi, e1, e2, e3, pa⟩ := SR_open s
  have hP := ref_put hc s hfi hsi e1 e2 e3 pa
  have h6 := hc.cb
  cases zp : pP cc x y with
  | false =>
    have a1 := v98w_ok hc zp r1
    cases a1
    obtain ⟨a2, -, -⟩ := v224w_ok hc zp hsi e3 r2
    cases a2
    exact ⟨rfl, hP⟩
  | true =>
    obtain ⟨a, b, ha, hb, hab, rfl, rfl⟩ := pP_iv zp
    obtain ⟨a1, c1, -⟩ := v98_ok hc (by omega) (by omega) hfi hsi e1 e2 r1
    have ei := env_in (q := q) (gc := gc) (m := z) zp
    cases zi : in_b z.toInt64 (-9 : Int64) (9 : Int64) && pm_cmp .ne z 0 with
    | false =>
      rw [zi] at ei
      have e98 : v98 q cc gc h fi si a b z = (Int32.ofInt (-1), h) := by
        unfold v98
        rw [ei]
        rfl
      have e224 := v224_one (q := q) (gc := gc) (h := h) (si := si) zp zi rfl
      rw [e98] at a1
      cases a1
      obtain ⟨a2, -, -⟩ := v224_ok hc (by omega) (by omega) hsi e3 r2
      rw [e224] at a2
      cases a2
      exact ⟨rfl, hP⟩
    | true =>
      rw [zi] at ei
      rw [Bool.and_eq_true] at zi
      obtain ⟨H, xp, e98⟩ := v98_good hc ei hsi e1 e2
      rw [e98] at a1 c1
      have a1 : (some (.int v), h1, 198, sl) = ((some (.int (Ar (v138 q cc gc H a b z) 15 (a * 6 + b))), v138 q cc gc H a b z, 198, sl) : pm_Rs) := a1
      injection a1 with b1 b2
      injection b1 with b1
      injection b1 with b1
      injection b2 with b2 b3
      have e3' : Fi h1 162 27 = nI si := (Fi_e (f1.1 162 rfl)).trans e3
      rw [b2] at e3' r2
      obtain ⟨a2, c2, -⟩ := v224_ok c1 (by omega) (by omega) hsi e3' r2
      obtain ⟨n1, n2⟩ := env_sr hc s hfi hsi pa xp ha hb hab zp zi.1 zi.2 c2
      injection a2 with d1 d2
      injection d1 with d1
      injection d1 with d1
      injection d2 with d2 d3
      rw [d1, d2, b1]
      exact ⟨n2.symm, n1⟩
/-- forgive -/
theorem v99_good {a b : Nat} (hc : HC q cc gc h) (e : v139 q cc gc (Ar h 16) a b = nI 0) (hsi : si ≤ 15) (e1 : Fi h 25 1 = nI fi) (e2 : Fi h 25 2 = nI si) : ∃ H, XP q cc gc fi si h H ∧ v99 q cc gc h fi si a b = (Ar H 16 (a * 6 + b), aset H 16 36 (upd (Ar H 16) (a * 6 + b) (nI 0))) := by
  have k : ∀ H, XP q cc gc fi si h H → Ar H 16 = Ar h 16 := fun H xp => Ar_e (xp.1.1 16 (by decide) (by decide))
  unfold v99
  rw [e, z0_ge]
  by_cases z15 : 15 ≤ si
  · rw [decide_eq_true z15]
    have xp := xp_1 (fi := fi) hc z15 hsi e2
    refine ⟨_, xp, ?_⟩
    rw [k _ xp]
    rfl
  · rw [decide_eq_false z15]
    have xp := xp_0 (fi := fi) hc z15 e1
    refine ⟨_, xp, ?_⟩
    rw [k _ xp]
    rfl
theorem sr_forgive (pr : prun sl 99 225 [x, y] h h1 h2 v w) (s : SR h) : v = w ∧ SR h2 := by
  obtain ⟨⟨m1, r1⟩, ⟨f1, i1⟩, ⟨m2, r2⟩, -, -⟩ := pr
  obtain ⟨q, cc, gc, fi, si, hc, s, hfi, hsi, e1, e2, e3, pa⟩ := SR_open s
  have hP := ref_put hc s hfi hsi e1 e2 e3 pa
  have h6 := hc.cb
  cases zp : pP cc x y with
  | false =>
    have a1 := v99w_ok hc zp r1
    cases a1
    obtain ⟨a2, -, -⟩ := v225w_ok hc zp hsi e3 r2
    cases a2
    exact ⟨rfl, hP⟩
  | true =>
    obtain ⟨a, b, ha, hb, hab, rfl, rfl⟩ := pP_iv zp
    obtain ⟨a1, c1, -⟩ := v99_ok hc (by omega) (by omega) hfi hsi e1 e2 r1
    have e16 : Ar h 16 (a * 6 + b) = Ar h 170 (42 + 6 * a + b) := s.2.1.1.2.2.1 a b (by omega) (by omega)
    cases zm : pm_cmp .ne (Ar h 16 (a * 6 + b)) 0 with
    | false =>
      have z0 : Ar h 16 (a * 6 + b) = nI 0 := by
        have z : ¬ (Ar h 16 (a * 6 + b) ≠ 0) := of_decide_eq_false zm
        exact Decidable.not_not.mp z
      have e139 : v139 q cc gc (Ar h 16) a b = Int32.ofInt (-2) := by
        unfold v139
        rw [zp, zm]
        rfl
      have e99 : v99 q cc gc h fi si a b = (Int32.ofInt (-2), h) := by
        unfold v99
        rw [e139, n2_ge]
        rfl
      have cF : HC q cc gc (fset h 162 0 (.int (nI 0))) := hc_f rfl rfl (by decide) rfl hc
      obtain ⟨c0, g0⟩ := v211_fr (u := si) cF hsi
      obtain ⟨p1, p2, p3⟩ := v211_ar (q := q) (cc := cc) (gc := gc) (h := fset h 162 0 (.int (nI 0))) (u := si)
      have eM : Ar (v211 q cc gc (fset h 162 0 (.int (nI 0))) si) 170 (42 + 6 * a + b) = nI 0 := (congrFun (p1.trans Ar_f) _).trans (e16.symm.trans z0)
      have e225 : v225 q cc gc h si a b = (Int32.ofInt (-2), aset (v211 q cc gc (fset h 162 0 (.int (nI 0))) si) 170 96 (upd (Ar (v211 q cc gc (fset h 162 0 (.int (nI 0))) si) 170) (42 + 6 * a + b) (nI 0))) := by
        unfold v225
        have e221 : v221 q cc gc (v211 q cc gc (fset h 162 0 (.int (nI 0))) si) a b = (Int32.ofInt (-2), aset (v211 q cc gc (fset h 162 0 (.int (nI 0))) si) 170 96 (upd (Ar (v211 q cc gc (fset h 162 0 (.int (nI 0))) si) 170) (42 + 6 * a + b) (nI 0))) := by
          unfold v221
          rw [zp, eM, show pm_cmp .ne (nI 0) 0 = false by decide]
          rfl
        rw [e221]
        dsimp only
        rw [v213_lt n2_ge]
      have hQ : SR (aset (v211 q cc gc (fset h 162 0 (.int (nI 0))) si) 170 96 (upd (Ar (v211 q cc gc (fset h 162 0 (.int (nI 0))) si) 170) (42 + 6 * a + b) (nI 0))) := by
        refine ref_sr (W := [162, 170, 178]) (V := [(162, 0)]) hc s hfi hsi e1 e2 e3 pa (hc_a rfl rfl c0) (fr_a rfl rfl (fr_g rfl rfl g0 (fr_f rfl rfl fr_0))) (by decide +kernel) ?_ (fun x hx => ?_)
        · rw [Ar_s, up_id eM, p1, Ar_f]
        · rw [Ar_n (by decide), p3 x (Or.inl hx), Ar_f]
      rw [e99] at a1
      cases a1
      obtain ⟨a2, -, -⟩ := v225_ok hc (by omega) (by omega) hsi e3 r2
      rw [e225] at a2
      cases a2
      exact ⟨rfl, hQ⟩
    | true =>
      have e139 : v139 q cc gc (Ar h 16) a b = nI 0 := by
        unfold v139
        rw [zp, zm]
        rfl
      obtain ⟨H, xp, e99⟩ := v99_good hc e139 hsi e1 e2
      have eH : Ar H 16 = Ar h 16 := Ar_e (xp.1.1 16 (by decide) (by decide))
      rw [e99] at a1 c1
      have a1 : (some (.int v), h1, 198, sl) = ((some (.int (Ar H 16 (a * 6 + b))), aset H 16 36 (upd (Ar H 16) (a * 6 + b) (nI 0)), 198, sl) : pm_Rs) := a1
      injection a1 with b1 b2
      injection b1 with b1
      injection b1 with b1
      injection b2 with b2 b3
      have e3' : Fi h1 162 27 = nI si := (Fi_e (f1.1 162 rfl)).trans e3
      rw [b2] at e3' r2
      obtain ⟨a2, c2, -⟩ := v225_ok c1 (by omega) (by omega) hsi e3' r2
      obtain ⟨n1, n2⟩ := fgv_sr hc s hfi hsi pa xp ha hb zp (by rw [eH]; exact zm) c2
      injection a2 with d1 d2
      injection d1 with d1
      injection d1 with d1
      injection d2 with d2 d3
      rw [d1, d2, b1]
      exact ⟨n2.symm, n1⟩
/-- months -/
theorem mon_inb : in_b x.toInt64 (Int64.ofNat 0) (60 : Int64) = (!pm_cmp .lt x 0 && pm_cmp .le x (nI 60)) := by
  have d1 : decide (x.toInt64 < Int64.ofNat 0) = pm_cmp .lt x 0 := by
    refine decide_eq_decide.mpr ?_
    rw [Int64.lt_iff_toInt_lt, Int32.lt_iff_toInt_lt, Int32.toInt_toInt64, show (Int64.ofNat 0).toInt = 0 by decide, show (0 : Int32).toInt = 0 by decide]
  have d2 : (!decide ((60 : Int64) < x.toInt64)) = pm_cmp .le x (nI 60) := by
    rw [show pm_cmp .le x (nI 60) = decide (x ≤ nI 60) from rfl, Bool.eq_iff_iff, Bool.not_eq_true', decide_eq_false_iff_not, decide_eq_true_iff, Int64.lt_iff_toInt_lt, Int32.le_iff_toInt_le, Int32.toInt_toInt64, show (60 : Int64).toInt = 60 by decide, show (nI 60).toInt = 60 by decide]
    omega
  unfold in_b
  rw [d1, d2]
theorem v97_good {m : Nat} (hc : HC q cc gc h) (hm : m ≤ 60) (hsi : si ≤ 15) (e1 : Fi h 25 1 = nI fi) (e2 : Fi h 25 2 = nI si) : ∃ H A B, XP q cc gc fi si h H ∧ v97 q cc gc h fi si m = (v270 q cc gc ((Fi (v140 q cc gc H m) 13 5) &&& ((Fi h 13 5) ^^^ (Int32.ofInt (-1)))), v56 q cc gc (v140 q cc gc H m) A B) := by
  unfold v97
  rw [decide_eq_true hm]
  by_cases z15 : 15 ≤ si
  · rw [decide_eq_true z15]
    exact ⟨_, _, _, xp_1 hc z15 hsi e2, rfl⟩
  · rw [decide_eq_false z15]
    exact ⟨_, _, _, xp_0 hc z15 e1, rfl⟩
theorem sr_months (pr : prun sl 97 223 [x] h h1 h2 v w) (s : SR h) : v = w ∧ SR h2 := by
  obtain ⟨⟨m1, r1⟩, ⟨f1, i1⟩, ⟨m2, r2⟩, -, -⟩ := pr
  obtain ⟨q, cc, gc, fi, si, hc, s, hfi, hsi, e1, e2, e3, pa⟩ := SR_open s
  have hP := ref_0 hc s hfi hsi e1 e2 e3 pa
  have ei := mon_inb (x := x)
  cases z1 : pm_cmp .lt x 0 with
  | true =>
    rw [z1] at ei
    have a1 := v97w1_ok hc z1 r1
    cases a1
    obtain ⟨a2, -, -⟩ := v223w_ok hc ei r2
    cases a2
    exact ⟨rfl, hP⟩
  | false =>
    cases z2 : pm_cmp .le x (nI 60) with
    | false =>
      rw [z1, z2] at ei
      have a1 := v97w2_ok hc z1 z2 r1
      cases a1
      obtain ⟨a2, -, -⟩ := v223w_ok hc ei r2
      cases a2
      exact ⟨rfl, hP⟩
    | true =>
      rw [z1, z2] at ei
      have y1 : ¬ x < 0 := of_decide_eq_false z1
      have y2 : x ≤ nI 60 := of_decide_eq_true z2
      rw [Int32.lt_iff_toInt_lt, show (0 : Int32).toInt = 0 by decide] at y1
      rw [Int32.le_iff_toInt_le, show (nI 60).toInt = 60 by decide] at y2
      obtain ⟨m, rfl, hm, em⟩ := hI_of (x := x) (by omega)
      have hm : m ≤ 60 := by omega
      obtain ⟨a1, c1, -⟩ := v97_ok hc (by omega) hfi hsi e1 e2 r1
      obtain ⟨H, A, B, xp, e97⟩ := v97_good hc hm hsi e1 e2
      rw [e97] at a1 c1
      have a1 : (some (.int v), h1, 198, sl) = ((some (.int (v270 q cc gc ((Fi (v140 q cc gc H m) 13 5) &&& ((Fi h 13 5) ^^^ (Int32.ofInt (-1)))))), v56 q cc gc (v140 q cc gc H m) A B, 198, sl) : pm_Rs) := a1
      injection a1 with b1 b2
      injection b1 with b1
      injection b1 with b1
      injection b2 with b2 b3
      have c1 : HC q cc gc h1 := by
        rw [b2]
        exact c1
      have e3' : Fi h1 162 27 = nI si := (Fi_e (f1.1 162 rfl)).trans e3
      obtain ⟨a2, c2, -⟩ := v223_ok c1 (by omega) hsi e3' r2
      obtain ⟨n1, n2⟩ := mon_sr hc s hfi hsi pa xp ei b2 c2
      injection a2 with d1 d2
      injection d1 with d1
      injection d1 with d1
      injection d2 with d2 d3
      rw [d1, d2, b1]
      exact ⟨n2.symm, n1⟩
/-- undo -/
theorem sr_undo (pr : prun sl 101 214 [] h h1 h2 v w) (s : SR h) : v = w ∧ SR h2 := by
  obtain ⟨⟨m1, r1⟩, ⟨f1, i1⟩, ⟨m2, r2⟩, -, -⟩ := pr
  obtain ⟨q, cc, gc, fi, si, hc, s, hfi, hsi, e1, e2, e3, pa⟩ := SR_open s
  have hP := ref_0 hc s hfi hsi e1 e2 e3 pa
  obtain ⟨a1, c1, -⟩ := v101_ok hc hfi hsi e1 e2 r1
  have e3' : Fi h1 162 27 = nI si := (Fi_e (f1.1 162 rfl)).trans e3
  by_cases z : si = 0
  · have e101 : v101 q cc gc h fi si = (Int32.ofInt (-1), h) := by
      unfold v101
      rw [decide_eq_false (fun y : ¬ si = 0 => y z)]
      rfl
    have e214 : v214 q cc gc h si = (Int32.ofInt (-1), fset h 162 0 (.int (nI 0))) := by
      unfold v214
      rw [decide_eq_false (fun y : ¬ si = 0 => y z)]
      rfl
    rw [e101] at a1
    cases a1
    obtain ⟨a2, -, -⟩ := v214_ok hc hsi e3 r2
    rw [e214] at a2
    cases a2
    exact ⟨rfl, hP⟩
  · obtain ⟨n1, n2, n3⟩ := und_sr hc s hfi hsi z e1 pa
    have a1 : (some (.int v), h1, 198, sl) = ((some (.int (v101 q cc gc h fi si).1), (v101 q cc gc h fi si).2, 198, sl) : pm_Rs) := a1
    injection a1 with b1 b2
    injection b1 with b1
    injection b1 with b1
    injection b2 with b2 b3
    rw [b2] at e3' r2
    obtain ⟨a2, c2, -⟩ := v214_ok c1 hsi e3' r2
    injection a2 with d1 d2
    injection d1 with d1
    injection d1 with d1
    injection d2 with d2 d3
    rw [d1, d2, b1, n2, n3]
    exact ⟨rfl, n1⟩
end ACO
end MG95zzzaax1
section MG95zzzaax2
/-! SR behind new COURTS and new GIFTS -/
section CGS
variable {sl cc gc cc' gc' fi si n0 r N : Nat} {q : QT} {h h1 h2 X M Z : pm_H} {v w x : Int32}
theorem nI_le0 (hr : r < 2 ^ 31) (e : pm_cmp .le (nI r) 0 = true) : r = 0 := by
  have e : nI r ≤ 0 := of_decide_eq_true e
  rw [Int32.le_iff_toInt_le, nI_toInt hr, show (0 : Int32).toInt = 0 by decide] at e
  omega
theorem nI_ge0 (hr : r < 2 ^ 31) (e : pm_cmp .ge (nI r) 0 = false) : False := by
  have e : ¬ (0 : Int32) ≤ nI r := of_decide_eq_false e
  rw [Int32.le_iff_toInt_le, nI_toInt hr, show (0 : Int32).toInt = 0 by decide] at e
  omega
theorem li_text (hI : LI5 h) : ∃ n0 : Nat, n0 ≤ 80 ∧ Fi h 1 1 = nI n0 ∧ Fi h 162 15 = nI n0 ∧ ∀ j, j < n0 → Ar h 2 j = Ar h 172 j := by
  obtain ⟨-, ⟨n0, cc, f0, g0, hn, hc, ⟨⟨⟨gs, a1, a2, a3⟩, a4⟩, -⟩, ⟨⟨fs, b1, b2⟩, b3, -⟩, hjj⟩, -⟩ := hI
  refine ⟨n0, hn, ?_, ?_, fun j hj => ?_⟩
  · unfold Fi
    rw [a1]
    dsimp only
    rw [a3]
  · unfold Fi
    rw [b1]
    dsimp only
    rw [b2]
  · unfold Ar
    rw [a4, b3]
    exact hjj j hj
theorem li_cc (hI : LI5 h) : Fi h 162 3 = Fi h 5 0 ∧ Fi h 162 4 = Fi h 5 1 := by
  obtain ⟨-, ⟨n0, cc, f0, g0, hn, hc, ⟨-, ⟨rs, x2, x3⟩⟩, ⟨-, -, ⟨ms, y3, y4⟩⟩, -⟩, gc, hg, ⟨rg, z1, z2⟩, ⟨mg, z3, z4⟩⟩ := hI
  unfold Fi
  refine ⟨?_, ?_⟩
  · rw [y3, x2]
    dsimp only
    rw [y4, x3]
  · rw [z3, z1]
    dsimp only
    rw [z4, z2]
theorem HC_n (hc : HC q cc gc h) (w : WT h2) (a : Fi h2 5 0 = nI cc') (b : Fi h2 5 1 = nI gc') (c : Fi h2 162 3 = nI cc') (d : Fi h2 162 4 = nI gc') (e : Fi h2 162 23 = Fi h 162 23) (f : ∀ r, r = 142 ∨ r = 145 → Fi h2 r 1 = Fi h r 1) (k8 : k0f 8 h h2) (h6 : cc' ≤ 6) (h8 : gc' ≤ 8) : HC q cc' gc' h2 := by
  obtain ⟨_, _, ⟨m3, m4, m23, rs⟩, ⟨_, _, b3, b4⟩, ⟨fs, r1, r2⟩, qq⟩ := hc
  obtain ⟨fs', r1', r2'⟩ := k8 fs _ r1 r2
  exact ⟨w, ⟨a, b⟩, ⟨c, d, e.trans m23, (f q.1 qq).trans rs⟩, ⟨h6, h8, b3, b4⟩, ⟨fs', r1', r2'⟩, qq⟩
theorem VR_c {C D : Nat → Int32} (s : VR q cc gc C D) : VR q cc' gc' C D := by
  obtain ⟨V, v0, v1, v2, v3⟩ := s
  exact ⟨V, v0, fun A => v1 A, v2, fun z => ⟨(v3 z).1, fun A => (v3 z).2 A⟩⟩
def stN : List Nat := [27, 33, 39, 45, 51, 57, 63, 69, 75, 81, 87, 93, 99, 105, 111, 117, 124, 130, 136]
def NOC : List Nat := [1, 6, 7, 9, 10, 11, 17, 18, 162, 173]
theorem sN_in : stN.all (fun b => (List.range 6).all (fun j => !(NOC.elem (b + j)))) = true := by decide +kernel
theorem stN_p : ∀ m, m < 16 → stN.elem (27 + 6 * m) = true := by decide +kernel
theorem stN_k : ∀ m, m < 3 → stN.elem (124 + 6 * m) = true := by decide +kernel
/-- nothing came of it: what was read may stand behind what there is -/
theorem SR_no (hc : HC q cc gc h) (s : SRq q cc gc h) (w2 : WT h2) (cs : ∀ i, NOC.elem i = false → h2 i = h i) (g2 : ∀ g, (g = 3 ∨ g = 4 ∨ g = 23 ∨ g = 27 ∨ g = 47) → Fi h2 162 g = Fi h 162 g) (x6 : ∀ c, c < cc → Ar h2 6 c = Ar h 6 c) (x7 : ∀ j, j < 5 * cc → Ar h2 7 j = Ar h 7 j) (x9 : ∀ j, j < gc → Ar h2 9 j = Ar h 9 j ∧ Ar h2 10 j = Ar h 10 j ∧ Ar h2 11 j = Ar h 11 j ∧ Ar h2 17 j = Ar h 17 j ∧ Ar h2 18 j = Ar h 18 j) : SR h2 := by
  obtain ⟨⟨s4, ⟨fs, o1, o2⟩⟩, ⟨s1, s2⟩, s3, ⟨fi, si, p1, p2, ⟨p3, p4, p5⟩, p6⟩, s6, ⟨m, m1, ⟨m2, m3⟩, m4⟩⟩ := s
  have ar : ∀ a, NOC.elem a = false → Ar h2 a = Ar h a := fun a e => Ar_e (cs a e)
  have c2 : HC q cc gc h2 := HC_n hc w2 ((Fi_e (cs 5 rfl)).trans hc.x0) ((Fi_e (cs 5 rfl)).trans hc.x1) ((g2 3 (by decide)).trans hc.m3) ((g2 4 (by decide)).trans hc.m4) (g2 23 (by decide)) (fun r hr => Fi_e (cs r (by rcases hr with rfl | rfl <;> rfl))) (fun fs p e1 e2 => ⟨fs, (cs 0 rfl).trans e1, e2⟩) hc.cb hc.gb
  have rsb : ∀ (b : Nat) (r : Nat → Int32), stN.elem b = true → RSb cc gc b h r → RSb cc gc b h2 r := by
    intro b r hb w
    have z := List.all_eq_true.mp sN_in b (List.elem_iff.mp hb)
    refine RSb_e (fun i h3 h4 => cs i ?_) w
    have z := List.all_eq_true.mp z (i - b) (List.mem_range.mpr (by omega))
    rw [show b + (i - b) = i by omega] at z
    exact nel z
  have eq1 : Ar h2 (q.1 + 1) = Ar h (q.1 + 1) := by
    rcases hc.qq with e | e
    · rw [e]
      exact ar 143 rfl
    · rw [e]
      exact ar 146 rfl
  refine ⟨q, cc, gc, c2, ⟨⟨?_, ⟨fs, (cs 0 rfl).trans o1, o2⟩⟩, ⟨⟨?_, ?_⟩, ⟨fun c hcl => ?_, fun g hg => ?_⟩, ⟨fi, si, p1, p2, ⟨(Fi_e (cs 25 rfl)).trans p3, (Fi_e (cs 25 rfl)).trans p4, (g2 27 (by decide)).trans p5⟩, fun j hj => ?_⟩, fun i hi hk => ?_, ⟨m, m1, ⟨(Fi_e (cs 159 rfl)).trans m2, (g2 47 (by decide)).trans m3⟩, fun j hj => ?_⟩⟩⟩⟩
  · rw [ar 174 rfl, eq1]
    exact s4
  · rw [ar 170 rfl]
    obtain ⟨a1, a2, a3, a4, a5, a6, a7⟩ := s1
    exact ⟨fun c hc => (congrFun (ar 14 rfl) c).trans (a1 c hc), fun a b ha hb hn => (congrFun (ar 15 rfl) _).trans (a2 a b ha hb hn), fun a b ha hb => (congrFun (ar 16 rfl) _).trans (a3 a b ha hb), fun j hj => (x9 j hj).2.2.2.1.trans (a4 j hj), fun j hj => (x9 j hj).2.2.2.2.trans (a5 j hj), (Fi_e (cs 13 rfl)).trans a6, (Fi_e (cs 13 rfl)).trans a7⟩
  · rw [ar 170 rfl]
    exact s2
  · obtain ⟨⟨b1, b2⟩, b3⟩ := s3.1 c hcl
    rw [ar 164 rfl, ar 165 rfl]
    exact ⟨⟨(x6 c hcl).trans b1, b2⟩, fun k hk => (x7 _ (by omega)).trans (b3 k hk)⟩
  · obtain ⟨⟨b1, b2⟩, b3, ⟨b4, b5⟩⟩ := s3.2 g hg
    obtain ⟨y1, y2, y3, -, -⟩ := x9 g hg
    rw [ar 166 rfl, ar 167 rfl, ar 168 rfl]
    exact ⟨⟨y1.trans b1, b2⟩, y2.trans b3, ⟨y3.trans b4, b5⟩⟩
  · obtain ⟨q1, q2⟩ := p6 j hj
    rw [ar 178 rfl]
    exact ⟨rsb _ _ (stN_p _ (Nat.mod_lt _ (by decide))) q1, q2⟩
  · rw [Fi_e (cs 0 rfl)] at hk
    obtain ⟨q1, q2⟩ := s6 i hi hk
    rw [ar 196 rfl]
    exact ⟨rsb _ _ (stN_k i hi) q1, q2⟩
  · rw [ar 160 rfl, ar 161 rfl, ar 191 rfl, ar 192 rfl]
    exact m4 j hj
def NEW : List Nat := [0, 1, 5, 6, 7, 9, 10, 11, 14, 15, 17, 18, 25, 162, 164, 165, 166, 167, 168, 169, 170, 173]
/-- something came of it: nothing can be undone, nothing is kept any more -/
theorem SR_new (hc : HC q cc gc h) (s : SRq q cc gc h) (c2 : HC q cc' gc' h2) (cs : ∀ i, NEW.elem i = false → h2 i = h i) (k9 : k0f 9 h h2) (nw : RSb cc' gc' 13 h2 (Ar h2 170) ∧ RI cc' gc' (Ar h2 170)) (rm : RMm cc' gc' h2 h2) (z7 : Fi h2 0 7 = nI 0) (z1 : Fi h2 25 1 = Fi h 25 1) (z2 : Fi h2 25 2 = nI 0) (z27 : Fi h2 162 27 = nI 0) (z47 : Fi h2 162 47 = Fi h 162 47) : SR h2 := by
  obtain ⟨⟨s4, ⟨fs, o1, o2⟩⟩, -, -, ⟨fi, si, p1, p2, ⟨p3, p4, p5⟩, p6⟩, s6, ⟨m, m1, ⟨m2, m3⟩, m4⟩⟩ := s
  have ar : ∀ a, NEW.elem a = false → Ar h2 a = Ar h a := fun a e => Ar_e (cs a e)
  have eq1 : Ar h2 (q.1 + 1) = Ar h (q.1 + 1) := by
    rcases hc.qq with e | e
    · rw [e]
      exact ar 143 rfl
    · rw [e]
      exact ar 146 rfl
  refine ⟨q, cc', gc', c2, ⟨⟨?_, k9 fs _ o1 o2⟩, ⟨nw, rm, ⟨fi, 0, p1, Nat.zero_le _, ⟨z1.trans p3, z2, z27⟩, fun j hj => absurd hj (Nat.not_lt_zero j)⟩, fun i hi hk => ?_, ⟨m, m1, ⟨(Fi_e (cs 159 rfl)).trans m2, z47.trans m3⟩, fun j hj => ?_⟩⟩⟩⟩
  · rw [ar 174 rfl, eq1]
    exact VR_c s4
  · rw [z7, kf_0 i hi] at hk
    cases hk
  · rw [ar 160 rfl, ar 161 rfl, ar 191 rfl, ar 192 rfl]
    exact m4 j hj
theorem k0_f7 {g : Nat} {y : Value} (e : Z 0 = h 0) (hg : g ≠ 7) : k0f g h (fset Z 0 7 y) := by
  intro fs p e1 e2
  refine ⟨fs.set 7 y, ?_, ?_⟩
  · unfold fset
    rw [show va_up Z 0 _ 0 = _ from if_pos rfl, e, e1]
  · rw [List.getElem?_set_ne (fun z => hg z.symm)]
    exact e2
theorem k0_e {g : Nat} (e : h2 0 = h1 0) (k : k0f g h h1) : k0f g h h2 := fun fs p e1 e2 => by
  obtain ⟨fs', a, b⟩ := k fs p e1 e2
  exact ⟨fs', e.trans a, b⟩
theorem w190_0 (hw : WT M) : (∀ i, i ≠ 162 → w190 q cc gc M 0 i = M i) ∧ ∀ g, g ≠ 5 → Fi (w190 q cc gc M 0) 162 g = Fi M 162 g := by
  unfold w190
  refine ⟨fun i hi => (fs_ne hi).trans (fs_ne hi), fun g hg => (Fi_n (Or.inr hg)).trans ?_⟩
  by_cases y : g = 27
  · rw [y]
    exact Fi_s hw (by decide) rfl (by decide) rfl
  · exact Fi_n (Or.inr y)
/-- courts of the class: its fields -/
theorem w88_heap {c : Nat} (hN : 1 ≤ N) : (w88 q cc gc X N c).2 = fset (fset (w88_19 q cc gc c N N 0 (fset X 1 1 (.int (nI 0)))) 25 2 (.int (nI 0))) 0 7 (.int (nI 0)) := by
  unfold w88
  rw [decide_eq_false (show ¬ N ≤ 0 by omega)]
  rfl
theorem w88_f {c : Nat} (hN : 1 ≤ N) (h6 : c + N ≤ 6) (hw : WT X) (e5 : Fi X 5 0 = nI c) : Fi (w88 q cc gc X N c).2 5 0 = nI (c + N) ∧ Fi (w88 q cc gc X N c).2 25 2 = nI 0 ∧ Fi (w88 q cc gc X N c).2 0 7 = nI 0 ∧ ∀ g, g ≠ 7 → k0f g X (w88 q cc gc X N c).2 := by
  rw [w88_heap hN]
  have w1 : WT (fset X 1 1 (.int (nI 0))) := wt_fs rfl (by decide) rfl hw
  have e51 : Fi (fset X 1 1 (.int (nI 0))) 5 0 = nI c := (Fi_n (Or.inl (by decide))).trans e5
  have z := lp_in (f := fun i a => w88_19b q cc gc a c N i) (P := fun i a => WT a ∧ Fi a 5 0 = nI (c + i)) N 0 (fset X 1 1 (.int (nI 0))) ⟨w1, e51⟩ (fun k a _ hk p => ⟨(w88_19_fb (z5_0 := c) (m1 := N) p.1 h6).1, Fi_s (w132_fr p.1).1 (by decide) rfl (by decide) rfl⟩)
  rw [Nat.zero_add] at z
  have z : WT (w88_19 q cc gc c N N 0 (fset X 1 1 (.int (nI 0)))) ∧ Fi (w88_19 q cc gc c N N 0 (fset X 1 1 (.int (nI 0)))) 5 0 = nI (c + N) := z
  have z3 := (w88_19_fr (q := q) (cc := cc) (gc := gc) (z5_0 := c) (m1 := N) h6 (j := N) (i := 0) w1).2.1 0 rfl
  generalize w88_19 q cc gc c N N 0 (fset X 1 1 (.int (nI 0))) = K at *
  have w2 : WT (fset K 25 2 (.int (nI 0))) := wt_fs rfl (by decide) rfl z.1
  refine ⟨(Fi_n (Or.inl (by decide))).trans ((Fi_n (Or.inl (by decide))).trans z.2), (Fi_n (Or.inl (by decide))).trans (Fi_s z.1 (by decide) rfl (by decide) rfl), Fi_s w2 (by decide) rfl (by decide) rfl, fun g hg => k0_f7 ?_ hg⟩
  exact (fs_ne (by decide)).trans (z3.trans (fs_ne (by decide)))
theorem w188_27 {c : Nat} {F x1 x2 x3 : Int32} (hw : WT M) (h6 : c + r ≤ 6) (hr : 1 ≤ r) : Fi (w188 q cc gc M r c F x1 x2 x3).2 162 27 = nI 0 := by
  unfold w188 w190
  rw [decide_eq_false (show ¬ r ≤ 0 by omega)]
  exact (Fi_n (Or.inr (by decide))).trans (Fi_s (w188_81_fr (z162_20 := r) (z162_3 := c) h6 hw).1 (by decide) rfl (by decide) rfl)
theorem w192_27 {c : Nat} {F x1 x2 x3 : Int32} (hw : WT M) (h8 : c + r ≤ 8) (hr : 1 ≤ r) : Fi (w192 q cc gc M r c F x1 x2 x3).2 162 27 = nI 0 := by
  unfold w192 w190
  rw [decide_eq_false (show ¬ r ≤ 0 by omega)]
  exact (Fi_n (Or.inr (by decide))).trans (Fi_s (w192_81_fr (z162_20 := r) (z162_4 := c) h8 hw).1 (by decide) rfl (by decide) rfl)
/-- courts -/
theorem sr_courts (pr : prun sl 88 188 [] h h1 h2 v w) (hI : LI5 h) (s : SR h) : v = w ∧ SR h2 := by
  obtain ⟨evw, hI2⟩ := two_get (vs := []) (co_two5 hI) pr
  obtain ⟨⟨m1, r1⟩, ⟨f1, i1⟩, ⟨m2, r2⟩, lo2, i2⟩ := pr
  subst evw
  refine ⟨rfl, ?_⟩
  obtain ⟨q, cc, gc, fi, si, hc, s, hfi, hsi, e1, e2, e3, pa⟩ := SR_open s
  obtain ⟨n0, hn, t1, t15, hjj⟩ := li_text hI
  have h6 := hc.cb
  have hx : ∀ a, Nat.ble 162 a = true → h1 a = h a := fun a ha => f1.1 a ha
  have x162 : ∀ g, Fi h1 162 g = Fi h 162 g := fun g => Fi_e (hx 162 rfl)
  obtain ⟨X, wX, fX, v0, xr⟩ := cx88 (q := q) (cq := cc) (gc := gc) hn hc.cb hc.wt t1 hc.x0 r1
  obtain ⟨M, r, wM, fM, gM, hr, mr⟩ := cv_run (q := q) (cq := cc) (gc := gc) hn hc.cb (wt_of i1.1) ((x162 15).trans t15) ((x162 3).trans hc.m3) r2
  have no : h1 = fset X 1 1 (.int (nI 0)) → (∀ i, i ≠ 162 → h2 i = M i) → (∀ g, g ≠ 5 → Fi h2 162 g = Fi M 162 g) → SR h2 := by
    intro y1 y2 y3
    have cs : ∀ i, NOC.elem i = false → h2 i = h i := by
      intro i hi
      have ne : ∀ k, NOC.elem k = true → i ≠ k := fun k hk e => by
        rw [e, hk] at hi
        cases hi
      rw [y2 i (ne 162 rfl), fM i (ne 162 rfl) (ne 173 rfl), y1, fs_ne (ne 1 rfl), fX i (ne 6 rfl) (ne 7 rfl)]
    have cx : ∀ i, i < 162 → i ≠ 1 → h2 i = X i := fun i hi h0 => by
      rw [lo2 i hi, y1, fs_ne h0]
    refine SR_no hc s (wt_of i2.1) cs (fun g hg => ?_) (fun c hcl => ?_) (fun j hj => ?_) (fun j hj => ?_)
    · rw [y3 g (by omega), gM g (by omega) (by omega) (by omega) (by omega) (by omega) (by omega)]
      exact x162 g
    · rw [Ar_e (cx 6 (by decide) (by decide))]
      exact v0.1.1 c hcl
    · rw [Ar_e (cx 7 (by decide) (by decide))]
      exact v0.1.2 j hj
    · have e : ∀ i, i < 162 → i ≠ 1 → i ≠ 6 → i ≠ 7 → Ar h2 i = Ar h i := fun i a b c d => Ar_e ((cx i a b).trans (fX i c d))
      rw [e 9 (by decide) (by decide) (by decide) (by decide), e 10 (by decide) (by decide) (by decide) (by decide), e 11 (by decide) (by decide) (by decide) (by decide), e 17 (by decide) (by decide) (by decide) (by decide), e 18 (by decide) (by decide) (by decide) (by decide)]
      exact ⟨rfl, rfl, rfl, rfl, rfl⟩
  rcases xr with ⟨v', z1, x1⟩ | ⟨N, hN, hcN, vN, x1, wX', fX'⟩
  · injection x1 with b1 b2
    injection b1 with b1
    injection b1 with b1
    injection b2 with b2 b3
    rcases mr with ⟨F, z2, x2⟩ | ⟨hv, F, y1, y2, y3, x2, wM', fM'⟩
    · injection x2 with d1 d2
      injection d2 with d2 d3
      exact no b2 (fun i _ => by rw [d2]) (fun g _ => by rw [d2])
    · injection x2 with d1 d2
      injection d1 with d1
      injection d1 with d1
      injection d2 with d2 d3
      rw [← b1, d1] at z1
      have r0 := nI_le0 (by omega) z1
      subst r0
      have e : (w188 q cc gc M 0 cc F y1 y2 y3).2 = w190 q cc gc M 0 := rfl
      rw [e] at d2
      obtain ⟨k1, k2⟩ := w190_0 (q := q) (cc := cc) (gc := gc) wM
      exact no b2 (fun i hi => by rw [d2]; exact k1 i hi) (fun g hg => by rw [d2]; exact k2 g hg)
  · injection x1 with b1 b2
    injection b1 with b1
    injection b1 with b1
    injection b2 with b2 b3
    rcases mr with ⟨F, z2, x2⟩ | ⟨hv, F, y1, y2, y3, x2, wM', fM'⟩
    · injection x2 with d1 d2
      injection d1 with d1
      injection d1 with d1
      rw [← d1, b1] at z2
      exact (nI_ge0 (by omega) z2).elim
    · injection x2 with d1 d2
      injection d1 with d1
      injection d1 with d1
      injection d2 with d2 d3
      have hrN : r = N := nI_ij (by omega) (by omega) (d1.symm.trans b1)
      subst hrN
      have X5 : Fi X 5 0 = nI cc := (Fi_e (fX 5 (by decide) (by decide))).trans hc.x0
      obtain ⟨a50, a252, a07, k0⟩ := w88_f (q := q) (cc := cc) (gc := gc) hN hcN wX X5
      have jx := w88_ar (q := q) (cq := cc) (gc := gc) (h := X) hN hcN
      have jm := w188_ar (q := q) (cq := cc) (gc := gc) (h := M) (F := F) (x1 := y1) (x2 := y2) (x3 := y3) hr
      have m27 := w188_27 (q := q) (cc := cc) (gc := gc) (F := F) (x1 := y1) (x2 := y2) (x3 := y3) wM hr hN
      rw [← b2] at a50 a252 a07 k0 jx wX' fX'
      rw [← d2] at jm m27 wM' fM'
      have M170 : Ar M 170 = Ar h 170 := (Ar_e (fM 170 (by decide) (by decide))).trans (Ar_e (hx 170 rfl))
      have M172 : Ar h1 172 = Ar h 172 := Ar_e (hx 172 rfl)
      have s13 : RS cc gc (Ar X 14) (Ar X 15) (Ar h 16) (Ar h 17) (Ar h 18) (Fi h 13 5) (Fi h 13 6) (Ar M 170) := by
        rw [Ar_e (fX 14 (by decide) (by decide)), Ar_e (fX 15 (by decide) (by decide)), M170]
        exact s.2.1.1
      have sri : RI cc gc (Ar M 170) := by
        rw [M170]
        exact s.2.1.2
      obtain ⟨n1, n2, n3⟩ := crt_rel hcN jx jm (f := Ar h 2) (fun k hk => vN.2.1 k hk) (fun k hk j hj => by
        obtain ⟨u1, u2, u3⟩ := hv k hk j hj
        rw [M172] at u1 u2
        have e := hjj (7 * k + j) (by omega)
        rw [← e] at u1 u2
        exact ⟨u1, u2⟩) s13 sri
      -- cells of the class behind the reference's call
      have lo : ∀ i, i < 162 → h2 i = h1 i := lo2
      have hX : ∀ i, i ≠ 0 → i ≠ 1 → i ≠ 5 → i ≠ 14 → i ≠ 15 → i ≠ 25 → h1 i = X i := fun i g1 g2 g3 g4 g5 g6 => fX'.1 i (by
        cases y : List.elem i [0, 1, 5, 14, 15, 25] with
        | false => rfl
        | true =>
          have y := List.elem_iff.mp y
          simp at y
          omega)
      have hM : ∀ i, i ≠ 162 → i ≠ 164 → i ≠ 165 → i ≠ 169 → i ≠ 170 → i ≠ 173 → h2 i = h1 i := fun i g1 g2 g3 g4 g5 g6 => (fM'.1 i (by
        cases y : List.elem i [162, 164, 165, 169, 170] with
        | false => rfl
        | true =>
          have y := List.elem_iff.mp y
          simp at y
          omega)).trans (fM i g1 g6)
      have F50 : Fi h2 5 0 = nI (cc + r) := (Fi_e (lo 5 (by decide))).trans a50
      have F51 : Fi h2 5 1 = nI gc := (Fi_e (lo 5 (by decide))).trans ((fX'.2 5 1 rfl rfl).trans ((Fi_e (fX 5 (by decide) (by decide))).trans hc.x1))
      obtain ⟨l1, l2⟩ := li_cc hI2
      have c2 : HC q (cc + r) gc h2 := HC_n hc (wt_of i2.1) F50 F51 (l1.trans F50) (l2.trans F51) ((fM'.2 162 23 rfl rfl).trans ((gM 23 (by decide) (by decide) (by decide) (by decide) (by decide) (by decide)).trans (x162 23))) (fun p hp => Fi_e (by
        rcases hp with rfl | rfl
        · exact (lo 142 (by decide)).trans ((hX 142 (by decide) (by decide) (by decide) (by decide) (by decide) (by decide)).trans (fX 142 (by decide) (by decide)))
        · exact (lo 145 (by decide)).trans ((hX 145 (by decide) (by decide) (by decide) (by decide) (by decide) (by decide)).trans (fX 145 (by decide) (by decide))))) (k0_e (lo 0 (by decide)) (fun fs p e4 e5 => k0 8 (by decide) fs p ((fX 0 (by decide) (by decide)).trans e4) e5)) hcN hc.gb
      have cs : ∀ i, NEW.elem i = false → h2 i = h i := by
        intro i hi
        have ne : ∀ k, NEW.elem k = true → i ≠ k := fun k hk e => by
          rw [e, hk] at hi
          cases hi
        rw [hM i (ne 162 rfl) (ne 164 rfl) (ne 165 rfl) (ne 169 rfl) (ne 170 rfl) (ne 173 rfl), hX i (ne 0 rfl) (ne 1 rfl) (ne 5 rfl) (ne 14 rfl) (ne 15 rfl) (ne 25 rfl), fX i (ne 6 rfl) (ne 7 rfl)]
      have a6 : ∀ b, b = 6 ∨ b = 7 → Ar h2 b = Ar X b := fun b hb => Ar_e ((lo b (by omega)).trans (hX b (by omega) (by omega) (by omega) (by omega) (by omega) (by omega)))
      have a9 : ∀ b, b = 9 ∨ b = 10 ∨ b = 11 ∨ b = 16 ∨ b = 17 ∨ b = 18 → Ar h2 b = Ar h b := fun b hb => Ar_e ((lo b (by omega)).trans ((hX b (by omega) (by omega) (by omega) (by omega) (by omega) (by omega)).trans (fX b (by omega) (by omega))))
      have a166 : ∀ b, b = 166 ∨ b = 167 ∨ b = 168 → Ar h2 b = Ar h b := fun b hb => Ar_e ((hM b (by omega) (by omega) (by omega) (by omega) (by omega) (by omega)).trans (hx b (by rcases hb with rfl | rfl | rfl <;> rfl)))
      have a164 : ∀ b, b = 164 ∨ b = 165 → Ar M b = Ar h b := fun b hb => Ar_e ((fM b (by omega) (by omega)).trans (hx b (by rcases hb with rfl | rfl <;> rfl)))
      refine SR_new hc s c2 cs (k0_e (lo 0 (by decide)) (fun fs p e4 e5 => k0 9 (by decide) fs p ((fX 0 (by decide) (by decide)).trans e4) e5)) ⟨?_, n2⟩ ⟨fun c hcl => ?_, fun g hg => ?_⟩ ((Fi_e (lo 0 (by decide))).trans a07) ((Fi_e (lo 25 (by decide))).trans ((fX'.2 25 1 rfl rfl).trans (Fi_e (fX 25 (by decide) (by decide))))) ((Fi_e (lo 25 (by decide))).trans a252) m27 ((fM'.2 162 47 rfl rfl).trans ((gM 47 (by decide) (by decide) (by decide) (by decide) (by decide) (by decide)).trans (x162 47)))
      · have e13 : h2 13 = h 13 := cs 13 rfl
        show RS (cc + r) gc (Ar h2 14) (Ar h2 15) (Ar h2 16) (Ar h2 17) (Ar h2 18) (Fi h2 13 5) (Fi h2 13 6) (Ar h2 170)
        rw [Ar_e (lo 14 (by decide)), Ar_e (lo 15 (by decide)), a9 16 (by decide), a9 17 (by decide), a9 18 (by decide), Fi_e e13, Fi_e e13]
        exact n1
      · by_cases y : c < cc
        · obtain ⟨⟨o1, k, o2, o3⟩, o4⟩ := s.2.2.1.1 c y
          have u1 : Ar h2 6 c = Ar h 6 c := (congrFun (a6 6 (by decide)) c).trans (v0.1.1 c y)
          have u2 : Ar h2 164 c = Ar h 164 c := (jm.1.2.2.1 c y).trans (congrFun (a164 164 (by decide)) c)
          refine ⟨⟨?_, k, o2, u2.trans o3⟩, fun j hj => ?_⟩
          · rw [u1, u2]
            exact o1
          · rw [congrFun (a6 7 (by decide)) _, v0.1.2 _ (by omega), jm.1.2.2.2 _ (by omega), congrFun (a164 165 (by decide)) _]
            exact o4 j hj
        · obtain ⟨o1, o2⟩ := n3 (c - cc) (by omega)
          rw [show cc + (c - cc) = c by omega] at o1 o2
          obtain ⟨o1, k, o3, o4⟩ := o1
          refine ⟨⟨(congrFun (a6 6 (by decide)) c).trans o1, k, o3, o4⟩, fun j hj => ?_⟩
          rw [congrFun (a6 7 (by decide)) _]
          exact o2 j hj
      · have o := s.2.2.1.2 g hg
        rw [a9 9 (by decide), a9 10 (by decide), a9 11 (by decide), a166 166 (by decide), a166 167 (by decide), a166 168 (by decide)]
        exact o
/-- gifts of the class: its fields -/
theorem w89_heap {c : Nat} (hN : 1 ≤ N) : (w89 q cc gc X N c).2 = fset (fset (fset (fset X 1 1 (.int (nI 0))) 5 1 (.int (nI (c + N)))) 25 2 (.int (nI 0))) 0 7 (.int (nI 0)) := by
  unfold w89
  rw [decide_eq_false (show ¬ N ≤ 0 by omega)]
  rfl
theorem w89_f {c : Nat} (hN : 1 ≤ N) (hw : WT X) : Fi (w89 q cc gc X N c).2 5 1 = nI (c + N) ∧ Fi (w89 q cc gc X N c).2 25 2 = nI 0 ∧ Fi (w89 q cc gc X N c).2 0 7 = nI 0 ∧ ∀ g, g ≠ 7 → k0f g X (w89 q cc gc X N c).2 := by
  rw [w89_heap hN]
  have w1 : WT (fset X 1 1 (.int (nI 0))) := wt_fs rfl (by decide) rfl hw
  have w2 : WT (fset (fset X 1 1 (.int (nI 0))) 5 1 (.int (nI (c + N)))) := wt_fs rfl (by decide) rfl w1
  have w3 : WT (fset (fset (fset X 1 1 (.int (nI 0))) 5 1 (.int (nI (c + N)))) 25 2 (.int (nI 0))) := wt_fs rfl (by decide) rfl w2
  refine ⟨(Fi_n (Or.inl (by decide))).trans ((Fi_n (Or.inl (by decide))).trans (Fi_s w1 (by decide) rfl (by decide) rfl)), (Fi_n (Or.inl (by decide))).trans (Fi_s w2 (by decide) rfl (by decide) rfl), Fi_s w3 (by decide) rfl (by decide) rfl, fun g hg => k0_f7 ?_ hg⟩
  exact (fs_ne (by decide)).trans ((fs_ne (by decide)).trans (fs_ne (by decide)))
/-- gifts -/
theorem sr_gifts (pr : prun sl 89 192 [] h h1 h2 v w) (hI : LI5 h) (s : SR h) : v = w ∧ SR h2 := by
  obtain ⟨evw, hI2⟩ := two_get (vs := []) (gf_two5 hI) pr
  obtain ⟨⟨m1, r1⟩, ⟨f1, i1⟩, ⟨m2, r2⟩, lo2, i2⟩ := pr
  subst evw
  refine ⟨rfl, ?_⟩
  obtain ⟨q, cc, gc, fi, si, hc, s, hfi, hsi, e1, e2, e3, pa⟩ := SR_open s
  obtain ⟨n0, hn, t1, t15, hjj⟩ := li_text hI
  have h6 := hc.cb
  have h8 := hc.gb
  have hx : ∀ a, Nat.ble 162 a = true → h1 a = h a := fun a ha => f1.1 a ha
  have x162 : ∀ g, Fi h1 162 g = Fi h 162 g := fun g => Fi_e (hx 162 rfl)
  obtain ⟨X, gv0, xr⟩ := gx89 (q := q) (cq := cc) (gc := gc) hn hc.cb hc.gb hc.wt t1 hc.x0 hc.x1 r1
  have wX : WT X := gv0.1.2.2
  have fX := gv0.2.1
  have v0 := gv0.2.2.1
  obtain ⟨M, r, wM, fM, gM, mr⟩ := grun (q := q) (cq := cc) (gc := gc) hn hc.gb (wt_of i1.1) ((x162 15).trans t15) ((x162 3).trans hc.m3) ((x162 4).trans hc.m4) r2
  have no : h1 = fset X 1 1 (.int (nI 0)) → (∀ i, i ≠ 162 → h2 i = M i) → (∀ g, g ≠ 5 → Fi h2 162 g = Fi M 162 g) → SR h2 := by
    intro y1 y2 y3
    have cs : ∀ i, NOC.elem i = false → h2 i = h i := by
      intro i hi
      have ne : ∀ k, NOC.elem k = true → i ≠ k := fun k hk e => by
        rw [e, hk] at hi
        cases hi
      rw [y2 i (ne 162 rfl), fM i (ne 162 rfl) (ne 173 rfl), y1, fs_ne (ne 1 rfl), fX i (ne 9 rfl) (ne 10 rfl) (ne 11 rfl) (ne 17 rfl) (ne 18 rfl)]
    have cx : ∀ i, i < 162 → i ≠ 1 → h2 i = X i := fun i hi h0 => by
      rw [lo2 i hi, y1, fs_ne h0]
    refine SR_no hc s (wt_of i2.1) cs (fun g hg => ?_) (fun c hcl => ?_) (fun j hj => ?_) (fun j hj => ?_)
    · rw [y3 g (by omega), gM g (by omega) (by omega) (by omega) (by omega) (by omega) (by omega)]
      exact x162 g
    · rw [Ar_e ((cx 6 (by decide) (by decide)).trans (fX 6 (by decide) (by decide) (by decide) (by decide) (by decide)))]
    · rw [Ar_e ((cx 7 (by decide) (by decide)).trans (fX 7 (by decide) (by decide) (by decide) (by decide) (by decide)))]
    · rw [Ar_e (cx 9 (by decide) (by decide)), Ar_e (cx 10 (by decide) (by decide)), Ar_e (cx 11 (by decide) (by decide)), Ar_e (cx 17 (by decide) (by decide)), Ar_e (cx 18 (by decide) (by decide))]
      exact v0 j hj
  rcases xr with ⟨v', z1, x1⟩ | ⟨N, hN, hcN, gvN, x1, wX', fX'⟩
  · injection x1 with b1 b2
    injection b1 with b1
    injection b1 with b1
    injection b2 with b2 b3
    rcases mr with ⟨F, z2, x2⟩ | ⟨hr, hv, F, y1, y2, y3, x2, wM', fM'⟩
    · injection x2 with d1 d2
      injection d2 with d2 d3
      exact no b2 (fun i _ => by rw [d2]) (fun g _ => by rw [d2])
    · injection x2 with d1 d2
      injection d1 with d1
      injection d1 with d1
      injection d2 with d2 d3
      rw [← b1, d1] at z1
      have r0 := nI_le0 (by omega) z1
      subst r0
      have e : (w192 q cc gc M 0 gc F y1 y2 y3).2 = w190 q cc gc M 0 := rfl
      rw [e] at d2
      obtain ⟨k1, k2⟩ := w190_0 (q := q) (cc := cc) (gc := gc) wM
      exact no b2 (fun i hi => by rw [d2]; exact k1 i hi) (fun g hg => by rw [d2]; exact k2 g hg)
  · injection x1 with b1 b2
    injection b1 with b1
    injection b1 with b1
    injection b2 with b2 b3
    rcases mr with ⟨F, z2, x2⟩ | ⟨hr, hv, F, y1, y2, y3, x2, wM', fM'⟩
    · injection x2 with d1 d2
      injection d1 with d1
      injection d1 with d1
      rw [← d1, b1] at z2
      exact (nI_ge0 (by omega) z2).elim
    · injection x2 with d1 d2
      injection d1 with d1
      injection d1 with d1
      injection d2 with d2 d3
      have hrN : r = N := nI_ij (by omega) (by omega) (d1.symm.trans b1)
      subst hrN
      obtain ⟨a51, a252, a07, k0⟩ := w89_f (q := q) (cc := cc) (gc := gc) (c := gc) hN wX
      have jm := w192_ar (q := q) (cc := cc) (gc := gc) (h := M) (F := F) (x1 := y1) (x2 := y2) (x3 := y3) hr
      have m27 := w192_27 (q := q) (cc := cc) (gc := gc) (F := F) (x1 := y1) (x2 := y2) (x3 := y3) wM hr hN
      rw [← b2] at a51 a252 a07 k0 wX' fX'
      rw [← d2] at jm m27 wM' fM'
      have M170 : Ar M 170 = Ar h 170 := (Ar_e (fM 170 (by decide) (by decide))).trans (Ar_e (hx 170 rfl))
      have M172 : Ar h1 172 = Ar h 172 := Ar_e (hx 172 rfl)
      have MM : ∀ b, b = 166 ∨ b = 167 ∨ b = 168 → Ar M b = Ar h b := fun b hb => (Ar_e (fM b (by omega) (by omega))).trans (Ar_e (hx b (by rcases hb with rfl | rfl | rfl <;> rfl)))
      rw [M172] at hv
      obtain ⟨n1, n2, n3⟩ := gft_rel h6 hcN gvN jm hv hjj (by rw [M170]; exact s.2.1.1) (by rw [M170]; exact s.2.1.2) (by
        intro j hj
        rw [MM 166 (by decide), MM 167 (by decide), MM 168 (by decide)]
        exact s.2.2.1.2 j hj)
      have lo : ∀ i, i < 162 → h2 i = h1 i := lo2
      have hX : ∀ i, i ≠ 0 → i ≠ 1 → i ≠ 5 → i ≠ 25 → h1 i = X i := fun i g1 g2 g3 g4 => fX'.1 i (by
        cases y : List.elem i [0, 1, 5, 25] with
        | false => rfl
        | true =>
          have y := List.elem_iff.mp y
          simp at y
          omega)
      have hM : ∀ i, i ≠ 162 → i ≠ 166 → i ≠ 167 → i ≠ 168 → i ≠ 170 → i ≠ 173 → h2 i = h1 i := fun i g1 g2 g3 g4 g5 g6 => (fM'.1 i (by
        cases y : List.elem i [162, 166, 167, 168, 170] with
        | false => rfl
        | true =>
          have y := List.elem_iff.mp y
          simp at y
          omega)).trans (fM i g1 g6)
      have X5 : ∀ i, i ≠ 9 → i ≠ 10 → i ≠ 11 → i ≠ 17 → i ≠ 18 → X i = h i := fX
      have F51 : Fi h2 5 1 = nI (gc + r) := (Fi_e (lo 5 (by decide))).trans a51
      have F50 : Fi h2 5 0 = nI cc := (Fi_e (lo 5 (by decide))).trans ((fX'.2 5 0 rfl rfl).trans ((Fi_e (X5 5 (by decide) (by decide) (by decide) (by decide) (by decide))).trans hc.x0))
      obtain ⟨l1, l2⟩ := li_cc hI2
      have c2 : HC q cc (gc + r) h2 := HC_n hc (wt_of i2.1) F50 F51 (l1.trans F50) (l2.trans F51) ((fM'.2 162 23 rfl rfl).trans ((gM 23 (by decide) (by decide) (by decide) (by decide) (by decide) (by decide)).trans (x162 23))) (fun p hp => Fi_e (by
        rcases hp with rfl | rfl
        · exact (lo 142 (by decide)).trans ((hX 142 (by decide) (by decide) (by decide) (by decide)).trans (X5 142 (by decide) (by decide) (by decide) (by decide) (by decide)))
        · exact (lo 145 (by decide)).trans ((hX 145 (by decide) (by decide) (by decide) (by decide)).trans (X5 145 (by decide) (by decide) (by decide) (by decide) (by decide))))) (k0_e (lo 0 (by decide)) (fun fs p e4 e5 => k0 8 (by decide) fs p ((X5 0 (by decide) (by decide) (by decide) (by decide) (by decide)).trans e4) e5)) h6 hcN
      have cs : ∀ i, NEW.elem i = false → h2 i = h i := by
        intro i hi
        have ne : ∀ k, NEW.elem k = true → i ≠ k := fun k hk e => by
          rw [e, hk] at hi
          cases hi
        rw [hM i (ne 162 rfl) (ne 166 rfl) (ne 167 rfl) (ne 168 rfl) (ne 170 rfl) (ne 173 rfl), hX i (ne 0 rfl) (ne 1 rfl) (ne 5 rfl) (ne 25 rfl), X5 i (ne 9 rfl) (ne 10 rfl) (ne 11 rfl) (ne 17 rfl) (ne 18 rfl)]
      have aX : ∀ b, b < 162 → b ≠ 0 → b ≠ 1 → b ≠ 5 → b ≠ 25 → Ar h2 b = Ar X b := fun b g0 g1 g2 g3 g4 => Ar_e ((lo b g0).trans (hX b g1 g2 g3 g4))
      have ah : ∀ b, b < 162 → b ≠ 0 → b ≠ 1 → b ≠ 5 → b ≠ 25 → b ≠ 9 → b ≠ 10 → b ≠ 11 → b ≠ 17 → b ≠ 18 → Ar h2 b = Ar h b := fun b g0 g1 g2 g3 g4 g5 g6 g7 g8 g9 => (aX b g0 g1 g2 g3 g4).trans (Ar_e (X5 b g5 g6 g7 g8 g9))
      have a164 : ∀ b, b = 164 ∨ b = 165 → Ar h2 b = Ar h b := fun b hb => Ar_e ((hM b (by omega) (by omega) (by omega) (by omega) (by omega) (by omega)).trans (hx b (by rcases hb with rfl | rfl <;> rfl)))
      refine SR_new hc s c2 cs (k0_e (lo 0 (by decide)) (fun fs p e4 e5 => k0 9 (by decide) fs p ((X5 0 (by decide) (by decide) (by decide) (by decide) (by decide)).trans e4) e5)) ⟨?_, n2⟩ ⟨fun c hcl => ?_, fun g hg => ?_⟩ ((Fi_e (lo 0 (by decide))).trans a07) ((Fi_e (lo 25 (by decide))).trans ((fX'.2 25 1 rfl rfl).trans (Fi_e (X5 25 (by decide) (by decide) (by decide) (by decide) (by decide))))) ((Fi_e (lo 25 (by decide))).trans a252) m27 ((fM'.2 162 47 rfl rfl).trans ((gM 47 (by decide) (by decide) (by decide) (by decide) (by decide) (by decide)).trans (x162 47)))
      · have e13 : h2 13 = h 13 := cs 13 rfl
        show RS cc (gc + r) (Ar h2 14) (Ar h2 15) (Ar h2 16) (Ar h2 17) (Ar h2 18) (Fi h2 13 5) (Fi h2 13 6) (Ar h2 170)
        rw [ah 14 (by decide) (by decide) (by decide) (by decide) (by decide) (by decide) (by decide) (by decide) (by decide) (by decide), ah 15 (by decide) (by decide) (by decide) (by decide) (by decide) (by decide) (by decide) (by decide) (by decide) (by decide), ah 16 (by decide) (by decide) (by decide) (by decide) (by decide) (by decide) (by decide) (by decide) (by decide) (by decide), aX 17 (by decide) (by decide) (by decide) (by decide) (by decide), aX 18 (by decide) (by decide) (by decide) (by decide) (by decide), Fi_e e13, Fi_e e13]
        exact n1
      · have o := s.2.2.1.1 c hcl
        rw [ah 6 (by decide) (by decide) (by decide) (by decide) (by decide) (by decide) (by decide) (by decide) (by decide) (by decide), ah 7 (by decide) (by decide) (by decide) (by decide) (by decide) (by decide) (by decide) (by decide) (by decide) (by decide), a164 164 (by decide), a164 165 (by decide)]
        exact o
      · have o := n3 g hg
        rw [aX 9 (by decide) (by decide) (by decide) (by decide) (by decide), aX 10 (by decide) (by decide) (by decide) (by decide) (by decide), aX 11 (by decide) (by decide) (by decide) (by decide) (by decide)]
        exact o
end CGS
end MG95zzzaax2
section MG95zzzaax3
/-! sheet, and the questions that write nothing of SR: value, where, swaps, feeds, starves -/
section QSR
variable {sl cc gc g c : Nat} {q : QT} {h h1 h2 hx hm hx' hm' : pm_H} {v w x y k m e s : Int32} {W : List Nat} {V : List (Nat × Nat)}
def srF (W : List Nat) (V : List (Nat × Nat)) : Bool := SA.all (fun a => !(W.elem a)) && (SFs.all (fun p => isO p.1 && !(V.elem p)) && !(W.elem 0))
/-- SRq is kept by what writes nothing of it -/
theorem SR_fr (hc : HC q cc gc h) (s : SRq q cc gc h) (f : frm W V h h1) (k : srF W V = true) : SRq q cc gc h1 := by
  unfold srF at k
  rw [Bool.and_eq_true, Bool.and_eq_true] at k
  obtain ⟨k1, k2, k3⟩ := k
  refine SRq_keep hc.qq (fun a e => Ar_e (f.1 a (nel (List.all_eq_true.mp k1 a (List.elem_iff.mp e))))) (fun c g e => ?_) (fun fs p e1 e2 => ⟨fs, (f.1 0 (nel k3)).trans e1, e2⟩) s
  have z := List.all_eq_true.mp k2 (c, g) (List.elem_iff.mp e)
  rw [Bool.and_eq_true] at z
  exact f.2 c g z.1 (nel2 z.2)
/-- what a gift is worth is the same on both sides -/
def VE (q : QT) (cc gc : Nat) (hx hm : pm_H) : Prop := (HC q cc gc hx ∧ HC q cc gc hm) ∧ VR q cc gc (Ar hx (q.1 + 1)) (Ar hm 174) ∧ RMm cc gc hx hm ∧ RS cc gc (Ar hx 14) (Ar hx 15) (Ar hx 16) (Ar hx 17) (Ar hx 18) (Fi hx 13 5) (Fi hx 13 6) (Ar hm 170) ∧ RI cc gc (Ar hm 170)
theorem VE_0 (hc : HC q cc gc h) (s : SRq q cc gc h) : VE q cc gc h h := ⟨⟨hc, hc⟩, s.1.1, s.2.2.1, s.2.1.1, s.2.1.2⟩
def veX (W : List Nat) : Bool := [6, 7, 9, 10, 11, 13, 14, 15, 16, 17, 18, 143, 146].all (fun a => !(W.elem a))
def veM (W : List Nat) : Bool := [164, 165, 166, 167, 168, 170, 174].all (fun a => !(W.elem a))
theorem VE_x (z : VE q cc gc hx hm) (hc : HC q cc gc hx') (f : frm W V hx hx') (k : veX W = true) : VE q cc gc hx' hm := by
  obtain ⟨⟨z1, z2⟩, z3, z4, z5, z6⟩ := z
  have ce : ∀ a, List.elem a [6, 7, 9, 10, 11, 13, 14, 15, 16, 17, 18, 143, 146] = true → hx' a = hx a := fun a e => f.1 a (nel (List.all_eq_true.mp k a (List.elem_iff.mp e)))
  have eq1 : Ar hx' (q.1 + 1) = Ar hx (q.1 + 1) := by
    rcases z1.qq with e | e
    · rw [e]
      exact Ar_e (ce 143 rfl)
    · rw [e]
      exact Ar_e (ce 146 rfl)
  refine ⟨⟨hc, z2⟩, ?_, ?_, ?_, z6⟩
  · rw [eq1]
    exact z3
  · unfold RMm
    rw [Ar_e (ce 6 rfl), Ar_e (ce 7 rfl), Ar_e (ce 9 rfl), Ar_e (ce 10 rfl), Ar_e (ce 11 rfl)]
    exact z4
  · rw [Ar_e (ce 14 rfl), Ar_e (ce 15 rfl), Ar_e (ce 16 rfl), Ar_e (ce 17 rfl), Ar_e (ce 18 rfl), Fi_e (ce 13 rfl), Fi_e (ce 13 rfl)]
    exact z5
theorem VE_m (z : VE q cc gc hx hm) (hc : HC q cc gc hm') (f : frm W V hm hm') (k : veM W = true) : VE q cc gc hx hm' := by
  obtain ⟨⟨z1, z2⟩, z3, z4, z5, z6⟩ := z
  have ce : ∀ a, List.elem a [164, 165, 166, 167, 168, 170, 174] = true → hm' a = hm a := fun a e => f.1 a (nel (List.all_eq_true.mp k a (List.elem_iff.mp e)))
  refine ⟨⟨z1, hc⟩, ?_, ?_, ?_, ?_⟩
  · rw [Ar_e (ce 174 rfl)]
    exact z3
  · unfold RMm
    rw [Ar_e (ce 164 rfl), Ar_e (ce 165 rfl), Ar_e (ce 166 rfl), Ar_e (ce 167 rfl), Ar_e (ce 168 rfl)]
    exact z4
  · rw [Ar_e (ce 170 rfl)]
    exact z5
  · rw [Ar_e (ce 170 rfl)]
    exact z6
theorem VE_val (z : VE q cc gc hx hm) (hg : g < gc) (hc : c < cc) : (v39 q cc gc hx g c).1 = (v201 q cc gc hm g c).1 := val_eq z.1.1 z.1.2 z.2.1 z.2.2.1 z.2.2.2.1 z.2.2.2.2.2.2.2.1 hg hc
theorem VE_39 (z : VE q cc gc hx hm) (g c : Nat) : VE q cc gc (v39 q cc gc hx g c).2 hm := by
  obtain ⟨c1, f1⟩ := v39_fr (g := g) (c := c) z.1.1
  exact VE_x z c1 f1 rfl
theorem VE_201 (z : VE q cc gc hx hm) (g c : Nat) : VE q cc gc hx (v201 q cc gc hm g c).2 := by
  obtain ⟨c1, f1⟩ := v201_fr (g := g) (c := c) z.1.2
  exact VE_m z c1 f1 rfl
/-- from the class's call to where the reference begins -/
theorem VE_go (hc : HC q cc gc h) (s : SRq q cc gc h) (c1 : HC q cc gc h1) (f : frm W V h h1) (k : veM W = true) : VE q cc gc h (fset h1 162 0 (.int (nI 0))) := by
  have cF : HC q cc gc (fset h1 162 0 (.int (nI 0))) := hc_f rfl rfl (by decide) rfl c1
  exact VE_m (W := [162]) (V := [(162, 0)]) (VE_m (VE_0 hc s) c1 f k) cF (fr_f rfl rfl fr_0) rfl
theorem imax_c {a b : Int32} : imax a b = cond (pm_cmp .le b a) a b := by
  unfold imax
  show _ = cond (decide (b ≤ a)) a b
  by_cases z : a < b
  · rw [if_pos z, decide_eq_false (fun z2 => by rw [Int32.lt_iff_toInt_lt] at z; rw [Int32.le_iff_toInt_le] at z2; omega)]
    rfl
  · rw [if_neg z, decide_eq_true (by rw [Int32.lt_iff_toInt_lt] at z; rw [Int32.le_iff_toInt_le]; omega)]
    rfl
/-- value -/
theorem sr_value (pr : prun sl 102 230 [x, y] h h1 h2 v w) (s : SR h) : v = w ∧ SR h2 := by
  obtain ⟨⟨m1, r1⟩, ⟨f1, i1⟩, ⟨m2, r2⟩, -, -⟩ := pr
  obtain ⟨q, cc, gc, hc, s⟩ := s
  have h6 := hc.cb
  have h8 := hc.gb
  cases zx : cB gc x with
  | false =>
    have a1 := v102w1_ok hc zx r1
    cases a1
    obtain ⟨a2, c2, g2⟩ := v230w1_ok hc zx r2
    cases a2
    exact ⟨rfl, q, cc, gc, c2, SR_fr hc s g2 (by decide +kernel)⟩
  | true =>
    cases zy : cB cc y with
    | false =>
      have a1 := v102w2_ok hc zx zy r1
      cases a1
      obtain ⟨a2, c2, g2⟩ := v230w2_ok hc zx zy r2
      cases a2
      exact ⟨rfl, q, cc, gc, c2, SR_fr hc s g2 (by decide +kernel)⟩
    | true =>
      obtain ⟨g, hg, rfl⟩ := cB_iv zx
      obtain ⟨c, hcc, rfl⟩ := cB_iv zy
      obtain ⟨a1, c1, g1⟩ := v102_ok hc (by omega) (by omega) r1
      injection a1 with b1 b2
      injection b1 with b1
      injection b1 with b1
      injection b2 with b2 b3
      rw [← b2] at c1 g1
      obtain ⟨a2, c2, g2⟩ := v230_ok c1 (by omega) (by omega) r2
      injection a2 with d1 d2
      injection d1 with d1
      injection d1 with d1
      injection d2 with d2 d3
      have ve := VE_go hc s c1 g1 rfl
      have ev := VE_val ve hg hcc
      have e1 : (v102 q cc gc h g c).1 = (v39 q cc gc h g c).1 := by
        unfold v102
        rw [decide_eq_true hg, decide_eq_true hcc]
        rfl
      have e2 : (v230 q cc gc h1 g c).1 = (v201 q cc gc (fset h1 162 0 (.int (nI 0))) g c).1 := by
        unfold v230
        rw [decide_eq_true hg, decide_eq_true hcc]
        rfl
      rw [b1, d1, e1, e2, d2]
      exact ⟨ev, q, cc, gc, c2, SR_fr c1 (SR_fr hc s g1 (by decide +kernel)) g2 (by decide +kernel)⟩
/-- where -/
theorem whe_lp (z : VE q cc gc hx hm) (hg : g < gc) {a1 a2 a3 b3 : Int32} (n : Nat) (hn : n ≤ cc) : (fun (k : Nat) (a b : Int32 × Int32 × Int32 × pm_H) => a.1 = b.1 ∧ a.2.1 = b.2.1 ∧ VE q cc gc a.2.2.2 b.2.2.2) (0 + n) (v103_26 q cc gc g n 0 (a1, a2, a3, hx)) (v231_28 q cc gc g n 0 (a1, a2, b3, hm)) := by
  refine lp_rl (f := fun i a => v103_26b q cc gc a.2.2.2 g i a.1 a.2.1 a.2.2.1) (f' := fun i a => v231_28b q cc gc a.2.2.2 g i a.1 a.2.1 a.2.2.1) (P := fun k a b => a.1 = b.1 ∧ a.2.1 = b.2.1 ∧ VE q cc gc a.2.2.2 b.2.2.2) n 0 (a1, a2, a3, hx) (a1, a2, b3, hm) ⟨rfl, rfl, z⟩ (fun k a b _ hk p => ?_)
  obtain ⟨x1, x2, x3, x4⟩ := a
  obtain ⟨y1, y2, y3, y4⟩ := b
  obtain ⟨p1, p2, p3⟩ := p
  dsimp only at p1 p2 p3 ⊢
  subst p1
  subst p2
  have e17 : Ar x4 17 g = Ar y4 170 (78 + g) := p3.2.2.2.1.2.2.2.1 g hg
  have ev := VE_val (g := g) (c := k) p3 hg (by omega)
  have v1 := VE_201 (VE_39 p3 g k) g k
  unfold v103_26b v231_28b
  rw [e17]
  cases pm_cmp .eq (nI k) (Ar y4 170 (78 + g)) with
  | true =>
    dsimp only [cond]
    exact ⟨rfl, rfl, p3⟩
  | false =>
    dsimp only [cond]
    rw [ev, imax_c]
    exact ⟨rfl, rfl, v1⟩
theorem sr_where (pr : prun sl 103 231 [x] h h1 h2 v w) (s : SR h) : v = w ∧ SR h2 := by
  obtain ⟨⟨m1, r1⟩, ⟨f1, i1⟩, ⟨m2, r2⟩, -, -⟩ := pr
  obtain ⟨q, cc, gc, hc, s⟩ := s
  have h8 := hc.gb
  cases zx : cB gc x with
  | false =>
    have a1 := v103w_ok hc zx r1
    cases a1
    obtain ⟨a2, c2, g2⟩ := v231w_ok hc zx r2
    cases a2
    exact ⟨rfl, q, cc, gc, c2, SR_fr hc s g2 (by decide +kernel)⟩
  | true =>
    obtain ⟨g, hg, rfl⟩ := cB_iv zx
    obtain ⟨a1, c1, g1⟩ := v103_ok hc (by omega) r1
    injection a1 with b1 b2
    injection b1 with b1
    injection b1 with b1
    injection b2 with b2 b3
    rw [← b2] at c1 g1
    obtain ⟨a2, c2, g2⟩ := v231_ok c1 (by omega) r2
    injection a2 with d1 d2
    injection d1 with d1
    injection d1 with d1
    injection d2 with d2 d3
    have ve := VE_go hc s c1 g1 rfl
    have lp := whe_lp (a1 := Int32.ofInt (-2)) (a2 := Int32.ofInt (-1)) (a3 := nI 999) (b3 := nI 1000000) ve hg cc (Nat.le_refl _)
    obtain ⟨l1, -, -⟩ := lp
    have e1 : (v103 q cc gc h g).1 = (v103_26 q cc gc g cc 0 ((Int32.ofInt (-2)), (Int32.ofInt (-1)), (nI 999), h)).1 := by
      unfold v103
      rw [decide_eq_true hg]
      show (cond _ _ _ : Int32 × pm_H).1 = _
      cases pm_cmp .lt ((v103_26 q cc gc g cc 0 ((Int32.ofInt (-2)), (Int32.ofInt (-1)), (nI 999), h)).1) 0 <;> rfl
    have e2 : (v231 q cc gc h1 g).1 = (v231_28 q cc gc g cc 0 ((Int32.ofInt (-2)), (Int32.ofInt (-1)), (nI 1000000), fset h1 162 0 (.int (nI 0)))).1 := by
      unfold v231
      rw [decide_eq_true hg]
      show (cond _ _ _ : Int32 × pm_H).1 = _
      cases pm_cmp .lt ((v231_28 q cc gc g cc 0 ((Int32.ofInt (-2)), (Int32.ofInt (-1)), (nI 1000000), fset h1 162 0 (.int (nI 0)))).1) 0 <;> rfl
    rw [b1, d1, e1, e2, d2]
    exact ⟨l1, q, cc, gc, c2, SR_fr c1 (SR_fr hc s g1 (by decide +kernel)) g2 (by decide +kernel)⟩
/-- swaps, feeds, starves: what they leave -/
theorem st_swaps (pr : prun sl 107 236 [] h h1 h2 v w) (hI : mInv h) (s : SR h) : SR h2 := by
  obtain ⟨⟨m1, r1⟩, ⟨f1, i1⟩, ⟨m2, r2⟩, -, -⟩ := pr
  obtain ⟨q, cc, gc, hc, s⟩ := s
  obtain ⟨a1, c1, g1⟩ := v107_ok hc (na_17 hI.1) r1
  cases a1
  obtain ⟨a2, c2, g2⟩ := v236_ok c1 (na_170 i1.1) r2
  cases a2
  exact ⟨q, cc, gc, c2, SR_fr c1 (SR_fr hc s g1 (by decide +kernel)) g2 (by decide +kernel)⟩
theorem st_feeds (pr : prun sl 111 242 [x] h h1 h2 v w) (s : SR h) : SR h2 := by
  obtain ⟨⟨m1, r1⟩, ⟨f1, i1⟩, ⟨m2, r2⟩, -, -⟩ := pr
  obtain ⟨q, cc, gc, hc, s⟩ := s
  have h6 := hc.cb
  cases zx : cB cc x with
  | false =>
    have a1 := v111w_ok hc zx r1
    cases a1
    obtain ⟨a2, c2, g2⟩ := v242w_ok hc zx r2
    cases a2
    exact ⟨q, cc, gc, c2, SR_fr hc s g2 (by decide +kernel)⟩
  | true =>
    obtain ⟨c, hcc, rfl⟩ := cB_iv zx
    obtain ⟨a1, c1, g1⟩ := v111_ok hc (by omega) r1
    cases a1
    obtain ⟨a2, c2, g2⟩ := v242_ok c1 (by omega) r2
    cases a2
    exact ⟨q, cc, gc, c2, SR_fr c1 (SR_fr hc s g1 (by decide +kernel)) g2 (by decide +kernel)⟩
theorem st_starves (pr : prun sl 112 243 [x, y] h h1 h2 v w) (s : SR h) : SR h2 := by
  obtain ⟨⟨m1, r1⟩, ⟨f1, i1⟩, ⟨m2, r2⟩, -, -⟩ := pr
  obtain ⟨q, cc, gc, hc, s⟩ := s
  have h6 := hc.cb
  cases zp : pP cc x y with
  | false =>
    have a1 := v112w_ok hc zp r1
    cases a1
    obtain ⟨a2, c2, g2⟩ := v243w_ok hc zp r2
    cases a2
    exact ⟨q, cc, gc, c2, SR_fr hc s g2 (by decide +kernel)⟩
  | true =>
    obtain ⟨a, b, ha, hb, hab, rfl, rfl⟩ := pP_iv zp
    obtain ⟨a1, c1, g1⟩ := v112_ok hc (by omega) (by omega) r1
    cases a1
    obtain ⟨a2, c2, g2⟩ := v243_ok c1 (by omega) (by omega) r2
    cases a2
    exact ⟨q, cc, gc, c2, SR_fr c1 (SR_fr hc s g1 (by decide +kernel)) g2 (by decide +kernel)⟩
/-- sheet -/
theorem sht_lp (s0 : ∀ t, t < 6 → Ar hx 14 t = Ar hm 170 t) (t : Nat) (ht : t < 6) : Ar (v95_44 q cc gc k m e s (cond (pm_cmp .ne k (nI 3)) false true) cc 0 hx) 14 t = Ar ((v210_43 q cc gc k m e s cc 0 (e, fset hm 162 0 (.int (nI 0)))).2) 170 t := by
  rw [sx_loop, sm_loop cc 0 e _ t (by rw [show nI 0 = 0 from rfl, Int32.zero_mul, Int32.add_zero])]
  by_cases z : 0 ≤ t ∧ t < 0 + cc
  · rw [if_pos z, if_pos z, sf_eq]
  · rw [if_neg z, if_neg z, Ar_f]
    exact s0 t ht
theorem sht_hi (h6 : cc ≤ 6) (t : Nat) (ht : 6 ≤ t) : Ar ((v210_43 q cc gc k m e s cc 0 (e, fset hm 162 0 (.int (nI 0)))).2) 170 t = Ar hm 170 t := by
  rw [sm_loop cc 0 e _ t (by rw [show nI 0 = 0 from rfl, Int32.zero_mul, Int32.add_zero]), if_neg (by omega), Ar_f]
theorem sht_st (h6 : cc ≤ 6) (s0 : ∀ t, t < 6 → Ar hx 14 t = Ar hm 170 t) : (∀ t, t < 6 → Ar (v95 q cc gc hx k m e s).2 14 t = Ar (v210 q cc gc hm k m e s).2 170 t) ∧ ∀ t, 6 ≤ t → Ar (v210 q cc gc hm k m e s).2 170 t = Ar hm 170 t := by
  have l1 := sht_lp (q := q) (cc := cc) (gc := gc) (k := k) (m := m) (e := e) (s := s) s0
  have l2 := sht_hi (q := q) (cc := cc) (gc := gc) (k := k) (m := m) (e := e) (s := s) (hm := hm) h6
  have s1 : ∀ t, t < 6 → Ar hx 14 t = Ar (fset hm 162 0 (.int (nI 0))) 170 t := fun t ht => (s0 t ht).trans (congrFun Ar_f t).symm
  have s2 : ∀ t, 6 ≤ t → Ar (fset hm 162 0 (.int (nI 0))) 170 t = Ar hm 170 t := fun t _ => congrFun Ar_f t
  unfold v95 v210
  rw [sht_in]
  generalize v36 q cc gc (Ar (v95_44 q cc gc k m e s (cond (pm_cmp .ne k (nI 3)) false true) cc 0 hx) 14) = u1
  generalize v177 q cc gc (Ar ((v210_43 q cc gc k m e s cc 0 (e, fset hm 162 0 (.int (nI 0)))).2) 170) = u2
  generalize v95_44 q cc gc k m e s (cond (pm_cmp .ne k (nI 3)) false true) cc 0 hx = L at *
  generalize (v210_43 q cc gc k m e s cc 0 (e, fset hm 162 0 (.int (nI 0)))).2 = M at *
  cases pm_cmp .lt k 0 with
  | true => exact ⟨s1, s2⟩
  | false =>
    cases pm_cmp .gt k (nI 3) with
    | true => exact ⟨s1, s2⟩
    | false =>
      cases pm_cmp .le m (nI 6) with
      | false => exact ⟨s1, s2⟩
      | true =>
        rw [i_ne]
        cases pm_cmp .eq k (nI 3) with
        | true => exact ⟨l1, l2⟩
        | false =>
          cases pm_cmp .ge m 0 with
          | true => exact ⟨l1, l2⟩
          | false => exact ⟨s1, s2⟩
theorem asR_g : (List.range 6).all (fun j => decide (asR[j]? = some ((0, 0, 999) : av))) = true := by decide +kernel
theorem ty_170 (hI : ah_ok bB 198 [] h) : ∀ (j : Nat) (a : av), asR[j]? = some a → av_ok (.int (Ar h 170 j)) a := by
  have e0 := wt_a (wt_of hI) (by decide) (show wd (bB 170) = .inl (0, 96, ai_top) from rfl) (by decide)
  have b0 : ac_ok (h 170) (.inr (1000, asR)) := hI 170 (by decide)
  rw [e0] at b0
  have b0 : 1000 = 1000 + 0 ∧ 96 = asR.length ∧ ∀ (j : Nat) (a : av), asR[j]? = some a → av_ok (.int (Ar h 170 j)) a := b0
  exact b0.2.2
theorem CK_sh : CK.all (fun a => decide (a ≠ 14 ∧ a ≠ 162 ∧ a ≠ 170)) = true := by decide +kernel
theorem sr_sheet (pr : prun sl 95 210 [k, m, e, s] h h1 h2 v w) (z : SR h) : SR h2 := by
  obtain ⟨⟨n1, r1⟩, ⟨f1, i1⟩, ⟨n2, r2⟩, -, i2⟩ := pr
  obtain ⟨q, cc, gc, fi, si, hc, z, hfi, hsi, e1, e2, e3, pa⟩ := SR_open z
  have h6 := hc.cb
  obtain ⟨a1, c1, g1⟩ := v95_ok hc r1
  injection a1 with b1 b2
  injection b2 with b2 b3
  rw [← b2] at c1 g1
  obtain ⟨a2, c2, g2⟩ := v210_ok c1 r2
  injection a2 with d1 d2
  injection d2 with d2 d3
  have s0 : ∀ t, t < 6 → Ar h 14 t = Ar h1 170 t := fun t ht => (z.2.1.1.1 t ht).trans (congrFun (Ar_e (g1.1 170 rfl)) t).symm
  obtain ⟨t1, t2⟩ := sht_st (q := q) (cc := cc) (gc := gc) (k := k) (m := m) (e := e) (s := s) (hx := h) (hm := h1) h6 s0
  rw [← d2] at t1 t2 c2 g2
  rw [← b2] at t1
  have lo : ∀ a, a ≠ 14 → a ≠ 162 → a ≠ 170 → h2 a = h a := fun a n1 n2 n3 => (g2.1 a (by
    cases y : List.elem a [162, 170] with
    | false => rfl
    | true =>
      have y := List.elem_iff.mp y
      simp at y
      omega)).trans (g1.1 a (by
    cases y : List.elem a [14] with
    | false => rfl
    | true =>
      have y := List.elem_iff.mp y
      simp at y
      omega))
  have hi : ∀ t, 6 ≤ t → Ar h2 170 t = Ar h 170 t := fun t ht => (t2 t ht).trans (congrFun (Ar_e (g1.1 170 rfl)) t)
  have s14 : ∀ t, t < 6 → Ar h2 14 t = Ar h2 170 t := fun t ht => (congrFun (Ar_e (g2.1 14 rfl)) t).trans (t1 t ht)
  have fi2 : ∀ g, g ≠ 0 → Fi h2 162 g = Fi h 162 g := fun g hg => (g2.2 162 g rfl (by
    cases y : List.elem (162, g) [(162, 0)] with
    | false => rfl
    | true =>
      have y := List.elem_iff.mp y
      simp at y
      exact absurd y hg)).trans (Fi_e (g1.1 162 rfl))
  have cs : ∀ a, CK.elem a = true → h2 a = h a := fun a e => by
    have w := of_decide_eq_true (List.all_eq_true.mp CK_sh a (List.elem_iff.mp e))
    exact lo a w.1 w.2.1 w.2.2
  have ka : kpt AK h h2 := fun a e => Ar_e (cs a (List.elem_iff.mpr (List.mem_append_left _ (List.elem_iff.mp e))))
  have kf : kpf FK h h2 := by
    intro c g e
    have e := List.elem_iff.mp e
    simp only [FK, List.mem_cons, Prod.mk.injEq, List.not_mem_nil, or_false] at e
    rcases e with ⟨rfl, rfl⟩ | ⟨rfl, rfl⟩ | ⟨rfl, rfl⟩ | ⟨rfl, rfl⟩ | ⟨rfl, rfl⟩ | ⟨rfl, rfl⟩ | ⟨rfl, rfl⟩ | ⟨rfl, rfl⟩ | ⟨rfl, rfl⟩ | ⟨rfl, rfl⟩ | ⟨rfl, rfl⟩
    · exact Fi_e (cs 0 rfl)
    · exact Fi_e (cs 5 rfl)
    · exact Fi_e (cs 5 rfl)
    · exact Fi_e (cs 159 rfl)
    · exact fi2 47 (by decide)
    · exact Fi_e (cs 124 rfl)
    · exact Fi_e (cs 124 rfl)
    · exact Fi_e (cs 130 rfl)
    · exact Fi_e (cs 130 rfl)
    · exact Fi_e (cs 136 rfl)
    · exact Fi_e (cs 136 rfl)
  obtain ⟨⟨y1, y2, y3, y4, y5, y6, y7⟩, u1, u2, u3, u4, u5⟩ := z.2.1
  have e13 := lo 13 (by decide) (by decide) (by decide)
  refine SR_act c2 hc.qq z ka kf (fun fs p e1 e2 => ⟨fs, (cs 0 rfl).trans e1, e2⟩) ⟨⟨s14, fun a b ha hb hn => ?_, fun a b ha hb => ?_, fun j hj => ?_, fun j hj => ?_, ?_, ?_⟩, ⟨fun c hcl => ?_, fun a b ha hb hn => ?_, fun a b ha hb => ?_, fun j hj => ?_, fun k hk hk2 => ?_⟩⟩ ⟨fi, si, hfi, hsi, ⟨(Fi_e (lo 25 (by decide) (by decide) (by decide))).trans e1, (Fi_e (lo 25 (by decide) (by decide) (by decide))).trans e2, (fi2 27 (by decide)).trans e3⟩, fun j hj => ?_⟩
  · rw [Ar_e (lo (13 + 2) (by decide) (by decide) (by decide)), hi _ (by omega)]
    exact y2 a b ha hb hn
  · rw [Ar_e (lo (13 + 3) (by decide) (by decide) (by decide)), hi _ (by omega)]
    exact y3 a b ha hb
  · rw [Ar_e (lo (13 + 4) (by decide) (by decide) (by decide)), hi _ (by omega)]
    exact y4 j hj
  · rw [Ar_e (lo (13 + 5) (by decide) (by decide) (by decide)), hi _ (by omega)]
    exact y5 j hj
  · rw [Fi_e e13, hi 94 (by decide)]
    exact y6
  · rw [Fi_e e13, hi 95 (by decide)]
    exact y7
  · have q1 := ty_170 i2.1 c _ (of_decide_eq_true (List.all_eq_true.mp asR_g c (List.mem_range.mpr hcl)))
    exact ⟨q1.2.1, q1.2.2⟩
  · rw [hi _ (by omega)]
    exact u2 a b ha hb hn
  · rw [hi _ (by omega)]
    exact u3 a b ha hb
  · rw [hi _ (by omega)]
    exact u4 j hj
  · rw [hi 94 (by decide)]
    exact u5 k hk hk2
  · obtain ⟨q1, q2⟩ := pa j hj
    rw [Ar_e (lo 178 (by decide) (by decide) (by decide))]
    exact ⟨RSb_e (fun i h1 h2 => lo i (by omega) (by omega) (by omega)) q1, q2⟩
end QSR
end MG95zzzaax3
end MH95zzyvx3
section MH95zzyvx4
section MG95zzzex0
/-! heard, forget, keep, again: SR -/
section HKA
variable {fr lo sl cc gc : Nat} {q : QT} {h h1 h2 : pm_H} {v w x y : Int32}
def agQ (f g b c : Nat → Int32) (ch v : Int32) (h : pm_H) (sl : Nat) (r : pm_Rs) : Prop := (agB b c ch v = false ∧ r = (some (.int 0), mset h 0 (.int 0), 198, sl)) ∨ ∃ (i : Nat) (gk : Nat → Int32), i < 3 ∧ v = nI i ∧ agB b c ch v = true ∧ cpk f g gk (96 * i) 0 96 ∧ r = (some (.int 1), mset (aset (mset h 0 (.int 0)) 170 96 gk) 27 (.int 0), 198, sl)
theorem hd_agy {f g b c : Nat → Int32} {ch : Int32} {x0 x27 : Value} (v : Int32) (h0 : mF h 0 x0) (h5 : mF h 5 (.int ch)) (h27 : mF h 27 x27) (h52 : mF h 52 (.ref 194)) (h53 : mF h 53 (.ref 195)) (h54 : mF h 54 (.ref 196)) (h12 : mF h 12 (.ref 170)) (hN : h 170 = .inl (0, 96, .inl g)) (hK : h 196 = .inl (0, 288, .inl f)) (hB : h 194 = .inl (3, 3, .inl b)) (hCh : h 195 = .inl (0, 3, .inl c)) (hf : 1 ≤ fr) (hl : 30 ≤ lo) : pm_WP PT fr lo 265 (0, pm_l0 [.ref 162, .int v] 3, [], h, 198, sl) (agQ f g b c ch v h sl) := by
  have no : ∀ (w : Int32) (L : pm_L), agB b c ch w = false → pm_WP PT fr lo 265 (40, L, [.int 0], (mset h 0 (.int 0)), 198, sl) (agQ f g b c ch w h sl) := by
    intro w L e
    exact wp_zret rfl rfl (by decide) (Or.inl ⟨e, rfl⟩)
  refine wp_i rfl rfl rfl rfl ?_
  refine wp_i rfl rfl rfl rfl ?_
  show pm_WP PT fr lo 265 (2, [some (.ref 162), some (.int v), none], [.int 0, .ref 162], h, 198, sl) _
  refine wp_pfm rfl rfl rfl (by decide) h0 ?_
  refine wp_i rfl rfl rfl rfl ?_
  refine wp_i rfl rfl rfl rfl ?_
  refine wp_i rfl rfl rfl rfl ?_
  refine wp_i rfl rfl rfl rfl ?_
  show pm_WP PT fr lo 265 (11, [some (.ref 162), some (.int v), none], [.long 2, .long 0, .long (v).toInt64], (mset h 0 (.int 0)), 198, sl) _
  refine wp_callS (t := 163) (As := [.long (v).toInt64, .long 0, .long 2]) (rest := []) (mx := 6) rfl rfl rfl rfl (Nat.le_of_ble_eq_true rfl) (Nat.le_of_ble_eq_true rfl) (by omega) (by omega) (wp_mono (hd_in v.toInt64 0 2) ?_)
  rintro _ rfl
  by_cases hin : in_b v.toInt64 0 2 = true
  · obtain ⟨i, hi, rfl⟩ := in3 v hin
    have ea : agB b c ch (nI i) = (!decide (b i = 0) && decide (c i = ch)) := by
      unfold agB
      rw [hin, Bool.true_and, nI_clamp (by omega)]
    rw [hin]
    refine wp_i rfl rfl rfl rfl ?_
    refine wp_i rfl rfl rfl rfl ?_
    show pm_WP PT fr lo 265 (18, [some (.ref 162), some (.int (nI i)), none], [.ref 162], (mset h 0 (.int 0)), 198, sl) _
    refine wp_gfm rfl rfl (mF_ne (by decide) h52) ?_
    refine wp_i rfl rfl rfl rfl ?_
    show pm_WP PT fr lo 265 (22, [some (.ref 162), some (.int (nI i)), none], [.int (nI i), .ref 194], (mset h 0 (.int 0)), 198, sl) _
    refine wp_zam rfl (by rw [mset_ne (by decide)]; exact hB) (hI_in hi (by decide)) (by decide) ?_
    rw [nI_clamp (by omega)]
    show pm_WP PT fr lo 265 (23, [some (.ref 162), some (.int (nI i)), none], [.int (b i)], (mset h 0 (.int 0)), 198, sl) _
    refine wp_if (c := .eq) (off := 16) (t := 39) rfl rfl (fun q1 => ?_) (fun q1 => ?_)
    · refine wp_i rfl rfl rfl rfl ?_
      show pm_WP PT fr lo 265 (40, [some (.ref 162), some (.int (nI i)), none], [.int 0], (mset h 0 (.int 0)), 198, sl) _
      exact no (nI i) _ (by rw [ea, decide_eq_true (show b i = 0 from of_decide_eq_true q1)]; rfl)
    · have q1 : ¬ b i = 0 := of_decide_eq_false q1
      refine wp_i rfl rfl rfl rfl ?_
      show pm_WP PT fr lo 265 (27, [some (.ref 162), some (.int (nI i)), none], [.ref 162], (mset h 0 (.int 0)), 198, sl) _
      refine wp_gfm rfl rfl (mF_ne (by decide) h53) ?_
      refine wp_i rfl rfl rfl rfl ?_
      show pm_WP PT fr lo 265 (31, [some (.ref 162), some (.int (nI i)), none], [.int (nI i), .ref 195], (mset h 0 (.int 0)), 198, sl) _
      refine wp_iam rfl (mset_arr (by decide) hCh) (hI_in hi (by decide)) (by decide) ?_
      rw [nI_clamp (by omega)]
      refine wp_i rfl rfl rfl rfl ?_
      show pm_WP PT fr lo 265 (33, [some (.ref 162), some (.int (nI i)), none], [.ref 162, .int (c i)], (mset h 0 (.int 0)), 198, sl) _
      refine wp_gfm rfl rfl (mF_ne (by decide) h5) ?_
      show pm_WP PT fr lo 265 (36, [some (.ref 162), some (.int (nI i)), none], [.int ch, .int (c i)], (mset h 0 (.int 0)), 198, sl) _
      refine wp_icmp (c := .eq) (off := 5) (t := 41) rfl rfl (fun q2 => ?_) (fun q2 => ?_)
      · have q2 : c i = ch := of_decide_eq_true q2
        have ev : agB b c ch (nI i) = true := by rw [ea, decide_eq_false q1, decide_eq_true q2]; rfl
        refine wp_i rfl rfl rfl rfl ?_
        refine wp_i rfl rfl rfl rfl ?_
        show pm_WP PT fr lo 265 (43, [some (.ref 162), some (.int (nI i)), some (.int 0)], [], (mset h 0 (.int 0)), 198, sl) _
        have e9 := aset_same (mset_arr (f := 0) (v := .int 0) (by decide) hN)
        rw [← e9]
        refine cp_again (f := f) (g := g) hi (mF_ne (by decide) h54) (mF_ne (by decide) h12) (mset_arr (by decide) hK) (fun gk hc => ?_) 96 0 g (by omega) (cpk_0 f g (96 * i) 0)
        refine wp_i rfl rfl rfl rfl ?_
        refine wp_i rfl rfl rfl rfl ?_
        show pm_WP PT fr lo 265 (74, [some (.ref 162), some (.int (nI i)), some (.int (nI 96))], [.int 0, .ref 162], (aset (mset h 0 (.int 0)) 170 96 gk), 198, sl) _
        refine wp_pfm rfl rfl rfl (by decide) (mF_as (by decide) (mF_ne (by decide) h27)) ?_
        refine wp_i rfl rfl rfl rfl ?_
        show pm_WP PT fr lo 265 (78, [some (.ref 162), some (.int (nI i)), some (.int (nI 96))], [.int 1], (mset (aset (mset h 0 (.int 0)) 170 96 gk) 27 (.int 0)), 198, sl) _
        exact wp_zret rfl rfl (by decide) (Or.inr ⟨i, gk, hi, rfl, ev, hc, rfl⟩)
      · have q2 : ¬ c i = ch := of_decide_eq_false q2
        refine wp_i rfl rfl rfl rfl ?_
        show pm_WP PT fr lo 265 (40, [some (.ref 162), some (.int (nI i)), none], [.int 0], (mset h 0 (.int 0)), 198, sl) _
        exact no (nI i) _ (by rw [ea, decide_eq_false q2, Bool.and_false])
  · have hin : in_b v.toInt64 0 2 = false := by
      cases e : in_b v.toInt64 0 2 with
      | true => exact absurd e hin
      | false => rfl
    have ea : agB b c ch v = false := by
      unfold agB
      rw [hin, Bool.false_and]
    rw [hin]
    refine wp_i rfl rfl rfl rfl ?_
    refine wp_i rfl rfl rfl rfl ?_
    show pm_WP PT fr lo 265 (40, [some (.ref 162), some (.int v), none], [.int 0], (mset h 0 (.int 0)), 198, sl) _
    exact no v _ ea
/-- what can be heard -/
theorem in_lh (b : Int32) {lo hi : Int64} {l u : Int} (e1 : lo.toInt = l) (e2 : hi.toInt = u) : in_b b.toInt64 lo hi = decide (l ≤ b.toInt ∧ b.toInt ≤ u) := by
  unfold in_b
  rw [Bool.eq_iff_iff, Bool.and_eq_true, Bool.not_eq_true', Bool.not_eq_true', decide_eq_false_iff_not, decide_eq_false_iff_not, decide_eq_true_iff, Int64.lt_iff_toInt_lt, Int64.lt_iff_toInt_lt, Int32.toInt_toInt64, e1, e2]
  omega
theorem cl_lt {b : Int32} {c : Nat} (hc : c < 2 ^ 31) : pm_cmp .lt b (nI c) = decide (b.toInt < (c : Int)) := decide_eq_decide.mpr (by rw [Int32.lt_iff_toInt_lt, nI_toInt hc])
theorem cl_ge {b : Int32} {c : Nat} (hc : c < 2 ^ 31) : pm_cmp .ge b (nI c) = decide ((c : Int) ≤ b.toInt) := decide_eq_decide.mpr (by
  show nI c ≤ b ↔ _
  rw [Int32.le_iff_toInt_le, nI_toInt hc])
theorem cl_le {b : Int32} {c : Nat} (hc : c < 2 ^ 31) : pm_cmp .le b (nI c) = decide (b.toInt ≤ (c : Int)) := decide_eq_decide.mpr (by
  show b ≤ nI c ↔ _
  rw [Int32.le_iff_toInt_le, nI_toInt hc])
theorem cl_gt {b : Int32} {c : Nat} (hc : c < 2 ^ 31) : pm_cmp .gt b (nI c) = decide ((c : Int) < b.toInt) := decide_eq_decide.mpr (by
  show nI c < b ↔ _
  rw [Int32.lt_iff_toInt_lt, nI_toInt hc])
theorem cl_eq {b : Int32} {c : Nat} (hc : c < 2 ^ 31) : pm_cmp .eq b (nI c) = decide (b.toInt = (c : Int)) := decide_eq_decide.mpr (by
  show b = nI c ↔ _
  rw [← Int32.toInt_inj, nI_toInt hc])
theorem cl_ne {b : Int32} {c : Nat} (hc : c < 2 ^ 31) : pm_cmp .ne b (nI c) = decide (¬ b.toInt = (c : Int)) := decide_eq_decide.mpr (by
  show ¬ b = nI c ↔ _
  rw [← Int32.toInt_inj, nI_toInt hc])
theorem cnd2 {p q r : Prop} [Decidable p] [Decidable q] [Decidable r] (e : r ↔ ¬ p ∧ ¬ q) : cond (decide p) false (cond (decide q) false true) = decide r := by
  by_cases a : p
  · rw [decide_eq_true a, decide_eq_false (fun z => (e.mp z).1 a)]
    rfl
  · by_cases b : q
    · rw [decide_eq_false a, decide_eq_true b, decide_eq_false (fun z => (e.mp z).2 b)]
      rfl
    · rw [decide_eq_false a, decide_eq_false b, decide_eq_true (e.mpr ⟨a, b⟩)]
      rfl
theorem cnd3 {p q r : Prop} [Decidable p] [Decidable q] [Decidable r] (e : r ↔ p ∨ ¬ q) : cond (decide p) true (cond (decide q) false true) = decide r := by
  by_cases a : p
  · rw [decide_eq_true a, decide_eq_true (e.mpr (Or.inl a))]
    rfl
  · by_cases b : q
    · rw [decide_eq_false a, decide_eq_true b, decide_eq_false (fun z => (e.mp z).elim a (fun y => y b))]
      rfl
    · rw [decide_eq_false a, decide_eq_false b, decide_eq_true (e.mpr (Or.inr b))]
      rfl
theorem clu_ok (a b : Int32) : v2 q cc gc a b = (in_b a.toInt64 (Int64.ofNat 0) (3 : Int64) && in_b b.toInt64 ((cond (cond (pm_cmp .ne a (nI 1)) false true) 1 0 : Int32).toInt64) ((cond (pm_cmp .ne a 0) (cond (pm_cmp .ne a (nI 1)) (cond (pm_cmp .ne a (nI 2)) (nI 1) (nI 5)) (nI 99)) (nI 4)).toInt64)) := by
  rw [in_lh a (l := 0) (u := 3) (by decide) (by decide)]
  by_cases ha : 0 ≤ a.toInt ∧ a.toInt ≤ 3
  · rw [decide_eq_true ha, Bool.true_and]
    obtain ⟨n, rfl, -, en⟩ := hI_of ha.1
    have b0 : pm_cmp .lt b 0 = decide (b.toInt < 0) := cl_lt (c := 0) (by decide)
    have b1 : pm_cmp .eq b 0 = decide (b.toInt = 0) := cl_eq (c := 0) (by decide)
    rcases (by omega : n = 0 ∨ n = 1 ∨ n = 2 ∨ n = 3) with rfl | rfl | rfl | rfl
    · unfold v2
      rw [show pm_cmp .eq (nI 0) (nI 0) = true by decide, show pm_cmp .ne (nI 0) (nI 1) = true by decide, show pm_cmp .ne (nI 0) 0 = false by decide]
      simp only [cond_true, cond_false]
      rw [b0, cl_ge (c := 5) (by decide), in_lh b (l := 0) (u := 4) (by decide) (by decide)]
      exact cnd2 (by omega)
    · unfold v2
      rw [show pm_cmp .eq (nI 1) (nI 0) = false by decide, show pm_cmp .eq (nI 1) (nI 1) = true by decide, show pm_cmp .ne (nI 1) (nI 1) = false by decide, show pm_cmp .ne (nI 1) 0 = true by decide]
      simp only [cond_true, cond_false]
      rw [cl_lt (c := 1) (by decide), cl_gt (c := 99) (by decide), in_lh b (l := 1) (u := 99) (by decide) (by decide)]
      exact cnd2 (by omega)
    · unfold v2
      rw [show pm_cmp .eq (nI 2) (nI 0) = false by decide, show pm_cmp .eq (nI 2) (nI 1) = false by decide, show pm_cmp .eq (nI 2) (nI 2) = true by decide, show pm_cmp .ne (nI 2) (nI 1) = true by decide, show pm_cmp .ne (nI 2) 0 = true by decide, show pm_cmp .ne (nI 2) (nI 2) = false by decide]
      simp only [cond_true, cond_false]
      rw [b0, cl_ge (c := 6) (by decide), in_lh b (l := 0) (u := 5) (by decide) (by decide)]
      exact cnd2 (by omega)
    · unfold v2
      rw [show pm_cmp .eq (nI 3) (nI 0) = false by decide, show pm_cmp .eq (nI 3) (nI 1) = false by decide, show pm_cmp .eq (nI 3) (nI 2) = false by decide, show pm_cmp .eq (nI 3) (nI 3) = true by decide, show pm_cmp .ne (nI 3) (nI 1) = true by decide, show pm_cmp .ne (nI 3) 0 = true by decide, show pm_cmp .ne (nI 3) (nI 2) = true by decide]
      simp only [cond_true, cond_false]
      rw [b1, cl_ne (c := 1) (by decide), in_lh b (l := 0) (u := 1) (by decide) (by decide)]
      exact cnd3 (by omega)
  · rw [decide_eq_false ha, Bool.false_and]
    unfold v2
    have ne : ∀ k : Nat, k ≤ 3 → pm_cmp .eq a (nI k) = false := fun k hk => decide_eq_false (fun e => ha (by
      have e : a = nI k := e
      rw [e, nI_toInt (by omega)]
      omega))
    rw [ne 0 (by decide), ne 1 (by decide), ne 2 (by decide), ne 3 (by decide)]
    rfl
/-- SR where the states and the realm stand -/
def PBs : List Nat := [6, 7, 9, 10, 11, 13, 14, 15, 16, 17, 18, 25, 143, 146, 164, 165, 166, 167, 168, 170, 174, 178]
theorem SR_part {D : List Nat} (hc : HC q cc gc h) (s : SRq q cc gc h) (c2 : HC q cc gc h2) (cs : ∀ i, D.elem i = false → h2 i = h i) (hD : (PBs.all (fun a => !(D.elem a)) && (List.range 96).all (fun j => !(D.elem (27 + j)))) = true) (k9 : k0f 9 h h2) (z27 : Fi h2 162 27 = Fi h 162 27) (kp : KP cc gc h2) (cl : CLU h2) : SR h2 := by
  rw [Bool.and_eq_true] at hD
  obtain ⟨⟨s4, ⟨fs, o1, o2⟩⟩, ⟨s1, s2⟩, s3, ⟨fi, si, p1, p2, ⟨p3, p4, p5⟩, p6⟩, -⟩ := s
  have ce : ∀ a, PBs.elem a = true → h2 a = h a := fun a e => cs a (nel (List.all_eq_true.mp hD.1 a (List.elem_iff.mp e)))
  have ar : ∀ a, PBs.elem a = true → Ar h2 a = Ar h a := fun a e => Ar_e (ce a e)
  have c27 : ∀ i, 27 ≤ i → i < 123 → h2 i = h i := fun i h3 h4 => cs i (by
    have z := List.all_eq_true.mp hD.2 (i - 27) (List.mem_range.mpr (by omega))
    rw [show 27 + (i - 27) = i by omega] at z
    exact nel z)
  have eq1 : Ar h2 (q.1 + 1) = Ar h (q.1 + 1) := by
    rcases hc.qq with e | e
    · rw [e]
      exact ar 143 rfl
    · rw [e]
      exact ar 146 rfl
  refine ⟨q, cc, gc, c2, ⟨⟨?_, k9 fs _ o1 o2⟩, ⟨⟨?_, ?_⟩, ?_, ⟨fi, si, p1, p2, ⟨(Fi_e (ce 25 rfl)).trans p3, (Fi_e (ce 25 rfl)).trans p4, z27.trans p5⟩, fun j hj => ?_⟩, kp, cl⟩⟩⟩
  · rw [ar 174 rfl, eq1]
    exact s4
  · rw [ar 170 rfl]
    exact RSb_e (fun i h3 h4 => ce i (by
      rcases (by omega : i = 13 ∨ i = 14 ∨ i = 15 ∨ i = 16 ∨ i = 17 ∨ i = 18) with rfl | rfl | rfl | rfl | rfl | rfl <;> rfl)) s1
  · rw [ar 170 rfl]
    exact s2
  · unfold RMm
    rw [ar 6 rfl, ar 7 rfl, ar 9 rfl, ar 10 rfl, ar 11 rfl, ar 164 rfl, ar 165 rfl, ar 166 rfl, ar 167 rfl, ar 168 rfl]
    exact s3
  · obtain ⟨q1, q2⟩ := p6 j hj
    rw [ar 178 rfl]
    exact ⟨RSb_e (fun i h3 h4 => c27 i (by omega) (by omega)) q1, q2⟩
theorem KP_e (c0 : h2 0 = h 0) (c124 : ∀ i, 124 ≤ i → i < 142 → h2 i = h i) (c196 : h2 196 = h 196) (k : KP cc gc h) : KP cc gc h2 := fun i hi hk => by
  rw [Fi_e c0] at hk
  obtain ⟨q1, q2⟩ := k i hi hk
  rw [Ar_e c196]
  exact ⟨RSb_e (fun j h3 h4 => c124 j (by omega) (by omega)) q1, q2⟩
def CLW : List Nat := [159, 160, 161, 162, 191, 192]
theorem cl_ne2 {i k : Nat} {D : List Nat} (hi : D.elem i = false) (hk : D.elem k = true) : i ≠ k := fun e => by
  rw [e, hk] at hi
  cases hi
theorem sr_heard (pr : prun sl 118 251 [x, y] h h1 h2 v w) (s : SR h) : SR h2 := by
  obtain ⟨⟨m1, r1⟩, ⟨f1, i1⟩, ⟨m2, r2⟩, lo2, -⟩ := pr
  obtain ⟨q, cc, gc, hc, s⟩ := s
  obtain ⟨m, hm, ⟨z1, z2⟩, z3⟩ := id s.2.2.2.2.2
  obtain ⟨a1, c1, g1⟩ := v118_ok hc hm z1 r1
  injection a1 with b1 b2
  injection b2 with b2 b3
  rw [← b2] at c1 g1
  obtain ⟨a2, c2, g2⟩ := v251_ok c1 hm ((Fi_e (g1.1 162 rfl)).trans z2) r2
  injection a2 with d1 d2
  injection d2 with d2 d3
  rw [← d2] at c2 g2
  have b2 : h1 = (v1 q cc gc h m x y).2 := b2
  have cs : ∀ i, CLW.elem i = false → h2 i = h i := fun i hi => (g2.1 i (by
    cases z : List.elem i [162, 191, 192] with
    | false => rfl
    | true =>
      have z := List.elem_iff.mp z
      simp at z
      have n1 := cl_ne2 (k := 162) hi rfl
      have n2 := cl_ne2 (k := 191) hi rfl
      have n3 := cl_ne2 (k := 192) hi rfl
      omega)).trans (g1.1 i (by
    cases z : List.elem i [159, 160, 161] with
    | false => rfl
    | true =>
      have z := List.elem_iff.mp z
      simp at z
      have n1 := cl_ne2 (k := 159) hi rfl
      have n2 := cl_ne2 (k := 160) hi rfl
      have n3 := cl_ne2 (k := 161) hi rfl
      omega))
  have kp : KP cc gc h2 := KP_e (cs 0 rfl) (fun i h3 h4 => cs i (by
    cases z : CLW.elem i with
    | false => rfl
    | true =>
      have z := List.elem_iff.mp z
      simp [CLW] at z
      omega)) (cs 196 rfl) s.2.2.2.2.1
  refine SR_part (D := CLW) hc s c2 cs (by decide +kernel) (fun fs p e1 e2 => ⟨fs, (cs 0 rfl).trans e1, e2⟩) ((g2.2 162 27 rfl rfl).trans (Fi_e (g1.1 162 rfl))) kp ?_
  -- what was heard
  have k191 : Ar h1 191 = Ar h 191 := Ar_e (g1.1 191 rfl)
  have k192 : Ar h1 192 = Ar h 192 := Ar_e (g1.1 192 rfl)
  have lo : ∀ i, i < 162 → h2 i = h1 i := lo2
  by_cases ok : m < 12 ∧ v2 q cc gc x y = true
  · have e1 : (v1 q cc gc h m x y).2 = fset (aset (aset h 160 12 (upd (Ar h 160) m x)) 161 12 (upd (Ar h 161) m y)) 159 0 (.int (nI (m + 1))) := by
      unfold v1
      rw [decide_eq_false (show ¬ 12 ≤ m by omega), ok.2]
      rfl
    have e2 : (v251 q cc gc h1 m x y).2 = fset (aset (aset (fset h1 162 0 (.int (nI 0))) 191 12 (upd (Ar h1 191) m x)) 192 12 (upd (Ar h1 192) m y)) 162 47 (.int (nI (m + 1))) := by
      have o := ok.2
      rw [clu_ok, Bool.and_eq_true] at o
      unfold v251
      rw [o.1, o.2, decide_eq_true (show ¬ m = 12 by omega)]
      rfl
    rw [e1] at b2
    rw [e2] at d2
    have w1 : WT (aset (aset h 160 12 (upd (Ar h 160) m x)) 161 12 (upd (Ar h 161) m y)) := wt_as rfl (wt_as rfl hc.wt)
    have w2 : WT (aset (aset (fset h1 162 0 (.int (nI 0))) 191 12 (upd (Ar h1 191) m x)) 192 12 (upd (Ar h1 192) m y)) := wt_as rfl (wt_as rfl (wt_fs rfl (by decide) rfl c1.wt))
    refine ⟨m + 1, by omega, ⟨?_, ?_⟩, fun j hj => ?_⟩
    · rw [Fi_e (lo 159 (by decide)), b2]
      exact Fi_s w1 (by decide) rfl (by decide) rfl
    · rw [d2]
      exact Fi_s w2 (by decide) rfl (by decide) rfl
    · have t1 : Ar h2 160 = upd (Ar h 160) m x := by
        rw [Ar_e (lo 160 (by decide)), b2, Ar_f, Ar_n (by decide), Ar_s]
      have t2 : Ar h2 161 = upd (Ar h 161) m y := by
        rw [Ar_e (lo 161 (by decide)), b2, Ar_f, Ar_s]
      have t3 : Ar h2 191 = upd (Ar h 191) m x := by
        rw [d2, Ar_f, Ar_n (by decide), Ar_s, k191]
      have t4 : Ar h2 192 = upd (Ar h 192) m y := by
        rw [d2, Ar_f, Ar_s, k192]
      rw [t1, t2, t3, t4]
      by_cases e : j = m
      · rw [up_e e, up_e e, up_e e, up_e e]
        exact ⟨rfl, rfl, ok.2⟩
      · rw [up_n e, up_n e, up_n e, up_n e]
        exact z3 j (by omega)
  · have e1 : (v1 q cc gc h m x y).2 = h := by
      unfold v1
      by_cases o : 12 ≤ m
      · rw [decide_eq_true o]
        rfl
      · rw [decide_eq_false o]
        cases o2 : v2 q cc gc x y with
        | true => exact absurd ⟨by omega, o2⟩ ok
        | false => rfl
    have e2 : (v251 q cc gc h1 m x y).2 = fset h1 162 0 (.int (nI 0)) := by
      have o : v2 q cc gc x y = true → ¬ m < 12 := fun e a => ok ⟨a, e⟩
      rw [clu_ok, Bool.and_eq_true] at o
      unfold v251
      cases o1 : in_b x.toInt64 (Int64.ofNat 0) (3 : Int64) with
      | false => rfl
      | true =>
        dsimp only [cond]
        cases o2 : in_b y.toInt64 ((cond (cond (pm_cmp .ne x (nI 1)) false true) 1 0 : Int32).toInt64) ((cond (pm_cmp .ne x 0) (cond (pm_cmp .ne x (nI 1)) (cond (pm_cmp .ne x (nI 2)) (nI 1) (nI 5)) (nI 99)) (nI 4)).toInt64) with
        | false =>
          dsimp only [cond] at o2
          rw [o2]
        | true =>
          have o3 := o ⟨o1, o2⟩
          dsimp only [cond] at o2
          rw [o2, decide_eq_false (show ¬ ¬ m = 12 by omega)]
    rw [e1] at b2
    rw [e2] at d2
    refine ⟨m, hm, ⟨?_, ?_⟩, fun j hj => ?_⟩
    · rw [Fi_e (lo 159 (by decide)), b2]
      exact z1
    · rw [d2, b2]
      exact (Fi_n (Or.inr (by decide))).trans z2
    · rw [d2, b2, Ar_f, Ar_f, Ar_f, Ar_f]
      exact z3 j hj
theorem sr_forget (pr : prun sl 119 252 [] h h1 h2 v w) (s : SR h) : SR h2 := by
  obtain ⟨⟨m1, r1⟩, ⟨f1, i1⟩, ⟨m2, r2⟩, lo2, -⟩ := pr
  obtain ⟨q, cc, gc, hc, s⟩ := s
  obtain ⟨m, hm, ⟨z1, z2⟩, z3⟩ := id s.2.2.2.2.2
  obtain ⟨a1, c1, g1⟩ := v119_ok hc hm z1 r1
  injection a1 with b1 b2
  injection b2 with b2 b3
  rw [← b2] at c1 g1
  obtain ⟨a2, c2, g2⟩ := v252_ok c1 hm ((Fi_e (g1.1 162 rfl)).trans z2) r2
  injection a2 with d1 d2
  injection d2 with d2 d3
  rw [← d2] at c2 g2
  have b2 : h1 = fset h 159 0 (.int (nI 0)) := b2
  have d2 : h2 = fset (fset h1 162 0 (.int (nI 0))) 162 47 (.int (nI 0)) := d2
  have cs : ∀ i, (List.elem i [159, 162]) = false → h2 i = h i := fun i hi => by
    rw [d2, fs_ne (cl_ne2 (k := 162) hi rfl), fs_ne (cl_ne2 (k := 162) hi rfl), b2, fs_ne (cl_ne2 (k := 159) hi rfl)]
  have lo : ∀ i, i < 162 → h2 i = h1 i := lo2
  refine SR_part (D := [159, 162]) hc s c2 cs (by decide +kernel) (fun fs p e1 e2 => ⟨fs, (cs 0 rfl).trans e1, e2⟩) ((g2.2 162 27 rfl rfl).trans (Fi_e (g1.1 162 rfl))) (KP_e (cs 0 rfl) (fun i h3 h4 => cs i (by
    cases z : List.elem i [159, 162] with
    | false => rfl
    | true =>
      have z := List.elem_iff.mp z
      simp at z
      omega)) (cs 196 rfl) s.2.2.2.2.1) ⟨0, Nat.zero_le _, ⟨?_, ?_⟩, fun j hj => absurd hj (Nat.not_lt_zero j)⟩
  · rw [Fi_e (lo 159 (by decide)), b2]
    exact Fi_s hc.wt (by decide) rfl (by decide) rfl
  · rw [d2]
    exact Fi_s (wt_fs rfl (by decide) rfl c1.wt) (by decide) rfl (by decide) rfl
/-- keep -/
theorem Ar_l {a kd n : Nat} {f : Nat → Int32} (e : h a = .inl (kd, n, .inl f)) : Ar h a = f := by
  unfold Ar
  rw [e]
theorem k7_Fi {u : Int32} (k : k7 h u) : Fi h 0 7 = u := by
  obtain ⟨fs, e1, e2⟩ := k
  unfold Fi
  rw [e1]
  dsimp only
  rw [e2]
theorem in2_f (z : ¬ (0 ≤ x.toInt ∧ x.toInt ≤ 2)) : pm_cmp .lt x 0 = true ∨ (pm_cmp .lt x 0 = false ∧ pm_cmp .lt x (nI 3) = false ∧ pm_cmp .ge x (nI 3) = true) := by
  have b0 : pm_cmp .lt x 0 = decide (x.toInt < 0) := cl_lt (c := 0) (by decide)
  rw [b0, cl_lt (c := 3) (by decide), cl_ge (c := 3) (by decide)]
  by_cases a : x.toInt < 0
  · exact Or.inl (decide_eq_true a)
  · exact Or.inr ⟨decide_eq_false a, decide_eq_false (by omega), decide_eq_true (by omega)⟩
theorem sr_keep (pr : prun sl 125 264 [x] h h1 h2 v w) (r : RK h) (s : SR h) : SR h2 := by
  obtain ⟨⟨m, r1⟩, ⟨f1, i1⟩, ⟨m2, r2⟩, lo2, i2⟩ := pr
  obtain ⟨kq, ch, cc', gc', b, c, ⟨q8, k⟩, ⟨m5, m3, m4, hb⟩, ⟨c4, c5⟩, hj⟩ := r
  have kx := kx_run k r1
  dsimp only at kx
  have g5 := mF_hi f1 m5
  have hB := (f1.1 194 rfl).trans c4
  have hC := (f1.1 195 rfl).trans c5
  obtain ⟨hh, hq⟩ := id i1
  obtain ⟨x0, h0, -⟩ := ty_fld hh (g := 0) rfl
  have h12 := ty_ref hh (g := 12) (p := 170) rfl
  have h52 := ty_ref hh (g := 52) (p := 194) rfl
  have h53 := ty_ref hh (g := 53) (p := 195) rfl
  have h54 := ty_ref hh (g := 54) (p := 196) rfl
  obtain ⟨f, hN, -⟩ := ty_arrE hh (i := 170) (by decide) rfl
  obtain ⟨-, -, -, ⟨g, hK, -⟩⟩ := id hq
  have d := rn_dt (F := 10) (Lo := 1000) (hd_keep (fr := 10) (lo := 1000) (sl := sl) x h0 g5 h52 h53 h54 h12 hN hK hB hC (by omega) (by omega)) r2
  have hx : ∀ a, Nat.ble 162 a = true → h1 a = h a := fun a ha => f1.1 a ha
  have lo : ∀ i, i < 162 → h2 i = h1 i := lo2
  obtain ⟨q, cc, gc, hc, s⟩ := s
  rcases d with ⟨e, d⟩ | ⟨i, gk, hi, rfl, d, hcp⟩
  · have d2 : h2 = mset h1 0 (.int 0) := congrArg (fun z => z.2.1) d
    rw [in2_b] at e
    rw [e] at kx
    have kx : h1 = h := kx
    rw [kx, mset_w (g := 0) hc.wt rfl rfl] at d2
    rw [d2]
    have c2 : HC q cc gc (fset h 162 0 (.int 0)) := hc_f rfl rfl (by decide) rfl hc
    exact ⟨q, cc, gc, c2, SR_fr (W := [162]) (V := [(162, 0)]) hc s (fr_f rfl rfl fr_0) (by decide +kernel)⟩
  · have d2 : h2 = aset (aset (zset (mset h1 0 (.int 0)) 194 3 (upd b i 1)) 195 3 (upd c i (nI ch))) 196 288 gk := congrArg (fun z => z.2.1) d
    rw [nI_rg hi] at kx
    have kx : k7 h1 (nI kq ||| (Int32.ofInt 1 <<< (nI i &&& 31))) := kx
    rw [(kf_set kq q8 i hi).1] at kx
    obtain ⟨a1, c1, g1⟩ := v125_ok hc (by omega) hi r1
    injection a1 with b1 b2
    injection b2 with b2 b3
    rw [← b2] at c1 g1
    have e1 : (v125 q cc gc h i).2 = fset (cp73 h (124 + 6 * i) 13) 0 7 (.int ((Fi h 0 7) ||| (shl (nI 1) (nI i)))) := by
      unfold v125
      rw [decide_eq_true hi]
      rfl
    rw [e1] at b2
    have hm0 : mset h1 0 (.int 0) = fset h1 162 0 (.int 0) := mset_w (g := 0) c1.wt rfl rfl
    rw [hm0] at d2
    have up : ∀ a, a ≠ 162 → a ≠ 194 → a ≠ 195 → a ≠ 196 → h2 a = h1 a := fun a n1 n2 n3 n4 => by
      rw [d2, asR_ne n4, asR_ne n3, zset_nei n2, fs_ne n1]
    have ug : ∀ g, g ≠ 0 → Fi h2 162 g = Fi h 162 g := fun g hg => by
      rw [d2, Fi_a (by decide), Fi_a (by decide), Fi_e (zset_nei (by decide)), Fi_n (Or.inr hg), Fi_e (hx 162 rfl)]
    have ch1 : ∀ a, a ≠ 0 → (a < 124 ∨ 142 ≤ a) → h1 a = h a := fun a n0 n1 => by
      rw [b2, fs_ne n0]
      exact cp73_ne (by omega)
    have cs : ∀ a, (List.elem a ([0, 162, 194, 195, 196] ++ (List.range 18).map (fun j => 124 + j))) = false → h2 a = h a := fun a ha => by
      have n : ∀ k, (List.elem k ([0, 162, 194, 195, 196] ++ (List.range 18).map (fun j => 124 + j))) = true → a ≠ k := fun k hk => cl_ne2 ha hk
      have n124 : ∀ j, j < 18 → a ≠ 124 + j := fun j hj => n _ (List.elem_iff.mpr (List.mem_append_right _ (List.mem_map.mpr ⟨j, List.mem_range.mpr hj, rfl⟩)))
      rw [up a (n 162 rfl) (n 194 rfl) (n 195 rfl) (n 196 rfl)]
      refine ch1 a (n 0 rfl) ?_
      by_cases y : 124 ≤ a ∧ a < 142
      · have := n124 (a - 124) (by omega)
        omega
      · omega
    have c2 : HC q cc gc h2 := HC_n hc (wt_of i2.1) ((Fi_e (cs 5 rfl)).trans hc.x0) ((Fi_e (cs 5 rfl)).trans hc.x1) ((ug 3 (by decide)).trans hc.m3) ((ug 4 (by decide)).trans hc.m4) (ug 23 (by decide)) (fun r hr => Fi_e (cs r (by rcases hr with rfl | rfl <;> rfl))) (k0_e (lo 0 (by decide)) (by
      rw [b2]
      exact k0_f7 (cp73_ne (by omega)) (by decide))) hc.cb hc.gb
    have k9 : k0f 9 h h2 := k0_e (lo 0 (by decide)) (by
      rw [b2]
      exact k0_f7 (cp73_ne (by omega)) (by decide))
    obtain ⟨mm, hm, ⟨z1, z2⟩, z3⟩ := id s.2.2.2.2.2
    have r196 : Ar h2 196 = gk := by
      rw [d2, Ar_s]
    have f170 : f = Ar h 170 := (Ar_l hN).symm.trans (Ar_e (hx 170 rfl))
    have g196 : g = Ar h 196 := (Ar_l hK).symm.trans (Ar_e (hx 196 rfl))
    refine SR_part (D := [0, 162, 194, 195, 196] ++ (List.range 18).map (fun j => 124 + j)) hc s c2 cs (by decide +kernel) k9 (ug 27 (by decide)) (fun j hj3 hk => ?_) ⟨mm, hm, ⟨(Fi_e (cs 159 rfl)).trans z1, (ug 47 (by decide)).trans z2⟩, fun j hj => ?_⟩
    · rw [Fi_e (lo 0 (by decide)), k7_Fi kx, kf_bit kq q8 i hi j hj3] at hk
      rw [r196]
      by_cases y : j = i
      · rw [y]
        have e : ∀ k, k < 96 → gk (96 * i + k) = Ar h 170 k := fun k hk => by
          rw [hcp.1 k hk, f170, Nat.zero_add]
        refine ⟨RS_cg hc.cb hc.gb e (RSb_e (fun a h3 h4 => ?_) (RSb_cp (s := 124 + 6 * i) (t := 13) hc.cb hc.gb (xst_124 hi) hc.wt s.2.1.1)), RI_cg hc.cb hc.gb e s.2.1.2⟩
        rw [lo a (by omega), b2, fs_ne (by omega)]
      · rw [decide_eq_false y, Bool.false_or, ← k7_Fi k] at hk
        obtain ⟨q1, q2⟩ := s.2.2.2.2.1 j hj3 hk
        have e : ∀ k, k < 96 → gk (96 * j + k) = Ar h 196 (96 * j + k) := fun k hk => by
          rw [hcp.2 _ (by omega), g196]
        refine ⟨RS_cg hc.cb hc.gb e (RSb_e (fun a h3 h4 => ?_) q1), RI_cg hc.cb hc.gb e q2⟩
        rw [lo a (by omega), b2, fs_ne (by omega)]
        exact cp73_ne (by omega)
    · rw [Ar_e (cs 160 rfl), Ar_e (cs 161 rfl), Ar_e (cs 191 rfl), Ar_e (cs 192 rfl)]
      exact z3 j hj
/-- again -/
theorem sr_again (pr : prun sl 126 265 [x] h h1 h2 v w) (r : RK h) (s : SR h) : SR h2 := by
  obtain ⟨⟨m, r1⟩, ⟨f1, i1⟩, ⟨m2, r2⟩, lo2, i2⟩ := pr
  obtain ⟨kq, ch, cc', gc', b, c, ⟨q8, k⟩, ⟨m5, m3, m4, hb⟩, ⟨c4, c5⟩, hj⟩ := r
  have g5 := mF_hi f1 m5
  have hB := (f1.1 194 rfl).trans c4
  have hC := (f1.1 195 rfl).trans c5
  obtain ⟨hh, hq⟩ := id i1
  obtain ⟨x0, h0, -⟩ := ty_fld hh (g := 0) rfl
  obtain ⟨x27, h27, -⟩ := ty_fld hh (g := 27) rfl
  have h12 := ty_ref hh (g := 12) (p := 170) rfl
  have h52 := ty_ref hh (g := 52) (p := 194) rfl
  have h53 := ty_ref hh (g := 53) (p := 195) rfl
  have h54 := ty_ref hh (g := 54) (p := 196) rfl
  obtain ⟨g, hN, -⟩ := ty_arrE hh (i := 170) (by decide) rfl
  obtain ⟨-, -, -, ⟨f, hK, -⟩⟩ := id hq
  have d := rn_dt (F := 10) (Lo := 1000) (hd_agy (fr := 10) (lo := 1000) (sl := sl) x h0 g5 h27 h52 h53 h54 h12 hN hK hB hC (by omega) (by omega)) r2
  have hx : ∀ a, Nat.ble 162 a = true → h1 a = h a := fun a ha => f1.1 a ha
  have lo : ∀ i, i < 162 → h2 i = h1 i := lo2
  have eb : kbit (nI kq) x = agB b c (nI ch) x := by
    cases hin : in_b x.toInt64 0 2 with
    | false =>
      have e2 := hin
      rw [in2_b] at e2
      unfold agB kbit
      rw [hin, e2, Bool.false_and, Bool.false_and]
    | true =>
      obtain ⟨i, hi, rfl⟩ := in3 x hin
      rw [(hj i hi).2]
      unfold agB
      rw [hin, Bool.true_and, nI_clamp (by omega)]
  obtain ⟨q, cc, gc, fi, si, hc, s, hfi, hsi, e1, e2, e3, pa⟩ := SR_open s
  -- the class
  have cl : (kbit (nI kq) x = false → h1 = h) ∧ ∀ i, i < 3 → x = nI i → kbit (nI kq) x = true → h1 = fset (cp73 h 13 (124 + 6 * i)) 25 2 (.int (nI 0)) := by
    by_cases z : 0 ≤ x.toInt ∧ x.toInt ≤ 2
    · obtain ⟨i, rfl, hi0, ei⟩ := hI_of (x := x) z.1
      have hi : i < 3 := by omega
      obtain ⟨a1, -, -⟩ := v126_ok hc (by omega) r1
      injection a1 with b1 b2
      injection b2 with b2 b3
      have ek : pm_cmp .ne ((shr (Fi h 0 7) (nI i)) &&& (nI 1)) 0 = kbit (nI kq) (nI i) := by
        unfold kbit
        rw [nI_rg hi, Bool.true_and, k7_Fi k]
        rfl
      unfold v126 at b2
      rw [decide_eq_false (show ¬ 3 ≤ i by omega), ek] at b2
      refine ⟨fun e => ?_, fun j hj3 ej e => ?_⟩
      · rw [e] at b2
        exact b2
      · rw [e] at b2
        have : i = j := nI_ij (by omega) (by omega) ej
        subst this
        exact b2
    · have kf : kbit (nI kq) x = false := by
        unfold kbit
        rw [decide_eq_false z, Bool.false_and]
      have he : h1 = h := by
        rcases in2_f z with u | ⟨u1, u2, u3⟩
        · have a1 := v126w1_ok hc u r1
          injection a1 with b1 b2
          injection b2 with b2 b3
        · have a1 := v126w2_ok hc u1 u3 r1
          injection a1 with b1 b2
          injection b2 with b2 b3
      exact ⟨fun _ => he, fun i _ _ e => by rw [kf] at e; cases e⟩
  rcases d with ⟨e, d⟩ | ⟨i, gk, hi, ei, e, hcp, d⟩
  · have d2 : h2 = mset h1 0 (.int 0) := congrArg (fun z => z.2.1) d
    rw [cl.1 (eb.trans e), mset_w (g := 0) hc.wt rfl rfl] at d2
    rw [d2]
    have c2 : HC q cc gc (fset h 162 0 (.int 0)) := hc_f rfl rfl (by decide) rfl hc
    exact ⟨q, cc, gc, c2, SR_fr (W := [162]) (V := [(162, 0)]) hc s (fr_f rfl rfl fr_0) (by decide +kernel)⟩
  · have kt : kbit (nI kq) x = true := eb.trans e
    have b2 := cl.2 i hi ei kt
    have cA : HC q cc gc (cp73 h 13 (124 + 6 * i)) := cp73_hc rfl hc
    have c1 : HC q cc gc h1 := by
      rw [b2]
      exact hc_f rfl rfl (by decide) rfl cA
    have d2 : h2 = mset (aset (mset h1 0 (.int 0)) 170 96 gk) 27 (.int 0) := congrArg (fun z => z.2.1) d
    have cB : HC q cc gc (fset h1 162 0 (.int 0)) := hc_f rfl rfl (by decide) rfl c1
    have cC : HC q cc gc (aset (fset h1 162 0 (.int 0)) 170 96 gk) := hc_a rfl rfl cB
    rw [mset_w (g := 0) c1.wt rfl rfl, mset_w (g := 27) cC.wt rfl rfl] at d2
    have c2 : HC q cc gc h2 := by
      rw [d2]
      exact hc_f rfl rfl (by decide) rfl cC
    have up : ∀ a, a ≠ 162 → a ≠ 170 → h2 a = h1 a := fun a n1 n2 => by
      rw [d2, fs_ne n1, asR_ne n2, fs_ne n1]
    have ch1 : ∀ a, a ≠ 25 → (a < 13 ∨ 19 ≤ a) → h1 a = h a := fun a n0 n1 => by
      rw [b2, fs_ne n0]
      exact cp73_ne (by omega)
    have cs : ∀ a, CK.elem a = true → h2 a = h a := fun a e => by
      have w := of_decide_eq_true (List.all_eq_true.mp CK_un a (List.elem_iff.mp e))
      exact (up a w.2.1 w.1).trans (ch1 a w.2.2.1 w.2.2.2)
    have ka : kpt AK h h2 := fun a e => Ar_e (cs a (List.elem_iff.mpr (List.mem_append_left _ (List.elem_iff.mp e))))
    have f47 : Fi h2 162 47 = Fi h 162 47 := by
      rw [d2, Fi_n (Or.inr (by decide)), Fi_a (by decide), Fi_n (Or.inr (by decide)), Fi_e (hx 162 rfl)]
    have kf : kpf FK h h2 := by
      intro c g e
      have e := List.elem_iff.mp e
      simp only [FK, List.mem_cons, Prod.mk.injEq, List.not_mem_nil, or_false] at e
      rcases e with ⟨rfl, rfl⟩ | ⟨rfl, rfl⟩ | ⟨rfl, rfl⟩ | ⟨rfl, rfl⟩ | ⟨rfl, rfl⟩ | ⟨rfl, rfl⟩ | ⟨rfl, rfl⟩ | ⟨rfl, rfl⟩ | ⟨rfl, rfl⟩ | ⟨rfl, rfl⟩ | ⟨rfl, rfl⟩
      · exact Fi_e (cs 0 rfl)
      · exact Fi_e (cs 5 rfl)
      · exact Fi_e (cs 5 rfl)
      · exact Fi_e (cs 159 rfl)
      · exact f47
      · exact Fi_e (cs 124 rfl)
      · exact Fi_e (cs 124 rfl)
      · exact Fi_e (cs 130 rfl)
      · exact Fi_e (cs 130 rfl)
      · exact Fi_e (cs 136 rfl)
      · exact Fi_e (cs 136 rfl)
    have r170 : Ar h2 170 = gk := by
      rw [d2, Ar_f, Ar_s]
    have f196 : f = Ar h 196 := (Ar_l hK).symm.trans (Ar_e (hx 196 rfl))
    have ee : ∀ k, k < 96 → gk k = Ar h 196 (96 * i + k) := fun k hk => by
      have := hcp.1 k hk
      rw [Nat.zero_add, f196] at this
      exact this
    rw [ei, ← k7_Fi k] at kt
    obtain ⟨q1, q2⟩ := s.2.2.2.2.1 i hi kt
    refine SR_act c2 hc.qq s ka kf (fun fs p e1 e2 => ⟨fs, (cs 0 rfl).trans e1, e2⟩) ⟨?_, ?_⟩ ⟨fi, 0, hfi, Nat.zero_le _, ⟨?_, ?_, ?_⟩, fun j hj => absurd hj (Nat.not_lt_zero j)⟩
    · rw [r170]
      refine RS_cg hc.cb hc.gb ee (RSb_e (fun a h3 h4 => ?_) (RSb_cp (s := 13) (t := 124 + 6 * i) hc.cb hc.gb rfl hc.wt q1))
      rw [lo a (by omega), b2, fs_ne (by omega)]
    · rw [r170]
      exact RI_cg hc.cb hc.gb ee q2
    · rw [Fi_e (lo 25 (by decide)), b2, Fi_n (Or.inr (by decide)), Fi_e (cp73_ne (by omega))]
      exact e1
    · rw [Fi_e (lo 25 (by decide)), b2]
      exact Fi_s cA.wt (by decide) rfl (by decide) rfl
    · rw [d2]
      exact Fi_s cC.wt (by decide) rfl (by decide) rfl
end HKA
end MG95zzzex0
section MG95zzzex1
/-! law: SR is kept; what it answers, by the values -/
section LAW
variable {n fr lo sl cc gc n0 u : Nat} {q : QT} {h h1 h2 : pm_H} {v w r : Int32} {R : pm_Rs}
theorem HC_n2 {cc' gc' : Nat} (hc : HC q cc gc h) (w : WT h2) (a : Fi h2 5 0 = nI cc') (b : Fi h2 5 1 = nI gc') (c : Fi h2 162 3 = nI cc') (d : Fi h2 162 4 = nI gc') (e : Fi h2 162 23 = Fi h 162 23) (f : Fi h2 q.1 1 = Fi h q.1 1) (k8 : k0f 8 h h2) (h6 : cc' ≤ 6) (h8 : gc' ≤ 8) : HC q cc' gc' h2 := by
  obtain ⟨_, _, ⟨m3, m4, m23, rs⟩, ⟨_, _, b3, b4⟩, ⟨fs, r1, r2⟩, qq⟩ := hc
  obtain ⟨fs', r1', r2'⟩ := k8 fs _ r1 r2
  exact ⟨w, ⟨a, b⟩, ⟨c, d, e.trans m23, f.trans rs⟩, ⟨h6, h8, b3, b4⟩, ⟨fs', r1', r2'⟩, qq⟩
/-- another length of the reference's code -/
theorem HC_u (hc : HC q cc gc h) (w : WT h2) (cs : ∀ i, i < 162 → h2 i = h i) (f : ∀ g, g ≠ 23 → g ≠ 1 → Fi h2 162 g = Fi h 162 g) (e : Fi h2 162 23 = nI u) (hu : u ≤ 80) : HC (q.1, q.2.1, u) cc gc h2 := by
  obtain ⟨_, ⟨x0, x1⟩, ⟨m3, m4, m23, rs⟩, ⟨b1, b2, b3, b4⟩, ⟨fs, r1, r2⟩, qq⟩ := hc
  refine ⟨w, ⟨(Fi_e (cs 5 (by decide))).trans x0, (Fi_e (cs 5 (by decide))).trans x1⟩, ⟨(f 3 (by decide) (by decide)).trans m3, (f 4 (by decide) (by decide)).trans m4, e, ?_⟩, ⟨b1, b2, b3, hu⟩, ⟨fs, (cs 0 (by decide)).trans r1, r2⟩, qq⟩
  show Fi h2 q.1 1 = nI q.2.1
  rw [Fi_e (cs q.1 (by omega))]
  exact rs
theorem typ58 {o : Nat} (ho : o = 142 ∨ o = 145) (hh : ah_ok bB 198 [] h) (hr : pm_run PT n fr lo 58 (0, pm_l0 [.ref o] 2, [], h, 198, sl) = some R) : ah_ok bB 198 [] R.2.1 ∧ fm cxF h R.2.1 := by
  rcases ho with rfl | rfl
  · have d := rn_dt (F := 170) (Lo := 13600) (cxo205 [.ref 142] h 170 13600 sl ⟨⟨rfl, by decide⟩, trivial⟩ hh trivial (Nat.le_refl _) (Nat.le_refl _)) hr
    exact ⟨d.2.2.2, d.2.2.1.1⟩
  · have d := rn_dt (F := 170) (Lo := 13600) (cxo240 [.ref 145] h 170 13600 sl ⟨⟨rfl, by decide⟩, trivial⟩ hh trivial (Nat.le_refl _) (Nat.le_refl _)) hr
    exact ⟨d.2.2.2, d.2.2.1.1⟩
theorem rule_sz (hh : ah_ok bB 198 [] h) {p : Nat} (hp : p = 142 ∨ p = 145) : ∃ z : Nat, z ≤ 40 ∧ Fi h p 1 = nI z := by
  rcases hp with rfl | rfl
  · exact hc_rule hh rfl (by decide) rfl
  · exact hc_rule hh rfl (by decide) rfl
/-- what a law's reading leaves of the class: the answer behind it -/
def lawA (q : QT) (cc gc : Nat) (h : pm_H) (z : Nat) (r : Int32) : Int32 × pm_H := if q.1 = 145 then v122a q cc gc h z r else v122b q cc gc h z r
/-- the class: the read rule stands where it isn't ruling -/
theorem law_x (hL : LI5 h) (hc : HC q cc gc h) (ot : OT q h) (hr : pm_run PT n fr lo 122 (0, pm_l0 [.ref 0] 4, [], h, 198, sl) = some R) : ∃ (n0 z : Nat) (f0 : Nat → Int32) (hB : pm_H), (n0 ≤ 80 ∧ Fi h 162 15 = nI n0 ∧ ∀ j, j < n0 → f0 j = Ar h 172 j) ∧ (HC q cc gc hB ∧ ah_ok bB 198 [] hB) ∧ (kpf SF2 h hB ∧ (Ar hB (q.1 + 1) = Ar h (q.1 + 1) ∧ hB q.1 = h q.1) ∧ OT q hB) ∧ (z ≤ 40 ∧ Fi hB (287 - q.1) 1 = nI z ∧ (zK f0 n0 = true → kX hB (287 - q.1) (dsX f0 n0))) ∧ R = (some (.int (lawA q cc gc hB z (zF f0 n0)).1), (lawA q cc gc hB z (zF f0 n0)).2, 198, sl) ∧ HC q cc gc (lawA q cc gc hB z (zF f0 n0)).2 ∧ frm [1, 3, 4, 12, 142, 144, 145, 147] [(1, 1), (3, 1), (142, 3), (145, 3)] hB (lawA q cc gc hB z (zF f0 n0)).2 := by
  have hI : mInv h := hL.1
  obtain ⟨-, ⟨n0, cc0, f0, g0, hn, hc0, ⟨x1, x2⟩, ⟨y1, y2, y3⟩, hjj⟩, -⟩ := hL
  obtain ⟨fs, a1, a2, a3⟩ := ty_x2 hI.1
  have px : pX h n0 cc0 f0 := ⟨⟨fs, a1, a2, a3⟩, x1.1, x1.2, x2⟩
  obtain ⟨fo, o1, o2⟩ := id ot
  have ho : (287 - q.1 = 142 ∧ q.1 = 145) ∨ (287 - q.1 = 145 ∧ q.1 = 142) := by
    rcases hc.qq with e | e
    · exact Or.inr ⟨by omega, e⟩
    · exact Or.inl ⟨by omega, e⟩
  have ho2 : 287 - q.1 = 142 ∨ 287 - q.1 = 145 := by
    rcases ho with e | e
    · exact Or.inl e.1
    · exact Or.inr e.1
  have hok : oOk2 (287 - q.1) := by
    rcases ho with ⟨e, -⟩ | ⟨e, -⟩
    · rw [e]
      exact ⟨⟨by decide, by decide, by decide, by decide, by decide⟩, by decide, by decide, by decide, by decide, by decide⟩
    · rw [e]
      exact ⟨⟨by decide, by decide, by decide, by decide, by decide⟩, by decide, by decide, by decide, by decide, by decide⟩
  obtain ⟨rs, w5, s1, e0, e4, e5, es, er, eC⟩ := rule_ob hI.1 ho2
  obtain ⟨n, hh⟩ := rn_i rfl rfl rfl rfl hr
  have hh : pm_run PT n fr lo 122 (1, [some (.ref 0), none, none, none], [.ref 0], h, 198, sl) = some R := hh
  obtain ⟨n, hh⟩ := rn_gfo (g := 9) rfl rfl (by decide) o1 o2 hh
  obtain ⟨n, fr', lo', r1, hr1, hh⟩ := rn_call (w := 0) (t := 58) rfl rfl hh
  obtain ⟨c1, c2, c3⟩ := rdc_run hok hn px er eC e0 e4 e5 es hr1
  have c4 := rdc_keep ho hI.1 hr1
  have c5 : fm (sfF rdP) h r1.2.1 := sf_run rd_sf _ _ _ 58 _ r1 rfl hr1
  have c6 : fm (sfF w2P) h r1.2.1 := sf_run w2_ok _ _ _ 58 _ r1 rfl hr1
  obtain ⟨t1, t2⟩ := typ58 ho2 hI.1 hr1
  obtain ⟨rv, hB, s2⟩ := r1
  dsimp only at c1 c2 c3 c4 c5 c6 t1 t2
  subst c1
  subst c2
  have kf : kpf SF2 h hB := kp2_fm hI.1 c6
  have k162 : hB 162 = h 162 := t2.1 162 rfl
  have g1 : ruA q.1 q.1 = true := by
    unfold ruA
    rw [show Nat.beq q.1 q.1 = true from Nat.beq_refl _]
    rfl
  have g2 : ruA q.1 (q.1 + 1) = true := by
    unfold ruA
    rw [show Nat.beq (q.1 + 1) (q.1 + 1) = true from Nat.beq_refl _, Bool.true_or, Bool.or_true]
  have k8 : ∀ g, g = 8 ∨ g = 9 → k0f g h hB := fun g hg fs p e e2 => by
    obtain ⟨fs', e', -, hk⟩ := c5.2 0 10 fs e
    exact ⟨fs', e', (hk g (by rcases hg with rfl | rfl <;> rfl)).trans e2⟩
  have cB : HC q cc gc hB := HC_n2 hc (wt_of t1) ((kf 5 0 rfl).trans hc.x0) ((kf 5 1 rfl).trans hc.x1) ((Fi_e k162).trans hc.m3) ((Fi_e k162).trans hc.m4) (Fi_e k162) (Fi_e (c4 _ g1)) (k8 8 (Or.inl rfl)) hc.cb hc.gb
  obtain ⟨fs9, p1, p2⟩ := k8 9 (Or.inr rfl) fo _ o1 o2
  have hh : pm_run PT n fr lo 122 (7, [some (.ref 0), none, none, none], [.int (zF f0 n0)], hB, 198, sl) = some R := hh
  obtain ⟨n, hh⟩ := rn_i rfl rfl rfl rfl hh
  have hh : pm_run PT n fr lo 122 (8, [some (.ref 0), some (.int (zF f0 n0)), none, none], [], hB, 198, sl) = some R := hh
  obtain ⟨z, hz, ez⟩ := rule_sz t1 ho2
  have e172 : g0 = Ar h 172 := (Ar_of y2).symm
  refine ⟨n0, z, f0, hB, ⟨hn, Fi_m y1, fun j hj => by rw [← e172]; exact hjj j hj⟩, ⟨cB, t1⟩, ⟨kf, ⟨Ar_e (c4 _ g2), c4 _ g1⟩, ⟨fs9, p1, p2⟩⟩, ⟨hz, ez, c3⟩, ?_⟩
  unfold lawA
  rcases ho with ⟨e1, e2⟩ | ⟨e1, e2⟩
  · rw [if_pos e2]
    rw [e1] at ez p2
    exact v122a_ok cB hz ⟨fs9, p1, p2⟩ ez (na_17 t1) hh
  · rw [if_neg (by omega)]
    rw [e1] at ez p2
    exact v122b_ok cB hz ⟨fs9, p1, p2⟩ ez (na_17 t1) hh
/-- the reference reads the law -/
theorem law_m (hI : mInv h) (hc : HC q cc gc h) (hn : n0 ≤ 80) (t15 : Fi h 162 15 = nI n0) (hr : pm_run PT n fr lo 258 (0, pm_l0 [.ref 162] 5, [], h, 198, sl) = some R) : ∃ (hC : pm_H) (n : Nat), (mInv hC ∧ HC q cc gc hC) ∧ ((∀ i, i < 162 → hC i = h i) ∧ (∀ i, i ≠ 162 → i ≠ 175 → hC i = h i) ∧ ∀ g, g ≠ 0 → g ≠ 15 → g ≠ 16 → g ≠ 17 → g ≠ 18 → g ≠ 24 → Fi hC 162 g = Fi h 162 g) ∧ (zK (Ar h 172) n0 = true → kN hC (esM (Ar h 172) n0)) ∧ pm_run PT n fr lo 258 (9, [some (.ref 162), none, none, none, none], [.int (zA (Ar h 172) n0)], hC, 198, sl) = some R := by
  obtain ⟨hh0, hq⟩ := id hI
  obtain ⟨x0, h0, -⟩ := ty_fld hh0 (g := 0) rfl
  obtain ⟨w16, h16⟩ := ty_mi hh0 16 (by decide +kernel) (by decide +kernel)
  obtain ⟨w17, h17⟩ := ty_mi hh0 17 (by decide +kernel) (by decide +kernel)
  obtain ⟨w18, h18⟩ := ty_mi hh0 18 (by decide +kernel) (by decide +kernel)
  obtain ⟨w24, h24⟩ := ty_mi hh0 24 (by decide +kernel) (by decide +kernel)
  have h15 : mF h 15 (.int (nI n0)) := by
    have z := wt_i (c := 162) (g := 15) hc.wt (by decide) rfl (by decide) rfl
    rw [t15] at z
    exact z
  have h14 := ty_m14 hh0
  have h22 := ty_ref hh0 (g := 22) (p := 175) rfl
  have hA : h 172 = .inl (0, 80, .inl (Ar h 172)) := wt_a hc.wt (by decide) rfl (by decide)
  have hR : h 175 = .inl (0, 80, .inl (Ar h 175)) := wt_a hc.wt (by decide) rfl (by decide)
  have hC0 : h 174 = .inl (0, 80, .inl (Ar h 174)) := wt_a hc.wt (by decide) rfl (by decide)
  obtain ⟨x23, h23, v23⟩ := ty_fld hh0 (g := 23) rfl
  obtain ⟨n, hh⟩ := rn_i rfl rfl rfl rfl hr
  obtain ⟨n, hh⟩ := rn_i rfl rfl rfl rfl hh
  have hh : pm_run PT n fr lo 258 (2, [some (.ref 162), none, none, none, none], [.int 0, .ref 162], h, 198, sl) = some R := hh
  obtain ⟨n, hh⟩ := rn_pfm (w := x0) rfl rfl rfl (by decide) h0 hh
  obtain ⟨n, hh⟩ := rn_i rfl rfl rfl rfl hh
  have hh : pm_run PT n fr lo 258 (6, [some (.ref 162), none, none, none, none], [.ref 162], mset h 0 (.int 0), 198, sl) = some R := hh
  obtain ⟨n, fr', lo', r1, hr1, hh⟩ := rn_call (w := 0) (t := 196) rfl rfl hh
  obtain ⟨c1, c2, c3⟩ := rdn_run (tp := Ar h 172) (mset_arr (by decide) hR) hn (mF_ne (by decide) h15) (mF_ne (by decide) h16) (mF_ne (by decide) h17) (mF_ne (by decide) h18) (mF_ne (by decide) h24) (mF_ne (by decide) h14) (mset_arr (by decide) hA) (mF_ne (by decide) h22) hr1
  obtain ⟨f, hC, a, t, nn, c, rc2, tp2, er, d2, s2, m15, ha, ht, hnn, hcn, f1, f2, f3⟩ := rn_dt (F := 400) (Lo := 10000) (hd_readsRule (fr := 400) (lo := 10000) (sl := sl) (n := n0) (mF_ne (by decide) h15) (mF_ne (by decide) h16) (mF_ne (by decide) h17) (mF_ne (by decide) h18) (mF_ne (by decide) h24) (mF_ne (by decide) h14) (mset_arr (by decide) hA) (mF_ne (by decide) h22) (mset_arr (by decide) hR) hn (by omega) (by omega)) hr1
  subst er
  dsimp only at c1 c2 c3
  have c1 : f = zA (Ar h 172) n0 := by
    injection c1 with c1
    injection c1
  subst c1
  obtain ⟨p1, p2, p3, p4, p5, p6, p7, p8⟩ := s2
  have d0 : dD ruC ruG h hC := dD_tr (dD_set rfl) (dD_mono d2 (fun i q => by unfold ruC at q; rw [Bool.or_eq_false_iff] at q; exact q.1) (fun g q => by unfold ruG at q; rw [Bool.or_eq_false_iff, Bool.or_eq_false_iff] at q; exact q.2.2))
  have m0 : mF hC 0 (.int 0) := dD_mF d2 rfl (mF_self h0)
  have m23 : mF hC 23 x23 := dD_mF d2 rfl (mF_ne (by decide) h23)
  have mC : hC 174 = .inl (0, 80, .inl (Ar h 174)) := (d2.1 174 (by decide) rfl).trans (mset_arr (by decide) hC0)
  have dq : dD rDC (fun g => Nat.beq g 0 || rDG g) h hC := dD_tr (dD_set rfl) (dD_mono d2 (fun _ q => q) (fun g q => by rw [Bool.or_eq_false_iff] at q; exact q.2))
  have hI2 : mInv hC := ⟨dD_ty hh0 d0 (fun i hi _ _ => ru_cell hi p8 mC) (fun g hg b hb => ru_fld hg hb m0 m15 p1 p2 p5 p6 m23 v23 ha ht hnn hcn), rxQ_dD dq rfl rfl rfl rfl rfl rfl hq⟩
  have l2 : ∀ i, i < 162 → hC i = h i := x_lt d0 (fun i hi => ruC_lt hi)
  have cs : ∀ i, i ≠ 162 → i ≠ 175 → hC i = h i := fun i n1 n2 => dq.1 i n1 (by
    unfold rDC
    cases y : Nat.beq i 175 with
    | false => rfl
    | true => exact absurd (Nat.eq_of_beq_eq_true y) n2)
  have fg : ∀ g, g ≠ 0 → g ≠ 15 → g ≠ 16 → g ≠ 17 → g ≠ 18 → g ≠ 24 → Fi hC 162 g = Fi h 162 g := by
    intro g n1 n2 n3 n4 n5 n6
    obtain ⟨fs, e, -⟩ := id h0
    obtain ⟨fs', e', -, hk⟩ := dq.2 fs e
    have nb : ∀ k, g ≠ k → Nat.beq g k = false := fun k hk => by
      cases y : Nat.beq g k with
      | false => rfl
      | true => exact absurd (Nat.eq_of_beq_eq_true y) hk
    have z := hk g (by
      show (Nat.beq g 0 || rDG g) = false
      unfold rDG
      rw [nb 0 n1, nb 15 n2, nb 16 n3, nb 17 n4, nb 18 n5, nb 24 n6]
      rfl)
    unfold Fi
    rw [e, e']
    dsimp only
    rw [z]
  refine ⟨hC, n, ⟨hI2, HC_n2 hc (wt_of hI2.1) ((Fi_e (l2 5 (by decide))).trans hc.x0) ((Fi_e (l2 5 (by decide))).trans hc.x1) ((fg 3 (by decide) (by decide) (by decide) (by decide) (by decide) (by decide)).trans hc.m3) ((fg 4 (by decide) (by decide) (by decide) (by decide) (by decide) (by decide)).trans hc.m4) (fg 23 (by decide) (by decide) (by decide) (by decide) (by decide) (by decide)) (Fi_e (l2 q.1 (by have := hc.qq; omega))) (fun fs p e e2 => ⟨fs, (l2 0 (by decide)).trans e, e2⟩) hc.cb hc.gb⟩, ⟨l2, cs, fg⟩, c3, hh⟩
/-- the codes laid -/
theorem w197a_ar {m : Nat} : (∀ j, j < m → Ar (w197a q cc gc h m) 174 j = Ar h 175 j) := by
  have z := lp_in (f := fun i a => w197a_7b q cc gc a m i) (P := fun i a => Ar a 175 = Ar h 175 ∧ ∀ j, j < i → Ar a 174 j = Ar h 175 j) m 0 (fset h 162 23 (.int (nI m))) ⟨Ar_f, fun j hj => absurd hj (Nat.not_lt_zero j)⟩ (fun k a _ _ p => by
    obtain ⟨p1, p2⟩ := p
    refine ⟨?_, fun j hj => ?_⟩
    · show Ar (aset a 174 80 (upd (Ar a 174) k ((Ar a 175) k))) 175 = _
      rw [Ar_n (by decide)]
      exact p1
    · show Ar (aset a 174 80 (upd (Ar a 174) k ((Ar a 175) k))) 174 j = _
      rw [Ar_s, p1]
      by_cases y : j = k
      · rw [y, up_e rfl]
      · rw [up_n y]
        exact p2 j (by omega))
  exact fun j hj => z.2 j (by omega)
theorem w197b_ar {m : Nat} : (∀ j, j < m → Ar (w197b q cc gc h m) 174 j = Ar h 193 j) := by
  have z := lp_in (f := fun i a => w197b_7b q cc gc a m i) (P := fun i a => Ar a 193 = Ar h 193 ∧ ∀ j, j < i → Ar a 174 j = Ar h 193 j) m 0 (fset h 162 23 (.int (nI m))) ⟨Ar_f, fun j hj => absurd hj (Nat.not_lt_zero j)⟩ (fun k a _ _ p => by
    obtain ⟨p1, p2⟩ := p
    refine ⟨?_, fun j hj => ?_⟩
    · show Ar (aset a 174 80 (upd (Ar a 174) k ((Ar a 193) k))) 193 = _
      rw [Ar_n (by decide)]
      exact p1
    · show Ar (aset a 174 80 (upd (Ar a 174) k ((Ar a 193) k))) 174 j = _
      rw [Ar_s, p1]
      by_cases y : j = k
      · rw [y, up_e rfl]
      · rw [up_n y]
        exact p2 j (by omega))
  exact fun j hj => z.2 j (by omega)
theorem w258_ar {m : Nat} {t1 t2 t3 : Int32} : (∀ j, j < m → Ar (w258_35 q cc gc m t1 t2 t3 m 0 h) 193 j = Ar h 174 j) := by
  have z := lp_in (f := fun i a => w258_35b q cc gc a m t1 t2 t3 i) (P := fun i a => Ar a 174 = Ar h 174 ∧ ∀ j, j < i → Ar a 193 j = Ar h 174 j) m 0 h ⟨rfl, fun j hj => absurd hj (Nat.not_lt_zero j)⟩ (fun k a _ _ p => by
    obtain ⟨p1, p2⟩ := p
    refine ⟨?_, fun j hj => ?_⟩
    · show Ar (aset a 193 80 (upd (Ar a 193) k ((Ar a 174) k))) 174 = _
      rw [Ar_n (by decide)]
      exact p1
    · show Ar (aset a 193 80 (upd (Ar a 193) k ((Ar a 174) k))) 193 j = _
      rw [Ar_s, p1]
      by_cases y : j = k
      · rw [y, up_e rfl]
      · rw [up_n y]
        exact p2 j (by omega))
  exact fun j hj => z.2 j (by omega)
theorem w197a_f {m : Nat} (hm : m ≤ 80) (hw : WT h) : Fi (w197a q cc gc h m) 162 23 = nI m := by
  have w1 : WT (fset h 162 23 (.int (nI m))) := wt_fs rfl (by decide) rfl hw
  have z := (w197a_7_fr (q := q) (cc := cc) (gc := gc) (m2 := m) hm (j := m) (i := 0) w1).2.1 162 rfl
  show Fi (w197a_7 q cc gc m m 0 (fset h 162 23 (.int (nI m)))) 162 23 = nI m
  rw [Fi_e z]
  exact Fi_s hw (by decide) rfl (by decide) rfl
theorem w197b_f {m : Nat} (hm : m ≤ 80) (hw : WT h) : Fi (w197b q cc gc h m) 162 23 = nI m := by
  have w1 : WT (fset h 162 23 (.int (nI m))) := wt_fs rfl (by decide) rfl hw
  have z := (w197b_7_fr (q := q) (cc := cc) (gc := gc) (m2 := m) hm (j := m) (i := 0) w1).2.1 162 rfl
  show Fi (w197b_7 q cc gc m m 0 (fset h 162 23 (.int (nI m)))) 162 23 = nI m
  rw [Fi_e z]
  exact Fi_s hw (by decide) rfl (by decide) rfl
theorem frm_fi {W : List Nat} {V : List (Nat × Nat)} {g : Nat} (f : frm W V h h1) (e : V.elem (162, g) = false) : Fi h1 162 g = Fi h 162 g := f.2 162 g rfl e
/-- law, behind its reading: both codes are evaluated, the old one is laid back -/
theorem law_tail (hc : HC q cc gc h) (na : NA h 170 78 86 6) (hu : u ≤ 80) (e24 : Fi h 162 24 = nI u) (hh : pm_run PT n fr lo 258 (22, [some (.ref 162), some (.int r), none, none, none], [], h, 198, sl) = some R) : ∃ (h3 h5 : pm_H) (w : Int32), R = (some (.int w), h5, 198, sl) ∧ (HC q cc gc h5 ∧ frm [162, 163, 174, 176, 177, 193] [(162, 1), (162, 23)] h h5 ∧ ∀ j, j < q.2.2 → Ar h5 174 j = Ar h 174 j) ∧ (HC (q.1, q.2.1, u) cc gc h3 ∧ frm [162, 174, 176, 177, 193] [(162, 23)] h h3 ∧ ∀ j, j < u → Ar h3 174 j = Ar h 175 j) ∧ w = (v257 (q.1, q.2.1, u) cc gc h3).1 - (v257 q cc gc h).1 := by
  have hu2 := hc.zr
  obtain ⟨n, hh⟩ := rn_i rfl rfl rfl rfl hh
  have hh : pm_run PT n fr lo 258 (23, [some (.ref 162), some (.int r), none, none, none], [.ref 162], h, 198, sl) = some R := hh
  obtain ⟨n, fr1, lo1, r1, hh1, hh⟩ := rn_call (w := 0) (t := 257) rfl rfl hh
  obtain ⟨er, c1, f1⟩ := v257_ok hc na hh1
  subst er
  have hh : pm_run PT n fr lo 258 (26, [some (.ref 162), some (.int r), none, none, none], [.int (v257 q cc gc h).1], (v257 q cc gc h).2, 198, sl) = some R := hh
  have a174 : Ar (v257 q cc gc h).2 174 = Ar h 174 := Ar_e (f1.1 174 rfl)
  have a175 : Ar (v257 q cc gc h).2 175 = Ar h 175 := Ar_e (f1.1 175 rfl)
  have na1 : NA (v257 q cc gc h).2 170 78 86 6 := NA_e (Ar_e (f1.1 170 rfl)) na
  have f1' : frm [162, 174, 176, 177, 193] [(162, 23)] h (v257 q cc gc h).2 := fr_g rfl rfl f1 fr_0
  have e24a : Fi (v257 q cc gc h).2 162 24 = nI u := (frm_fi f1' rfl).trans e24
  generalize (v257 q cc gc h).1 = V1 at *
  generalize (v257 q cc gc h).2 = hA at *
  have hh : pm_run PT n fr lo 258 (26, [some (.ref 162), some (.int r), none, none, none], [.int V1], hA, 198, sl) = some R := hh
  obtain ⟨n, hh⟩ := rn_i rfl rfl rfl rfl hh
  obtain ⟨n, hh⟩ := rn_i rfl rfl rfl rfl hh
  have hh : pm_run PT n fr lo 258 (28, [some (.ref 162), some (.int r), some (.int V1), none, none], [.ref 162], hA, 198, sl) = some R := hh
  obtain ⟨n, hh⟩ := rn_gi (x := nI q.2.2) c1.wt rfl rfl (by decide) rfl (by decide) rfl c1.m23 hh
  obtain ⟨n, hh⟩ := rn_i rfl rfl rfl rfl hh
  obtain ⟨n, hh⟩ := rn_i rfl rfl rfl rfl hh
  obtain ⟨n, hh⟩ := rn_i rfl rfl rfl rfl hh
  have hh : pm_run PT n fr lo 258 (35, [some (.ref 162), some (.int r), some (.int V1), some (.int (nI q.2.2)), some (.int (nI 0))], [], hA, 198, sl) = some R := hh
  obtain ⟨n, wc, w2, f2, e23, hh⟩ := w258_35_ok (cc := cc) (gc := gc) (q := q) (z162_23 := q.2.2) (i := 0) (j := q.2.2) (by omega) (by omega) c1.wt hu2 c1.m23 hh
  have b193 := w258_ar (q := q) (cc := cc) (gc := gc) (h := hA) (m := q.2.2) (t1 := r) (t2 := V1) (t3 := nI q.2.2)
  have b175 : Ar (w258_35 q cc gc q.2.2 r V1 (nI q.2.2) q.2.2 0 hA) 175 = Ar hA 175 := Ar_e (f2.1 175 rfl)
  have e24b : Fi (w258_35 q cc gc q.2.2 r V1 (nI q.2.2) q.2.2 0 hA) 162 24 = nI u := (Fi_e (f2.1 162 rfl)).trans e24a
  have f2' : frm [162, 174, 176, 177, 193] [(162, 23)] h (w258_35 q cc gc q.2.2 r V1 (nI q.2.2) q.2.2 0 hA) := fr_g rfl rfl f2 f1'
  generalize w258_35 q cc gc q.2.2 r V1 (nI q.2.2) q.2.2 0 hA = hB at *
  have hh : pm_run PT n fr lo 258 (64, [some (.ref 162), some (.int r), some (.int V1), some (.int (nI q.2.2)), wc], [], hB, 198, sl) = some R := hh
  obtain ⟨n, hh⟩ := rn_i rfl rfl rfl rfl hh
  obtain ⟨n, hh⟩ := rn_i rfl rfl rfl rfl hh
  have hh : pm_run PT n fr lo 258 (66, [some (.ref 162), some (.int r), some (.int V1), some (.int (nI q.2.2)), wc], [.ref 162, .ref 162], hB, 198, sl) = some R := hh
  obtain ⟨n, hh⟩ := rn_gr w2 rfl rfl (by decide) rfl (by decide) (show _ = some (2, ((175 : Nat) : Int), 1) from rfl) rfl hh
  obtain ⟨n, hh⟩ := rn_i rfl rfl rfl rfl hh
  have hh : pm_run PT n fr lo 258 (70, [some (.ref 162), some (.int r), some (.int V1), some (.int (nI q.2.2)), wc], [.ref 162, .ref 175, .ref 162], hB, 198, sl) = some R := hh
  obtain ⟨n, hh⟩ := rn_gi (x := nI u) w2 rfl rfl (by decide) rfl (by decide) rfl e24b hh
  have hh : pm_run PT n fr lo 258 (73, [some (.ref 162), some (.int r), some (.int V1), some (.int (nI q.2.2)), wc], [.int (nI u), .ref 175, .ref 162], hB, 198, sl) = some R := hh
  obtain ⟨n, fr1, lo1, r1, hh1, hh⟩ := rn_call (w := 0) (t := 197) rfl rfl hh
  obtain ⟨er, w3, f3⟩ := w197a_ok (q := q) (cc := cc) (gc := gc) w2 (by omega) hu hh1
  subst er
  have d174 := w197a_ar (q := q) (cc := cc) (gc := gc) (h := hB) (m := u)
  have e23c : Fi (w197a q cc gc hB u) 162 23 = nI u := w197a_f hu w2
  have d193 : Ar (w197a q cc gc hB u) 193 = Ar hB 193 := Ar_e (f3.1 193 rfl)
  have f3' : frm [162, 174, 176, 177, 193] [(162, 23)] h (w197a q cc gc hB u) := fr_g rfl rfl f3 f2'
  generalize w197a q cc gc hB u = hC at *
  have ne : ∀ i, i < 162 → (List.elem i [162, 174, 176, 177, 193]) = false := fun i hi => by
    cases y : List.elem i [162, 174, 176, 177, 193] with
    | false => rfl
    | true =>
      have y := List.elem_iff.mp y
      simp at y
      omega
  have nv : ∀ g, g ≠ 23 → (List.elem ((162, g) : Nat × Nat) [(162, 23)]) = false := fun g hg => by
    cases y : List.elem ((162, g) : Nat × Nat) [(162, 23)] with
    | false => rfl
    | true =>
      have y := List.elem_iff.mp y
      simp at y
      exact absurd y hg
  have c3 : HC (q.1, q.2.1, u) cc gc hC := HC_u hc w3 (fun i hi => f3'.1 i (ne i hi)) (fun g h1 _ => frm_fi f3' (nv g h1)) e23c hu
  have na3 : NA hC 170 78 86 6 := NA_e (Ar_e (f3'.1 170 rfl)) na
  have hh : pm_run PT n fr lo 258 (76, [some (.ref 162), some (.int r), some (.int V1), some (.int (nI q.2.2)), wc], [], hC, 198, sl) = some R := hh
  obtain ⟨n, hh⟩ := rn_i rfl rfl rfl rfl hh
  have hh : pm_run PT n fr lo 258 (77, [some (.ref 162), some (.int r), some (.int V1), some (.int (nI q.2.2)), wc], [.ref 162], hC, 198, sl) = some R := hh
  obtain ⟨n, fr1, lo1, r1, hh1, hh⟩ := rn_call (w := 0) (t := 257) rfl rfl hh
  obtain ⟨er, c4, f4⟩ := v257_ok c3 na3 hh1
  subst er
  have g193 : Ar (v257 (q.1, q.2.1, u) cc gc hC).2 193 = Ar hC 193 := Ar_e (f4.1 193 rfl)
  have f4' : frm [162, 174, 176, 177, 193] [(162, 23)] h (v257 (q.1, q.2.1, u) cc gc hC).2 := fr_g rfl rfl f4 f3'
  generalize (v257 (q.1, q.2.1, u) cc gc hC).2 = hD at *
  generalize hV : (v257 (q.1, q.2.1, u) cc gc hC).1 = V2 at *
  have hh : pm_run PT n fr lo 258 (80, [some (.ref 162), some (.int r), some (.int V1), some (.int (nI q.2.2)), wc], [.int V2], hD, 198, sl) = some R := hh
  obtain ⟨n, hh⟩ := rn_i rfl rfl rfl rfl hh
  obtain ⟨n, hh⟩ := rn_i rfl rfl rfl rfl hh
  obtain ⟨n, hh⟩ := rn_i rfl rfl rfl rfl hh
  have hh : pm_run PT n fr lo 258 (84, [some (.ref 162), some (.int r), some (.int V1), some (.int (nI q.2.2)), some (.int V2)], [.ref 162, .ref 162], hD, 198, sl) = some R := hh
  obtain ⟨n, hh⟩ := rn_gr c4.wt rfl rfl (by decide) rfl (by decide) (show _ = some (2, ((193 : Nat) : Int), 1) from rfl) rfl hh
  obtain ⟨n, hh⟩ := rn_i rfl rfl rfl rfl hh
  have hh : pm_run PT n fr lo 258 (88, [some (.ref 162), some (.int r), some (.int V1), some (.int (nI q.2.2)), some (.int V2)], [.int (nI q.2.2), .ref 193, .ref 162], hD, 198, sl) = some R := hh
  obtain ⟨n, fr1, lo1, r1, hh1, hh⟩ := rn_call (w := 0) (t := 197) rfl rfl hh
  obtain ⟨er, w5, f5⟩ := w197b_ok (q := q) (cc := cc) (gc := gc) c4.wt (by omega) hu2 hh1
  subst er
  have k174 := w197b_ar (q := q) (cc := cc) (gc := gc) (h := hD) (m := q.2.2)
  have e23e : Fi (w197b q cc gc hD q.2.2) 162 23 = nI q.2.2 := w197b_f hu2 c4.wt
  have f5' : frm [162, 174, 176, 177, 193] [(162, 23)] h (w197b q cc gc hD q.2.2) := fr_g rfl rfl f5 f4'
  generalize w197b q cc gc hD q.2.2 = hE at *
  have c5 : HC q cc gc hE := HC_u (q := q) hc w5 (fun i hi => f5'.1 i (ne i hi)) (fun g h1 _ => frm_fi f5' (nv g h1)) e23e hu2
  have hh : pm_run PT n fr lo 258 (91, [some (.ref 162), some (.int r), some (.int V1), some (.int (nI q.2.2)), some (.int V2)], [], hE, 198, sl) = some R := hh
  obtain ⟨er, c6, f6⟩ := v258e_ok c5 hh
  have f6' : frm [162, 163, 174, 176, 177, 193] [(162, 1), (162, 23)] h (v258e q cc gc hE r V1 (nI q.2.2) V2).2 := fr_g rfl rfl f6 (fr_g rfl rfl f5' fr_0)
  refine ⟨hC, (v258e q cc gc hE r V1 (nI q.2.2) V2).2, V2 - V1, er, ⟨c6, f6', fun j hj => ?_⟩, ⟨c3, f3', fun j hj => ?_⟩, by rw [hV]⟩
  · rw [Ar_e (f6.1 174 rfl), k174 j hj, g193, d193, b193 j hj, a174]
  · rw [d174 j hj, b175, a175]
theorem evl_cgC {f : List Int32 → Int32 → List Int32} {C D : Nat → Int32} : ∀ {k : Nat}, (∀ j, j < k → C j = D j) → evl f C k = evl f D k
  | 0, _ => rfl
  | k + 1, e => by
    show f (evl f C k) (C k) = f (evl f D k) (D k)
    rw [evl_cgC (fun j hj => e j (by omega)), e k (by omega)]
theorem VR_cgD {C D D' : Nat → Int32} (e : ∀ j, j < q.2.2 → D' j = D j) (s : VR q cc gc C D) : VR q cc gc C D' := by
  obtain ⟨V, v0, v1, v2, v3⟩ := s
  refine ⟨V, v0, v1, v2, fun z => ⟨?_, fun A => ?_⟩⟩
  · obtain ⟨⟨dn, hd⟩, -⟩ := v3 z
    exact ⟨dn, (dep_cong e).trans hd⟩
  · rw [evl_cgC e]
    exact (v3 z).2 A
theorem m1p_ge : ∀ p, p < 41 → pm_cmp .ge (Int32.ofInt (-1) - nI p) 0 = false := by decide +kernel
def kSB (W : List Nat) : Bool := SB.all (fun a => !(W.elem a))
def kS2 (V : List (Nat × Nat)) : Bool := SF2.all (fun p => isO p.1 && !(V.elem p))
theorem kpt_fr {W : List Nat} {V : List (Nat × Nat)} (f : frm W V h h1) (k : kSB W = true) : kpt SB h h1 := fun a e => Ar_e (f.1 a (nel (List.all_eq_true.mp k a (List.elem_iff.mp e))))
theorem kpf_fr {W : List Nat} {V : List (Nat × Nat)} (f : frm W V h h1) (k : kS2 V = true) : kpf SF2 h h1 := fun c g e => by
  have z := List.all_eq_true.mp k (c, g) (List.elem_iff.mp e)
  rw [Bool.and_eq_true] at z
  exact f.2 c g z.1 (nel2 z.2)
theorem SB_ne : SB.all (fun a => decide (a ≠ 162 ∧ a ≠ 175)) = true := by decide +kernel
theorem SF2_m : SF2.all (fun p => decide (p.1 < 162) || (Nat.beq p.1 162 && (decide (p.2 ≠ 0 ∧ p.2 ≠ 15 ∧ p.2 ≠ 16) && decide (p.2 ≠ 17 ∧ p.2 ≠ 18 ∧ p.2 ≠ 24)))) = true := by decide +kernel
/-- law keeps SR -/
theorem sr_law (hL : LI5 h) (pr : prun sl 122 258 [] h h1 h2 v w) (s : SR h) : SR h2 := by
  obtain ⟨q, cc, gc, hc, ⟨⟨vr, ot⟩, sc⟩⟩ := s
  obtain ⟨⟨m, r1⟩, ⟨f1, i1⟩, ⟨m2, r2⟩, lo1, i2⟩ := pr
  have hI : mInv h := hL.1
  obtain ⟨n0, z, f0, hB, ⟨hn, t15, hjj⟩, ⟨cB, tB⟩, ⟨kfB, ⟨kC, kq⟩, ⟨fs9, p1, p2⟩⟩, ⟨hz, ez, kx⟩, er, c1, g1⟩ := law_x hL hc ot r1
  injection er with b1 b2
  injection b2 with b2 b3
  rw [← b2] at c1 g1
  have fx : fm (sfF w2P) h h1 := sf_run w2_ok _ _ _ 122 _ (some (.int v), h1, 198, sl) rfl r1
  have kf1 : kpf SF2 h h1 := kp2_fm hI.1 fx
  have ka1 : kpt SB h h1 := s2x_kpt (R := (some (.int v), h1, 198, sl)) rfl rfl rfl hI f1 r1
  have eC1 : Ar h1 (q.1 + 1) = Ar h (q.1 + 1) := by
    refine Eq.trans (Ar_e (g1.1 (q.1 + 1) ?_)) kC
    rcases hc.qq with e | e <;> (rw [e]; rfl)
  have ot1 : h1 0 = .inr (10, fs9) := (g1.1 0 rfl).trans p1
  have x172 : Ar h1 172 = Ar h 172 := Ar_e (f1.1 172 rfl)
  have x174 : Ar h1 174 = Ar h 174 := Ar_e (f1.1 174 rfl)
  obtain ⟨hC, n, ⟨iC, cC⟩, ⟨l2, cs, fg⟩, kn, hh⟩ := law_m i1 c1 hn ((Fi_e (f1.1 162 rfl)).trans t15) r2
  rw [x172] at kn hh
  have kaC : kpt SB h1 hC := fun a e => by
    have y := of_decide_eq_true (List.all_eq_true.mp SB_ne a (List.elem_iff.mp e))
    exact Ar_e (cs a y.1 y.2)
  have kfC : kpf SF2 h1 hC := fun c g e => by
    have y := List.all_eq_true.mp SF2_m (c, g) (List.elem_iff.mp e)
    rw [Bool.or_eq_true, Bool.and_eq_true, Bool.and_eq_true] at y
    rcases y with y | ⟨y1, y2, y3⟩
    · exact Fi_e (l2 c (of_decide_eq_true y))
    · have y1 : c = 162 := Nat.eq_of_beq_eq_true y1
      subst y1
      have y2 := of_decide_eq_true y2
      have y3 := of_decide_eq_true y3
      exact fg g y2.1 y2.2.1 y2.2.2 y3.1 y3.2.1 y3.2.2
  have q162 : q.1 + 1 < 162 ∧ q.1 < 162 := by
    have := hc.qq
    omega
  have vrC : VR q cc gc (Ar hC (q.1 + 1)) (Ar hC 174) := by
    rw [Ar_e (l2 _ q162.1), eC1, Ar_e (cs 174 (by decide) (by decide)), x174]
    exact vr
  obtain ⟨n, hh⟩ := rn_i rfl rfl rfl rfl hh
  obtain ⟨n, hh⟩ := rn_i rfl rfl rfl rfl hh
  have hh : pm_run PT n _ _ 258 (11, [some (.ref 162), some (.int (zA (Ar h 172) n0)), none, none, none], [.int (zA (Ar h 172) n0)], hC, 198, sl) = some (some (.int w), h2, 198, sl) := hh
  obtain ⟨n, hh⟩ := rn_if (cc := .ge) (off := 11) (t := 22) rfl rfl hh
  cases hz2 : zK (Ar h 172) n0 with
  | false =>
    obtain ⟨p, p1', -, p3⟩ := zK_nF hz2
    rw [p3, m1p_ge p (by omega)] at hh
    have hh : pm_run PT n _ _ 258 (14, [some (.ref 162), some (.int (Int32.ofInt (-1) - nI p)), none, none, none], [], hC, 198, sl) = some (some (.int w), h2, 198, sl) := hh
    obtain ⟨n, hh⟩ := rn_i rfl rfl rfl rfl hh
    obtain ⟨n, hh⟩ := rn_i rfl rfl rfl rfl hh
    obtain ⟨n, hh⟩ := rn_i rfl rfl rfl rfl hh
    obtain ⟨n, hh⟩ := rn_i rfl rfl rfl rfl hh
    obtain ⟨n, hh⟩ := rn_i rfl rfl rfl rfl hh
    have e := (rn_ret rfl (Or.inl rfl) hh).2
    injection e with d1 d2
    injection d2 with d2 d3
    rw [d2]
    exact ⟨q, cc, gc, cC, ⟨vrC, ⟨fs9, (l2 0 (by decide)).trans ot1, p2⟩⟩, SRc_keep (kpt_tr ka1 kaC) (kpf_tr kf1 kfC) sc⟩
  | true =>
    rw [zK_A hz2, show pm_cmp .ge (Int32.ofInt 0) 0 = true by decide] at hh
    have hh : pm_run PT n _ _ 258 (22, [some (.ref 162), some (.int (Int32.ofInt 0)), none, none, none], [], hC, 198, sl) = some (some (.int w), h2, 198, sl) := hh
    obtain ⟨k24, D, kD, kj⟩ := kn hz2
    have hl := esM_len hz2
    obtain ⟨h3, h5, w', er5, ⟨c5, f5, g5⟩, -, -⟩ := law_tail cC (na_170 iC.1) (by omega) (Fi_m k24) hh
    injection er5 with d1 d2
    injection d2 with d2 d3
    rw [d2]
    refine ⟨q, cc, gc, c5, ⟨?_, ⟨fs9, (f5.1 0 rfl).trans ((l2 0 (by decide)).trans ot1), p2⟩⟩, SRc_keep (kpt_tr (kpt_tr ka1 kaC) (kpt_fr f5 (by decide +kernel))) (kpf_tr (kpf_tr kf1 kfC) (kpf_fr f5 (by decide +kernel))) sc⟩
    have e1 : Ar h5 (q.1 + 1) = Ar hC (q.1 + 1) := Ar_e (f5.1 (q.1 + 1) (by rcases hc.qq with e | e <;> (rw [e]; rfl)))
    rw [e1]
    exact VR_cgD (fun j hj => g5 j hj) vrC
/-- years keeps SR -/
theorem cg_pos (hI : mInv h) (hc : HC q cc gc h) : 0 < gc → 0 < cc := by
  obtain ⟨-, ⟨a, b, z1, z2, y6, y8, z3⟩, -⟩ := hI.2
  intro hg
  have h6 := hc.cb
  have h8 := hc.gb
  have e3 := nI_ij (by omega) (by omega) ((Fi_m z1).symm.trans hc.m3)
  have e4 := nI_ij (by omega) (by omega) ((Fi_m z2).symm.trans hc.m4)
  omega
theorem st_years {m : Int32} (pr : prun sl 124 263 [r, m] h h1 h2 v w) (hI : mInv h) (s : SR h) : SR h2 := by
  obtain ⟨⟨m1, r1⟩, ⟨f1, i1⟩, ⟨m2, r2⟩, -, -⟩ := pr
  obtain ⟨q, cc, gc, hc, s⟩ := s
  have b1 : pm_cmp .lt m (nI 1) = decide (m.toInt < 1) := cl_lt (c := 1) (by decide)
  have b2 : pm_cmp .le m (nI 60) = decide (m.toInt ≤ 60) := cl_le (c := 60) (by decide)
  have b3 : in_b m.toInt64 (Int64.ofNat 1) (60 : Int64) = decide (1 ≤ m.toInt ∧ m.toInt ≤ 60) := in_lh m (by decide) (by decide)
  by_cases z : 1 ≤ m.toInt ∧ m.toInt ≤ 60
  · obtain ⟨k, rfl, hk, ek⟩ := hI_of (x := m) (by omega)
    obtain ⟨a1, c1, g1⟩ := v124_ok hc (by omega) (na_17 hI.1) r1
    cases a1
    obtain ⟨a2, c2, g2⟩ := v263_ok c1 (by omega) (cg_pos i1 c1) (na_170 i1.1) r2
    cases a2
    exact ⟨q, cc, gc, c2, SR_fr c1 (SR_fr hc s g1 (by decide +kernel)) g2 (by decide +kernel)⟩
  · rw [decide_eq_false z] at b3
    by_cases y : m.toInt < 1
    · rw [decide_eq_true y] at b1
      have a1 := v124w1_ok hc b1 r1
      cases a1
      obtain ⟨a2, c2, g2⟩ := v263w_ok hc b3 r2
      cases a2
      exact ⟨q, cc, gc, c2, SR_fr hc s g2 (by decide +kernel)⟩
    · rw [decide_eq_false y] at b1
      rw [decide_eq_false (by omega)] at b2
      have a1 := v124w2_ok hc b1 b2 r1
      cases a1
      obtain ⟨a2, c2, g2⟩ := v263w_ok hc b3 r2
      cases a2
      exact ⟨q, cc, gc, c2, SR_fr hc s g2 (by decide +kernel)⟩
end LAW
end MG95zzzex1
section MG95zzzex2
/-! year: the acts as THE TEXT tells them; the class's reading -/
section YRP
variable {n fr lo sl n0 cc gc c0 t : Nat} {q : QT} {h : pm_H} {R : pm_Rs} {f g : Nat → Int32}
/-- which act a letter is -/
def yK (c : Int32) : Option Nat := if c = nI 115 then some 0 else if c = nI 109 then some 1 else if c = nI 102 then some 2 else if c = nI 112 then some 3 else if c = nI 113 then some 4 else none
/-- how many signs -/
def yS (kd : Nat) : Nat := if kd = 1 then 2 else if kd < 3 then 3 else 4
/-- a digit that stands at offset j -/
def yB (f : Nat → Int32) (t i j : Nat) : Bool := dg f (i + j) t && (decide (j ≠ 3) || decide (f (i + j) ≠ nI 48))
/-- the first offset from j on that is no digit; j + k if there is none -/
def yD (f : Nat → Int32) (t i : Nat) : Nat → Nat → Nat
  | 0, j => j
  | k + 1, j => cond (yB f t i j) (yD f t i k (j + 1)) j
/-- the letter at p -/
def yL (f : Nat → Int32) (t p : Nat) : Option Nat := if p < t then yK (f p) else none
/-- one act from p on: whether it stands, where the reader is behind it -/
def yA (f : Nat → Int32) (t p : Nat) : Bool × Nat := match yL f t p with
  | none => (false, p)
  | some kd => (decide (yD f t p (yS kd - 1) 1 = yS kd), p + yD f t p (yS kd - 1) 1)
/-- all acts -/
def yR (f : Nat → Int32) (t : Nat) : Nat → Nat → Bool × Nat
  | 0, p => (true, p)
  | k + 1, p => if p < t then (cond (yA f t p).1 (yR f t k (yA f t p).2) (yA f t p)) else (true, p)
/-- where the class finds the fault -/
def yO (n0 : Nat) (r : Bool × Nat) : Int32 := cond (r.1 && decide (r.2 = n0)) (Int32.ofInt (-1)) (nI r.2)
theorem yS_ge (kd : Nat) : 2 ≤ yS kd ∧ yS kd ≤ 4 := by
  unfold yS
  split
  · omega
  · split <;> omega
theorem yD_ge {i : Nat} : ∀ (k j : Nat), j ≤ yD f t i k j ∧ yD f t i k j ≤ j + k
  | 0, j => ⟨Nat.le_refl _, Nat.le_refl _⟩
  | k + 1, j => by
    show j ≤ cond (yB f t i j) (yD f t i k (j + 1)) j ∧ cond (yB f t i j) (yD f t i k (j + 1)) j ≤ j + (k + 1)
    have := yD_ge (i := i) k (j + 1)
    cases yB f t i j with
    | true =>
      show j ≤ yD f t i k (j + 1) ∧ yD f t i k (j + 1) ≤ j + (k + 1)
      omega
    | false =>
      show j ≤ j ∧ j ≤ j + (k + 1)
      omega
theorem yB_dg {i j : Nat} (z : yB f t i j = true) : dg f (i + j) t = true := by
  unfold yB at z
  rw [Bool.and_eq_true] at z
  exact z.1
theorem yD_lt {i : Nat} : ∀ (k j : Nat), yD f t i k j = j + k → ∀ m, j ≤ m → m < j + k → yB f t i m = true
  | 0, _, _, m, h1, h2 => by omega
  | k + 1, j, e, m, h1, h2 => by
    have e : cond (yB f t i j) (yD f t i k (j + 1)) j = j + (k + 1) := e
    cases z : yB f t i j with
    | false =>
      rw [z] at e
      have e : j = j + (k + 1) := e
      omega
    | true =>
      rw [z] at e
      have e : yD f t i k (j + 1) = j + (k + 1) := e
      by_cases y : m = j
      · rw [y]
        exact z
      · exact yD_lt k (j + 1) (by omega) m (by omega) (by omega)
theorem yD_bd {p kd : Nat} (hlt : p < t) : p + yD f t p (yS kd - 1) 1 ≤ t := by
  have hs := yS_ge kd
  have go : ∀ (k j : Nat), p + j ≤ t → p + yD f t p k j ≤ t := by
    intro k
    induction k with
    | zero => exact fun j hj => hj
    | succ k ih =>
      intro j hj
      show p + cond (yB f t p j) (yD f t p k (j + 1)) j ≤ t
      cases z : yB f t p j with
      | false => exact hj
      | true =>
        have := dg_lt (yB_dg z)
        exact ih (j + 1) (by omega)
  exact go _ 1 (by omega)
theorem yA_le {p : Nat} (hp : p ≤ t) : p ≤ (yA f t p).2 ∧ (yA f t p).2 ≤ t ∧ ((yA f t p).1 = true → p + 2 ≤ (yA f t p).2) := by
  unfold yA
  cases e : yL f t p with
  | none => exact ⟨Nat.le_refl _, hp, fun z => Bool.noConfusion z⟩
  | some kd =>
    have hk := yS_ge kd
    have hlt : p < t := by
      unfold yL at e
      by_cases y : p < t
      · exact y
      · rw [if_neg y] at e
        cases e
    have hd := yD_ge (f := f) (t := t) (i := p) (yS kd - 1) 1
    refine ⟨Nat.le_add_right _ _, ?_, fun z => ?_⟩
    · show p + yD f t p (yS kd - 1) 1 ≤ t
      exact yD_bd hlt
    · have z := of_decide_eq_true z
      show p + 2 ≤ p + yD f t p (yS kd - 1) 1
      omega
theorem v135_K (x : Int32) : v135 q cc gc x = nI (match yK x with
  | none => 0
  | some kd => yS kd) := by
  unfold v135 yK
  by_cases e1 : x = nI 115
  · rw [e1]
    rfl
  · rw [if_neg e1]
    by_cases e2 : x = nI 109
    · rw [e2]
      rfl
    · rw [if_neg e2]
      by_cases e3 : x = nI 102
      · rw [e3]
        rfl
      · rw [if_neg e3]
        by_cases e4 : x = nI 112
        · rw [e4]
          rfl
        · rw [if_neg e4]
          by_cases e5 : x = nI 113
          · rw [e5]
            rfl
          · rw [if_neg e5, show pm_cmp .eq x (nI 102) = false from decide_eq_false e3, show pm_cmp .eq x (nI 109) = false from decide_eq_false e2, show pm_cmp .eq x (nI 112) = false from decide_eq_false e4, show pm_cmp .eq x (nI 113) = false from decide_eq_false e5, show pm_cmp .eq x (nI 115) = false from decide_eq_false e1]
            rfl
theorem sgA_K {p : Nat} : v135 q cc gc (sgA f n0 p 60) = nI (match yL f (min n0 60) p with
  | none => 0
  | some kd => yS kd) := by
  unfold sgA yL
  by_cases z : p < min n0 60
  · rw [decide_eq_true z, if_pos z]
    exact v135_K _
  · rw [decide_eq_false z, if_neg z]
    have e : yK (Int32.ofInt (-1)) = none := by decide
    show v135 q cc gc (Int32.ofInt (-1)) = nI 0
    rw [v135_K, e]
/-- a digit that stands, as the class looks at it -/
theorem dgA_B {p j : Nat} : (dg f (p + j) (min n0 60) = true → dgA f n0 (p + j) 60 = f (p + j) - nI 48 ∧ 0 ≤ (dgA f n0 (p + j) 60).toInt) ∧ (dg f (p + j) (min n0 60) = false → dgA f n0 (p + j) 60 = Int32.ofInt (-1)) := by
  unfold dgA
  refine ⟨fun e => ?_, fun e => ?_⟩
  · rw [e]
    exact ⟨rfl, (dg_val e).1⟩
  · rw [e]
    rfl
theorem sub48 {x : Int32} : x - nI 48 = 0 ↔ x = nI 48 := ⟨fun e => by
  have e2 : x - nI 48 + nI 48 = 0 + nI 48 := by rw [e]
  rw [Int32.sub_add_cancel, Int32.zero_add] at e2
  exact e2, fun e => by
  rw [e]
  decide⟩
/-- the digits of one act, class -/
theorem yi_loop {i c s : Nat} (hn : n0 ≤ 80) (px : pX h n0 c0 f) (hi : i < 61) (hs : s ≤ 4) : ∀ (k j n : Nat) (x5 : Option Value), j + k = s → 1 ≤ j → pm_run PT n fr lo 134 (44, [some (.ref 0), some (.int (nI i)), some (.int (nI c)), some (.int (nI s)), some (.int (nI j)), x5], [], h, 198, sl) = some R → (yD f (min n0 60) i k j = s ∧ ∃ m x4 x5, pm_run PT m fr lo 134 (92, [some (.ref 0), some (.int (nI i)), some (.int (nI c)), some (.int (nI s)), x4, x5], [], h, 198, sl) = some R) ∨ (yD f (min n0 60) i k j ≠ s ∧ R = (some (.int (nI (i + yD f (min n0 60) i k j))), h, 198, sl))
  | 0, j, n, x5, e, hj, hh => by
    obtain ⟨n, hh⟩ := rn_i rfl rfl rfl rfl hh
    obtain ⟨n, hh⟩ := rn_i rfl rfl rfl rfl hh
    obtain ⟨n, hh⟩ := rn_icmp (cc := .ge) (off := 45) (t := 92) rfl rfl hh
    rw [hI_ge (by omega) (by omega), decide_eq_true (by omega)] at hh
    exact Or.inl ⟨by show j = s; omega, n, _, _, hh⟩
  | k + 1, j, n, x5, e, hj, hh => by
    obtain ⟨⟨fs, a1, a2, -⟩, -⟩ := id px
    obtain ⟨n, hh⟩ := rn_i rfl rfl rfl rfl hh
    obtain ⟨n, hh⟩ := rn_i rfl rfl rfl rfl hh
    obtain ⟨n, hh⟩ := rn_icmp (cc := .ge) (off := 45) (t := 92) rfl rfl hh
    rw [hI_ge (by omega) (by omega), decide_eq_false (by omega)] at hh
    have hh : pm_run PT n fr lo 134 (50, [some (.ref 0), some (.int (nI i)), some (.int (nI c)), some (.int (nI s)), some (.int (nI j)), x5], [], h, 198, sl) = some R := hh
    obtain ⟨n, hh⟩ := rn_i rfl rfl rfl rfl hh
    obtain ⟨n, hh⟩ := rn_gfo (g := 0) rfl rfl (by decide) a1 a2 hh
    obtain ⟨n, hh⟩ := rn_i rfl rfl rfl rfl hh
    obtain ⟨n, hh⟩ := rn_i rfl rfl rfl rfl hh
    have hh : pm_run PT n fr lo 134 (57, [some (.ref 0), some (.int (nI i)), some (.int (nI c)), some (.int (nI s)), some (.int (nI j)), x5], [.int (nI j), .int (nI i), .ref 1], h, 198, sl) = some R := hh
    obtain ⟨n, hh⟩ := en_add rfl hh
    obtain ⟨n, hh⟩ := rn_i rfl rfl rfl rfl hh
    have hh : pm_run PT n fr lo 134 (60, [some (.ref 0), some (.int (nI i)), some (.int (nI c)), some (.int (nI s)), some (.int (nI j)), x5], [.int (nI 60), .int (nI (i + j)), .ref 1], h, 198, sl) = some R := hh
    obtain ⟨n, fr', lo', r1, hr1, hh⟩ := rn_call (w := 0) (t := 81) rfl rfl hh
    have er := dgA_run hn (by decide) (by omega) px hr1
    subst er
    obtain ⟨d1, d2⟩ := dgA_B (f := f) (n0 := n0) (p := i) (j := j)
    have hh : pm_run PT n fr lo 134 (63, [some (.ref 0), some (.int (nI i)), some (.int (nI c)), some (.int (nI s)), some (.int (nI j)), x5], [.int (dgA f n0 (i + j) 60)], h, 198, sl) = some R := hh
    obtain ⟨n, hh⟩ := rn_i rfl rfl rfl rfl hh
    obtain ⟨n, hh⟩ := rn_i rfl rfl rfl rfl hh
    have hh : pm_run PT n fr lo 134 (67, [some (.ref 0), some (.int (nI i)), some (.int (nI c)), some (.int (nI s)), some (.int (nI j)), some (.int (dgA f n0 (i + j) 60))], [.int (dgA f n0 (i + j) 60)], h, 198, sl) = some R := hh
    obtain ⟨n, hh⟩ := rn_if (cc := .lt) (off := 14) (t := 81) rfl rfl hh
    have eY : yD f (min n0 60) i (k + 1) j = cond (yB f (min n0 60) i j) (yD f (min n0 60) i k (j + 1)) j := rfl
    have bad : ∀ n : Nat, yB f (min n0 60) i j = false → pm_run PT n fr lo 134 (81, [some (.ref 0), some (.int (nI i)), some (.int (nI c)), some (.int (nI s)), some (.int (nI j)), some (.int (dgA f n0 (i + j) 60))], [], h, 198, sl) = some R → yD f (min n0 60) i (k + 1) j ≠ s ∧ R = (some (.int (nI (i + yD f (min n0 60) i (k + 1) j))), h, 198, sl) := by
      intro n z hh
      obtain ⟨n, hh⟩ := rn_i rfl rfl rfl rfl hh
      obtain ⟨n, hh⟩ := rn_i rfl rfl rfl rfl hh
      have hh : pm_run PT n fr lo 134 (84, [some (.ref 0), some (.int (nI i)), some (.int (nI c)), some (.int (nI s)), some (.int (nI j)), some (.int (dgA f n0 (i + j) 60))], [.int (nI j), .int (nI i)], h, 198, sl) = some R := hh
      obtain ⟨n, hh⟩ := en_add rfl hh
      have q := (rn_ret rfl (Or.inl rfl) hh).2
      rw [eY, z]
      exact ⟨by show j ≠ s; omega, q⟩
    have good : ∀ n : Nat, yB f (min n0 60) i j = true → pm_run PT n fr lo 134 (86, [some (.ref 0), some (.int (nI i)), some (.int (nI c)), some (.int (nI s)), some (.int (nI j)), some (.int (dgA f n0 (i + j) 60))], [], h, 198, sl) = some R → (yD f (min n0 60) i (k + 1) j = s ∧ ∃ m x4 x5, pm_run PT m fr lo 134 (92, [some (.ref 0), some (.int (nI i)), some (.int (nI c)), some (.int (nI s)), x4, x5], [], h, 198, sl) = some R) ∨ (yD f (min n0 60) i (k + 1) j ≠ s ∧ R = (some (.int (nI (i + yD f (min n0 60) i (k + 1) j))), h, 198, sl)) := by
      intro n z hh
      obtain ⟨n, hh⟩ := en_inc (x := j) (c := 1) (j := 4) rfl rfl (by decide) hh
      obtain ⟨n, hh⟩ := rn_i rfl rfl rfl rfl hh
      have hh : pm_run PT n fr lo 134 (44, [some (.ref 0), some (.int (nI i)), some (.int (nI c)), some (.int (nI s)), some (.int (nI (j + 1))), some (.int (dgA f n0 (i + j) 60))], [], h, 198, sl) = some R := hh
      rw [eY, z]
      exact yi_loop hn px hi hs k (j + 1) n _ (by omega) (by omega) hh
    cases zd : dg f (i + j) (min n0 60) with
    | false =>
      rw [d2 zd, show pm_cmp .lt (Int32.ofInt (-1)) 0 = true by decide, ← d2 zd] at hh
      exact Or.inr (bad n (by unfold yB; rw [zd]; rfl) hh)
    | true =>
      obtain ⟨v1, v2⟩ := d1 zd
      rw [lt0_val v2] at hh
      have hh : pm_run PT n fr lo 134 (70, [some (.ref 0), some (.int (nI i)), some (.int (nI c)), some (.int (nI s)), some (.int (nI j)), some (.int (dgA f n0 (i + j) 60))], [], h, 198, sl) = some R := hh
      obtain ⟨n, hh⟩ := rn_i rfl rfl rfl rfl hh
      obtain ⟨n, hh⟩ := rn_i rfl rfl rfl rfl hh
      obtain ⟨n, hh⟩ := rn_icmp (cc := .ne) (off := 13) (t := 86) rfl rfl hh
      rw [show pm_cmp .ne (nI j) (Int32.ofInt 3) = decide (¬ j = 3) from hI_ne (a := j) (b := 3) (by omega) (by omega)] at hh
      by_cases y3 : j = 3
      · rw [decide_eq_false (fun y => y y3)] at hh
        have hh : pm_run PT n fr lo 134 (76, [some (.ref 0), some (.int (nI i)), some (.int (nI c)), some (.int (nI s)), some (.int (nI j)), some (.int (dgA f n0 (i + j) 60))], [], h, 198, sl) = some R := hh
        obtain ⟨n, hh⟩ := rn_i rfl rfl rfl rfl hh
        obtain ⟨n, hh⟩ := rn_if (cc := .ne) (off := 8) (t := 86) rfl rfl hh
        by_cases y0 : f (i + j) = nI 48
        · have e0 : dgA f n0 (i + j) 60 = 0 := by
            rw [v1]
            exact sub48.mpr y0
          rw [e0, show pm_cmp .ne (0 : Int32) 0 = false by decide, ← e0] at hh
          refine Or.inr (bad n ?_ hh)
          unfold yB
          rw [zd, decide_eq_false (fun y : j ≠ 3 => y y3), decide_eq_false (fun y : f (i + j) ≠ nI 48 => y y0)]
          rfl
        · have e0 : dgA f n0 (i + j) 60 ≠ 0 := fun e => y0 (sub48.mp (v1.symm.trans e))
          rw [show pm_cmp .ne (dgA f n0 (i + j) 60) 0 = true from decide_eq_true e0] at hh
          refine good n ?_ hh
          unfold yB
          rw [zd, decide_eq_true (show f (i + j) ≠ nI 48 from y0), Bool.or_true]
          rfl
      · rw [decide_eq_true y3] at hh
        refine good n ?_ hh
        unfold yB
        rw [zd, decide_eq_true (show j ≠ 3 from y3)]
        rfl
/-- where the fault is, class -/
theorem yf_loop (hn : n0 ≤ 80) (hc : HC q cc gc h) (px : pX h n0 c0 f) : ∀ (k i c n : Nat) (x3 x4 x5 : Option Value), min n0 60 + 1 ≤ i + k → 2 * c ≤ i → i ≤ min n0 60 → pm_run PT n fr lo 134 (4, [some (.ref 0), some (.int (nI i)), some (.int (nI c)), x3, x4, x5], [], h, 198, sl) = some R → R = (some (.int (yO n0 (yR f (min n0 60) k i))), h, 198, sl)
  | 0, i, c, n, x3, x4, x5, e, hc2, hi, hh => by omega
  | k + 1, i, c, n, x3, x4, x5, e, hc2, hi, hh => by
    obtain ⟨⟨fs, a1, a2, -⟩, ⟨gs, b1, b2, b3⟩, -⟩ := id px
    obtain ⟨n, hh⟩ := rn_i rfl rfl rfl rfl hh
    obtain ⟨n, hh⟩ := rn_i rfl rfl rfl rfl hh
    obtain ⟨n, hh⟩ := rn_icmp (cc := .ge) (off := 95) (t := 102) rfl rfl hh
    rw [show pm_cmp .ge (nI c) (Int8.ofInt 60).toInt32 = decide (60 ≤ c) from hI_ge (a := c) (b := 60) (by omega) (by omega), decide_eq_false (by omega)] at hh
    have hh : pm_run PT n fr lo 134 (10, [some (.ref 0), some (.int (nI i)), some (.int (nI c)), x3, x4, x5], [], h, 198, sl) = some R := hh
    obtain ⟨n, hh⟩ := rn_i rfl rfl rfl rfl hh
    obtain ⟨n, hh⟩ := rn_i rfl rfl rfl rfl hh
    obtain ⟨n, hh⟩ := rn_gfo (g := 0) rfl rfl (by decide) a1 a2 hh
    obtain ⟨n, hh⟩ := rn_gfo (g := 1) rfl rfl (by decide) b1 b3 hh
    obtain ⟨n, hh⟩ := rn_icmp (cc := .eq) (off := 84) (t := 102) rfl rfl hh
    rw [show pm_cmp .eq (nI i) (nI n0) = decide (i = n0) from hI_eq (by omega) (by omega)] at hh
    have eR : yR f (min n0 60) (k + 1) i = if i < min n0 60 then (cond (yA f (min n0 60) i).1 (yR f (min n0 60) k (yA f (min n0 60) i).2) (yA f (min n0 60) i)) else (true, i) := rfl
    by_cases y : i = n0
    · rw [decide_eq_true y] at hh
      have hh : pm_run PT n fr lo 134 (102, [some (.ref 0), some (.int (nI i)), some (.int (nI c)), x3, x4, x5], [], h, 198, sl) = some R := hh
      obtain ⟨n, hh⟩ := rn_i rfl rfl rfl rfl hh
      have q := (rn_ret rfl (Or.inl rfl) hh).2
      rw [eR, if_neg (by omega)]
      unfold yO
      dsimp only
      rw [decide_eq_true y]
      exact q
    · rw [decide_eq_false y] at hh
      have hh : pm_run PT n fr lo 134 (21, [some (.ref 0), some (.int (nI i)), some (.int (nI c)), x3, x4, x5], [], h, 198, sl) = some R := hh
      obtain ⟨n, hh⟩ := rn_i rfl rfl rfl rfl hh
      obtain ⟨n, hh⟩ := rn_gfo (g := 0) rfl rfl (by decide) a1 a2 hh
      obtain ⟨n, hh⟩ := rn_i rfl rfl rfl rfl hh
      obtain ⟨n, hh⟩ := rn_i rfl rfl rfl rfl hh
      have hh : pm_run PT n fr lo 134 (28, [some (.ref 0), some (.int (nI i)), some (.int (nI c)), x3, x4, x5], [.int (nI 60), .int (nI i), .ref 1], h, 198, sl) = some R := hh
      obtain ⟨n, fr', lo', r1, hr1, hh⟩ := rn_call (w := 0) (t := 80) rfl rfl hh
      have er := sgA_run hn (by decide) (by omega) px hr1
      subst er
      have hh : pm_run PT n fr lo 134 (31, [some (.ref 0), some (.int (nI i)), some (.int (nI c)), x3, x4, x5], [.int (sgA f n0 i 60)], h, 198, sl) = some R := hh
      obtain ⟨n, fr', lo', r1, hr1, hh⟩ := rn_call (w := 2) (t := 135) rfl rfl hh
      have er := v135_ok hc hr1
      subst er
      have hh : pm_run PT n fr lo 134 (34, [some (.ref 0), some (.int (nI i)), some (.int (nI c)), x3, x4, x5], [.int (v135 q cc gc (sgA f n0 i 60))], h, 198, sl) = some R := hh
      rw [sgA_K] at hh
      obtain ⟨n, hh⟩ := rn_i rfl rfl rfl rfl hh
      obtain ⟨n, hh⟩ := rn_i rfl rfl rfl rfl hh
      cases eL : yL f (min n0 60) i with
      | none =>
        rw [eL] at hh
        have hh : pm_run PT n fr lo 134 (36, [some (.ref 0), some (.int (nI i)), some (.int (nI c)), some (.int (nI 0)), x4, x5], [.int (nI 0)], h, 198, sl) = some R := hh
        obtain ⟨n, hh⟩ := rn_if (cc := .ne) (off := 5) (t := 41) rfl rfl hh
        rw [show pm_cmp .ne (nI 0) 0 = false by decide] at hh
        have hh : pm_run PT n fr lo 134 (39, [some (.ref 0), some (.int (nI i)), some (.int (nI c)), some (.int (nI 0)), x4, x5], [], h, 198, sl) = some R := hh
        obtain ⟨n, hh⟩ := rn_i rfl rfl rfl rfl hh
        have q := (rn_ret rfl (Or.inl rfl) hh).2
        have eA : yA f (min n0 60) i = (false, i) := by
          unfold yA
          rw [eL]
        rw [q, eR, eA]
        unfold yO
        by_cases z : i < min n0 60
        · rw [if_pos z]
          rfl
        · rw [if_neg z]
          dsimp only
          rw [decide_eq_false y]
          rfl
      | some kd =>
        rw [eL] at hh
        have hs := yS_ge kd
        have hlt : i < min n0 60 := by
          unfold yL at eL
          by_cases z : i < min n0 60
          · exact z
          · rw [if_neg z] at eL
            cases eL
        have hh : pm_run PT n fr lo 134 (36, [some (.ref 0), some (.int (nI i)), some (.int (nI c)), some (.int (nI (yS kd))), x4, x5], [.int (nI (yS kd))], h, 198, sl) = some R := hh
        obtain ⟨n, hh⟩ := rn_if (cc := .ne) (off := 5) (t := 41) rfl rfl hh
        rw [show pm_cmp .ne (nI (yS kd)) 0 = true from (hI_ne (a := yS kd) (b := 0) (by omega) (by omega)).trans (decide_eq_true (by omega))] at hh
        have hh : pm_run PT n fr lo 134 (41, [some (.ref 0), some (.int (nI i)), some (.int (nI c)), some (.int (nI (yS kd))), x4, x5], [], h, 198, sl) = some R := hh
        obtain ⟨n, hh⟩ := rn_i rfl rfl rfl rfl hh
        obtain ⟨n, hh⟩ := rn_i rfl rfl rfl rfl hh
        have hh : pm_run PT n fr lo 134 (44, [some (.ref 0), some (.int (nI i)), some (.int (nI c)), some (.int (nI (yS kd))), some (.int (nI 1)), x5], [], h, 198, sl) = some R := hh
        have eA : yA f (min n0 60) i = (decide (yD f (min n0 60) i (yS kd - 1) 1 = yS kd), i + yD f (min n0 60) i (yS kd - 1) 1) := by
          unfold yA
          rw [eL]
        rcases yi_loop hn px (by omega) hs.2 (yS kd - 1) 1 n x5 (by omega) (Nat.le_refl _) hh with ⟨e1, m, y4, y5, hm⟩ | ⟨e1, e2⟩
        · obtain ⟨m, hm⟩ := rn_i rfl rfl rfl rfl hm
          obtain ⟨m, hm⟩ := rn_i rfl rfl rfl rfl hm
          have hm : pm_run PT m fr lo 134 (94, [some (.ref 0), some (.int (nI i)), some (.int (nI c)), some (.int (nI (yS kd))), y4, y5], [.int (nI (yS kd)), .int (nI i)], h, 198, sl) = some R := hm
          obtain ⟨m, hm⟩ := en_add rfl hm
          obtain ⟨m, hm⟩ := rn_i rfl rfl rfl rfl hm
          have hm : pm_run PT m fr lo 134 (96, [some (.ref 0), some (.int (nI (i + yS kd))), some (.int (nI c)), some (.int (nI (yS kd))), y4, y5], [], h, 198, sl) = some R := hm
          obtain ⟨m, hm⟩ := en_inc (x := c) (c := 1) (j := 2) rfl rfl (by decide) hm
          obtain ⟨m, hm⟩ := rn_i rfl rfl rfl rfl hm
          have hm : pm_run PT m fr lo 134 (4, [some (.ref 0), some (.int (nI (i + yS kd))), some (.int (nI (c + 1))), some (.int (nI (yS kd))), y4, y5], [], h, 198, sl) = some R := hm
          have hle := (yA_le (f := f) hi).2.1
          rw [eA] at hle
          dsimp only at hle
          rw [e1] at hle
          have q := yf_loop hn hc px k (i + yS kd) (c + 1) m _ _ _ (by omega) (by omega) hle hm
          rw [q, eR, if_pos hlt, eA, e1, decide_eq_true rfl]
          rfl
        · rw [e2, eR, if_pos hlt, eA, decide_eq_false e1]
          rfl
theorem yf_run (hn : n0 ≤ 80) (hc : HC q cc gc h) (px : pX h n0 c0 f) (hh : pm_run PT n fr lo 134 (0, pm_l0 [.ref 0] 6, [], h, 198, sl) = some R) : R = (some (.int (yO n0 (yR f (min n0 60) 61 0))), h, 198, sl) := by
  obtain ⟨n, hh⟩ := rn_i rfl rfl rfl rfl hh
  obtain ⟨n, hh⟩ := rn_i rfl rfl rfl rfl hh
  obtain ⟨n, hh⟩ := rn_i rfl rfl rfl rfl hh
  obtain ⟨n, hh⟩ := rn_i rfl rfl rfl rfl hh
  have hh : pm_run PT n fr lo 134 (4, [some (.ref 0), some (.int (nI 0)), some (.int (nI 0)), none, none, none], [], h, 198, sl) = some R := hh
  exact yf_loop hn hc px 61 0 0 n none none none (by omega) (by omega) (by omega) hh
end YRP
end MG95zzzex2
end MH95zzyvx4
section MH95zzyvx5
section MG95zzzhx0
/-! year: the reference's reading -/
section YRM
variable {n fr lo sl n0 cc gc c t p : Nat} {q : QT} {h H : pm_H} {R : pm_Rs} {tp : Nat → Int32}
theorem fmF {g : Nat} {x : Int32} {as : List av} (hw : WT h) (hb : wd (bB 162) = .inr (11, as)) (hg : as[g]? = some ai_top) (e : Fi h 162 g = x) : mF h g (.int x) := by
  have z := wt_i (c := 162) (g := g) hw (by decide) hb (by decide) hg
  rw [e] at z
  exact z
theorem m14_w (hw : WT h) : mF h 14 (.ref 172) := wt_r hw (by decide) rfl (by decide) rfl rfl
def ykI (f : Nat → Int32) (t p : Nat) : Int32 := match yL f t p with
  | none => Int32.ofInt (-1)
  | some kd => nI kd
def ykP (f : Nat → Int32) (t p : Nat) : Nat := match yL f t p with
  | none => p
  | some _ => p + 1
/-- the fourth text: s, m, f, p, q -/
theorem tk_y : tko 4 tp p t (st_tx 4).length 0 = yL tp t p := by
  have c0 : (st_tx 4).getD 0 0 = nI 115 := by decide +kernel
  have c1 : (st_tx 4).getD 1 0 = nI 109 := by decide +kernel
  have c2 : (st_tx 4).getD 2 0 = nI 102 := by decide +kernel
  have c3 : (st_tx 4).getD 3 0 = nI 112 := by decide +kernel
  have c4 : (st_tx 4).getD 4 0 = nI 113 := by decide +kernel
  have e5 : (st_tx 4).length = 5 := by decide +kernel
  rw [e5]
  unfold yL
  by_cases hl : p < t
  · rw [if_pos hl]
    show (cond (decide (p < t) && decide ((st_tx 4).getD 0 0 = tp p)) (some 0) (cond (decide (p < t) && decide ((st_tx 4).getD 1 0 = tp p)) (some 1) (cond (decide (p < t) && decide ((st_tx 4).getD 2 0 = tp p)) (some 2) (cond (decide (p < t) && decide ((st_tx 4).getD 3 0 = tp p)) (some 3) (cond (decide (p < t) && decide ((st_tx 4).getD 4 0 = tp p)) (some 4) none))))) = yK (tp p)
    rw [decide_eq_true hl, c0, c1, c2, c3, c4]
    unfold yK
    generalize tp p = x
    have sy : ∀ k : Nat, (decide (nI k = x)) = decide (x = nI k) := fun k => decide_eq_decide.mpr ⟨fun e => e.symm, fun e => e.symm⟩
    rw [sy, sy, sy, sy, sy]
    by_cases e1 : x = nI 115
    · rw [decide_eq_true e1, if_pos e1]
      rfl
    · rw [decide_eq_false e1, if_neg e1]
      by_cases e2 : x = nI 109
      · rw [decide_eq_true e2, if_pos e2]
        rfl
      · rw [decide_eq_false e2, if_neg e2]
        by_cases e3 : x = nI 102
        · rw [decide_eq_true e3, if_pos e3]
          rfl
        · rw [decide_eq_false e3, if_neg e3]
          by_cases e4 : x = nI 112
          · rw [decide_eq_true e4, if_pos e4]
            rfl
          · rw [decide_eq_false e4, if_neg e4]
            by_cases e5 : x = nI 113
            · rw [decide_eq_true e5, if_pos e5]
              rfl
            · rw [decide_eq_false e5, if_neg e5]
              rfl
  · rw [if_neg hl]
    exact tko_end hl _ _
theorem set16 (hw : WT h) {m : Nat} {x : Int32} (hx : mF h 16 (.int x)) : WT (mset h 16 (.int (nI m))) ∧ frm [162] [(162, 16)] h (mset h 16 (.int (nI m))) ∧ Fi (mset h 16 (.int (nI m))) 162 16 = nI m := by
  rw [mset_fs hx]
  exact ⟨wt_fs rfl (by decide) rfl hw, fr_f rfl rfl fr_0, Fi_s hw (by decide) rfl (by decide) rfl⟩
theorem tk_w (hw : WT h) (e16 : Fi h 162 16 = nI p) (e17 : Fi h 162 17 = nI t) (ht : t ≤ 80) (hp : p < 1000) (hh : pm_run PT n fr lo 183 (0, pm_l0 [.ref 162, .retAddr 4] 3, [], h, 198, sl) = some R) : ∃ H, (WT H ∧ frm [162] [(162, 16)] h H ∧ Fi H 162 16 = nI (ykP (Ar h 172) t p)) ∧ R = (some (.int (ykI (Ar h 172) t p)), H, 198, sl) := by
  have h16 := fmF (g := 16) hw rfl rfl e16
  have e := rn_dt (F := 10) (Lo := 1000) (hd_takesOf (fr := 10) (lo := 1000) (sl := sl) (tp := Ar h 172) h16 (fmF (g := 17) hw rfl rfl e17) (m14_w hw) (wt_a hw (by decide) rfl (by decide)) ht hp (by omega) (by omega) (i := 4) (by decide)) hh
  have e : R = tkr h p sl (tko 4 (Ar h 172) p t (st_tx 4).length 0) := e
  rw [tk_y] at e
  unfold ykI ykP
  cases z : yL (Ar h 172) t p with
  | none =>
    rw [z] at e
    exact ⟨h, ⟨hw, fr_0, e16⟩, e⟩
  | some kd =>
    rw [z] at e
    exact ⟨_, set16 hw h16, e⟩
def yN (f : Nat → Int32) (t p : Nat) : Int32 := cond (dg f p t) (f p - nI 48) (Int32.ofInt (-1))
theorem nm_w (hw : WT h) (e16 : Fi h 162 16 = nI p) (e17 : Fi h 162 17 = nI t) (ht : t ≤ 80) (hp : p < 1000) (hh : pm_run PT n fr lo 184 (0, pm_l0 [.ref 162, .int (nI 1)] 4, [], h, 198, sl) = some R) : ∃ H, (WT H ∧ frm [162] [(162, 16)] h H ∧ Fi H 162 16 = nI (p + cond (dg (Ar h 172) p t) 1 0)) ∧ R = (some (.int (yN (Ar h 172) t p)), H, 198, sl) := by
  have h16 := fmF (g := 16) hw rfl rfl e16
  have e := rn_dt (F := 10) (Lo := 1000) (hd_number (fr := 10) (lo := 1000) (sl := sl) (tp := Ar h 172) h16 (fmF (g := 17) hw rfl rfl e17) (m14_w hw) (wt_a hw (by decide) rfl (by decide)) ht hp (by omega) (by omega) (d := 1) (by omega)) hh
  unfold yN
  cases z : dg (Ar h 172) p t with
  | false =>
    rw [z] at e
    exact ⟨h, ⟨hw, fr_0, e16⟩, e⟩
  | true =>
    rw [z] at e
    have e1 : nbr (Ar h 172) t 1 p 0 = (p + 1, Ar h 172 p - nI 48) := by
      show cond (dg (Ar h 172) p t) (p + 1, 10 * 0 + Ar h 172 p - 48) (p, 0) = _
      rw [z]
      show (p + 1, 10 * 0 + Ar h 172 p - 48) = (p + 1, Ar h 172 p - nI 48)
      rw [show (10 : Int32) * 0 = 0 by decide, Int32.zero_add]
      rfl
    rw [e1] at e
    exact ⟨_, set16 hw h16, e⟩
def yGd (f : Nat → Int32) (t p : Nat) : Int32 := cond (dgi f p t 1 9) (f p - nI 48) (Int32.ofInt (-1))
theorem di_w (hw : WT h) (e16 : Fi h 162 16 = nI p) (e17 : Fi h 162 17 = nI t) (ht : t ≤ 80) (hp : p < 1000) (hh : pm_run PT n fr lo 185 (0, pm_l0 [.ref 162, .int 1, .int 9] 3, [], h, 198, sl) = some R) : ∃ H, (WT H ∧ frm [162] [(162, 16)] h H ∧ Fi H 162 16 = nI (p + cond (dgi (Ar h 172) p t 1 9) 1 0)) ∧ R = (some (.int (yGd (Ar h 172) t p)), H, 198, sl) := by
  have h16 := fmF (g := 16) hw rfl rfl e16
  have e := rn_dt (F := 10) (Lo := 1000) (hd_digitIn (fr := 10) (lo := 1000) (sl := sl) (tp := Ar h 172) h16 (fmF (g := 17) hw rfl rfl e17) (m14_w hw) (wt_a hw (by decide) rfl (by decide)) ht hp (by omega) (by omega) 1 9) hh
  unfold yGd
  cases z : dgi (Ar h 172) p t 1 9 with
  | false =>
    rw [z] at e
    exact ⟨h, ⟨hw, fr_0, e16⟩, e⟩
  | true =>
    rw [z] at e
    exact ⟨_, set16 hw h16, e⟩
theorem sub_rg {x : Int32} (w : 1 ≤ (x - 48).toInt ∧ (x - 48).toInt ≤ 9) : 48 ≤ x.toInt ∧ x.toInt ≤ 57 := by
  have e : x = (x - 48) + 48 := (Int32.sub_add_cancel x 48).symm
  have e2 : x.toInt = ((x - 48) + 48 : Int32).toInt := congrArg Int32.toInt e
  rw [Int32.toInt_add, show (48 : Int32).toInt = 48 by decide] at e2
  have e3 : ((x - 48).toInt + 48).bmod (2 ^ 32) = (x - 48).toInt + 48 := Int.bmod_eq_of_le (by omega) (by omega)
  rw [e3] at e2
  omega
/-- the third digit: the reference's from 1 to 9 is the class's that isn't 0 -/
theorem dgi_B {f : Nat → Int32} {i : Nat} : dgi f (i + 3) t 1 9 = yB f t i 3 := by
  unfold yB
  rw [show (decide (3 ≠ 3)) = false by decide, Bool.false_or]
  cases z : dg f (i + 3) t with
  | false =>
    rw [Bool.false_and]
    unfold dgi
    unfold dg at z
    by_cases y : i + 3 < t
    · rw [decide_eq_true y, Bool.true_and] at z ⊢
      have z2 : in_b (f (i + 3)).toInt64 (48 : Int64) (57 : Int64) = false := z
      rw [in_lh (f (i + 3)) (l := 48) (u := 57) (by decide) (by decide)] at z2
      have z3 := of_decide_eq_false z2
      show in_b (f (i + 3) - 48).toInt64 (1 : Int32).toInt64 (9 : Int32).toInt64 = false
      rw [in_lh (f (i + 3) - 48) (l := 1) (u := 9) (by decide) (by decide)]
      refine decide_eq_false (fun w => z3 ?_)
      exact sub_rg w
    · rw [decide_eq_false y, Bool.false_and]
  | true =>
    rw [Bool.true_and]
    have v := dg_val z
    have lt := dg_lt z
    unfold dgi
    rw [decide_eq_true lt, Bool.true_and]
    show in_b (f (i + 3) - 48).toInt64 (1 : Int32).toInt64 (9 : Int32).toInt64 = _
    rw [in_lh (f (i + 3) - 48) (l := 1) (u := 9) (by decide) (by decide)]
    refine decide_eq_decide.mpr ⟨fun w e => ?_, fun w => ?_⟩
    · rw [e, show (nI 48 - 48 : Int32).toInt = 0 by decide] at w
      omega
    · have : (f (i + 3) - 48).toInt ≠ 0 := fun e => w (by
        have e2 : f (i + 3) - nI 48 = 0 := by
          apply Int32.toInt_inj.mp
          rw [show (0 : Int32).toInt = 0 by decide]
          exact e
        exact sub48.mp e2)
      omega
theorem yB_1 {f : Nat → Int32} {i j : Nat} (hj : j ≠ 3) : yB f t i j = dg f (i + j) t := by
  unfold yB
  rw [decide_eq_true hj, Bool.true_or, Bool.and_true]
theorem yn_lt {f : Nat → Int32} : pm_cmp .lt (yN f t p) 0 = !(dg f p t) := by
  unfold yN
  cases z : dg f p t with
  | false =>
    show pm_cmp .lt (Int32.ofInt (-1)) 0 = true
    decide
  | true => exact lt0_val (dg_val z).1
theorem yg_lt {f : Nat → Int32} : pm_cmp .lt (yGd f t p) 0 = !(dgi f p t 1 9) := by
  unfold yGd
  cases z : dgi f p t 1 9 with
  | false =>
    show pm_cmp .lt (Int32.ofInt (-1)) 0 = true
    decide
  | true => exact lt0_val (dgi_val z).2
def YW : List Nat := [162, 179, 180, 181, 182]
def YV : List (Nat × Nat) := [(162, 16), (162, 35)]
/-- the reader at p, c acts told -/
def yQ (h H : pm_H) (t p c : Nat) : Prop := (WT H ∧ frm YW YV h H) ∧ Fi H 162 16 = nI p ∧ Fi H 162 35 = nI c
theorem yQ_17 (z : yQ h H t p c) : Fi H 162 17 = Fi h 162 17 := z.1.2.2 162 17 rfl rfl
theorem yQ_172 (z : yQ h H t p c) : Ar H 172 = Ar h 172 := Ar_e (z.1.2.1 172 rfl)
theorem yQ_16 {H H' : pm_H} {p' : Nat} (z : yQ h H t p c) (w : WT H') (f : frm [162] [(162, 16)] H H') (e : Fi H' 162 16 = nI p') : yQ h H' t p' c := ⟨⟨w, fr_g rfl rfl f z.1.2⟩, e, (f.2 162 35 rfl rfl).trans z.2.2⟩
theorem yQ_a {H : pm_H} {a m : Nat} {g : Nat → Int32} (ha : YW.elem a = true) (h162 : a ≠ 162) (hb : wd (bB a) = .inl (0, m, ai_top)) (ho : isO a = false) (z : yQ h H t p c) : yQ h (aset H a m g) t p c := ⟨⟨wt_as hb z.1.1, fr_a ha ho z.1.2⟩, (Fi_a (fun e => h162 e.symm)).trans z.2.1, (Fi_a (fun e => h162 e.symm)).trans z.2.2⟩
theorem yQ_35 {H : pm_H} {c' : Nat} (z : yQ h H t p c) : yQ h (fset H 162 35 (.int (nI c'))) t p c' := ⟨⟨wt_fs rfl (by decide) rfl z.1.1, fr_f rfl rfl z.1.2⟩, (Fi_n (Or.inr (by decide))).trans z.2.1, Fi_s z.1.1 (by decide) rfl (by decide) rfl⟩
theorem yL_lt {f : Nat → Int32} {kd : Nat} (e : yL f t p = some kd) : p < t := by
  unfold yL at e
  by_cases z : p < t
  · exact z
  · rw [if_neg z] at e
    cases e
theorem yL_le {f : Nat → Int32} {kd : Nat} (e : yL f t p = some kd) : kd ≤ 4 := by
  have hlt := yL_lt e
  unfold yL yK at e
  rw [if_pos hlt] at e
  generalize f p = x at e
  by_cases e1 : x = nI 115
  · rw [if_pos e1] at e
    cases e
    decide
  · rw [if_neg e1] at e
    by_cases e2 : x = nI 109
    · rw [if_pos e2] at e
      cases e
      decide
    · rw [if_neg e2] at e
      by_cases e3 : x = nI 102
      · rw [if_pos e3] at e
        cases e
        decide
      · rw [if_neg e3] at e
        by_cases e4 : x = nI 112
        · rw [if_pos e4] at e
          cases e
          decide
        · rw [if_neg e4] at e
          by_cases e5 : x = nI 113
          · rw [if_pos e5] at e
            cases e
            decide
          · rw [if_neg e5] at e
            cases e
theorem yS_n1 {kd : Nat} (k1 : kd ≠ 1) : 3 ≤ yS kd := by
  unfold yS
  rw [if_neg k1]
  split <;> omega
theorem yS_2 {kd : Nat} (k1 : kd ≠ 1) (k3 : kd < 3) : yS kd = 3 := by
  unfold yS
  rw [if_neg k1, if_pos k3]
theorem yS_3 {kd : Nat} (k3 : 3 ≤ kd) : yS kd = 4 := by
  unfold yS
  rw [if_neg (by omega), if_neg (by omega)]
theorem yD_s {f : Nat → Int32} {i k j : Nat} : yD f t i (k + 1) j = cond (yB f t i j) (yD f t i k (j + 1)) j := rfl
theorem yD_b1 {f : Nat → Int32} {kd : Nat} (g1 : dg f (p + 1) t = false) : yD f t p (yS kd - 1) 1 = 1 := by
  have hs := yS_ge kd
  obtain ⟨m, em⟩ : ∃ m, yS kd - 1 = m + 1 := ⟨yS kd - 2, by omega⟩
  rw [em, yD_s, yB_1 (by decide), g1]
  rfl
theorem yD_k1 {f : Nat → Int32} {kd : Nat} (k1 : kd = 1) (g1 : dg f (p + 1) t = true) : yD f t p (yS kd - 1) 1 = yS kd := by
  subst k1
  show yD f t p (0 + 1) 1 = 2
  rw [yD_s, yB_1 (by decide), g1]
  rfl
theorem yD_b2 {f : Nat → Int32} {kd : Nat} (k1 : kd ≠ 1) (g1 : dg f (p + 1) t = true) (g2 : dg f (p + 2) t = false) : yD f t p (yS kd - 1) 1 = 2 := by
  have hs := yS_n1 k1
  obtain ⟨m, em⟩ : ∃ m, yS kd - 1 = m + 1 + 1 := ⟨yS kd - 3, by omega⟩
  rw [em, yD_s, yB_1 (by decide), g1, cond_true, yD_s, yB_1 (by decide), g2]
  rfl
theorem yD_k2 {f : Nat → Int32} {kd : Nat} (k1 : kd ≠ 1) (k3 : kd < 3) (g1 : dg f (p + 1) t = true) (g2 : dg f (p + 2) t = true) : yD f t p (yS kd - 1) 1 = yS kd := by
  rw [yS_2 k1 k3]
  show yD f t p (0 + 1 + 1) 1 = 3
  rw [yD_s, yB_1 (by decide), g1, cond_true, yD_s, yB_1 (by decide), g2]
  rfl
theorem yD_b3 {f : Nat → Int32} {kd : Nat} (k3 : 3 ≤ kd) (hk : kd ≤ 4) (g1 : dg f (p + 1) t = true) (g2 : dg f (p + 2) t = true) : yD f t p (yS kd - 1) 1 = 3 + cond (dgi f (p + 3) t 1 9) 1 0 := by
  rw [yS_3 k3]
  show yD f t p (0 + 1 + 1 + 1) 1 = _
  rw [yD_s, yB_1 (by decide), g1, cond_true, yD_s, yB_1 (by decide), g2, cond_true, yD_s, dgi_B]
  cases yB f t p 3 <;> rfl
/-- one act is read -/
theorem ra_run (hw : WT h) (e16 : Fi h 162 16 = nI p) (e17 : Fi h 162 17 = nI t) (e35 : Fi h 162 35 = nI c) (ht : t ≤ 80) (hp : p ≤ t) (hc : c < 1000) (hh : pm_run PT n fr lo 226 (0, pm_l0 [.ref 162] 2, [], h, 198, sl) = some R) : ∃ H, yQ h H t (yA (Ar h 172) t p).2 (c + 1) ∧ R = (some (.int (cond (yA (Ar h 172) t p).1 1 0)), H, 198, sl) ∧ (∀ a, a = 179 ∨ a = 180 ∨ a = 181 ∨ a = 182 → ∀ j, j ≠ c → Ar H a j = Ar h a j) ∧ ∀ kd, yL (Ar h 172) t p = some kd → (yA (Ar h 172) t p).1 = true → Ar H 179 c = nI kd ∧ Ar H 180 c = Ar h 172 (p + 1) - nI 48 ∧ (kd ≠ 1 → Ar H 181 c = Ar h 172 (p + 2) - nI 48) ∧ (3 ≤ kd → Ar H 182 c = Ar h 172 (p + 3) - nI 48) := by
  have z0 : yQ h h t p c := ⟨⟨hw, fr_0⟩, e16, e35⟩
  obtain ⟨n, hh⟩ := rn_i rfl rfl rfl rfl hh
  have hh : pm_run PT n fr lo 226 (1, [some (.ref 162), none], [.ref 162], h, 198, sl) = some R := hh
  obtain ⟨n, hh⟩ := rn_gi (x := nI c) hw rfl rfl (by decide) rfl (by decide) rfl e35 hh
  obtain ⟨n, hh⟩ := rn_i rfl rfl rfl rfl hh
  obtain ⟨n, hh⟩ := rn_i rfl rfl rfl rfl hh
  have hh : pm_run PT n fr lo 226 (6, [some (.ref 162), some (.int (nI c))], [.ref 162], h, 198, sl) = some R := hh
  obtain ⟨n, hh⟩ := rn_gr hw rfl rfl (by decide) rfl (by decide) (show _ = some (2, ((179 : Nat) : Int), 1) from rfl) rfl hh
  obtain ⟨n, hh⟩ := rn_i rfl rfl rfl rfl hh
  obtain ⟨n, hh⟩ := rn_i rfl rfl rfl rfl hh
  obtain ⟨n, hh⟩ := rn_i rfl rfl rfl rfl hh
  have hh : pm_run PT n fr lo 226 (14, [some (.ref 162), some (.int (nI c))], [.retAddr 4, .ref 162, .int (nI c), .ref 179], h, 198, sl) = some R := hh
  obtain ⟨n, fr1, lo1, r1, hr1, hh⟩ := rn_call (w := 0) (t := 183) rfl rfl hh
  obtain ⟨H1, ⟨w1, f1, g1⟩, er⟩ := tk_w hw e16 e17 ht (by omega) hr1
  subst er
  have z1 := yQ_16 z0 w1 f1 g1
  have hh : pm_run PT n fr lo 226 (17, [some (.ref 162), some (.int (nI c))], [.int (ykI (Ar h 172) t p), .int (nI c), .ref 179], H1, 198, sl) = some R := hh
  obtain ⟨n, hx, hh⟩ := en_st (t := c) (f := Ar H1 179) (nI_clamp (by omega)) w1 rfl (by decide) rfl (by decide) rfl hh
  have z2 := yQ_a (a := 179) (m := 60) (g := upd (Ar H1 179) c (ykI (Ar h 172) t p)) rfl (by decide) rfl rfl z1
  have b179 : Ar (aset H1 179 60 (upd (Ar H1 179) c (ykI (Ar h 172) t p))) 179 = upd (Ar h 179) c (ykI (Ar h 172) t p) := by rw [Ar_s, Ar_e (f1.1 179 rfl)]
  have b180 : Ar (aset H1 179 60 (upd (Ar H1 179) c (ykI (Ar h 172) t p))) 180 = Ar h 180 := by rw [Ar_n (by decide), Ar_e (f1.1 180 rfl)]
  have b181 : Ar (aset H1 179 60 (upd (Ar H1 179) c (ykI (Ar h 172) t p))) 181 = Ar h 181 := by rw [Ar_n (by decide), Ar_e (f1.1 181 rfl)]
  have b182 : Ar (aset H1 179 60 (upd (Ar H1 179) c (ykI (Ar h 172) t p))) 182 = Ar h 182 := by rw [Ar_n (by decide), Ar_e (f1.1 182 rfl)]
  generalize aset H1 179 60 (upd (Ar H1 179) c (ykI (Ar h 172) t p)) = H2 at *
  have hh : pm_run PT n fr lo 226 (18, [some (.ref 162), some (.int (nI c))], [], H2, 198, sl) = some R := hh
  obtain ⟨n, hh⟩ := rn_i rfl rfl rfl rfl hh
  obtain ⟨n, hh⟩ := rn_i rfl rfl rfl rfl hh
  have hh : pm_run PT n fr lo 226 (20, [some (.ref 162), some (.int (nI c))], [.ref 162, .ref 162], H2, 198, sl) = some R := hh
  obtain ⟨n, hh⟩ := rn_gi (x := nI c) z2.1.1 rfl rfl (by decide) rfl (by decide) rfl z2.2.2 hh
  obtain ⟨n, hh⟩ := rn_i rfl rfl rfl rfl hh
  have hh : pm_run PT n fr lo 226 (24, [some (.ref 162), some (.int (nI c))], [.int (nI 1), .int (nI c), .ref 162], H2, 198, sl) = some R := hh
  obtain ⟨n, hh⟩ := en_add rfl hh
  have hh : pm_run PT n fr lo 226 (25, [some (.ref 162), some (.int (nI c))], [.int (nI (c + 1)), .ref 162], H2, 198, sl) = some R := hh
  obtain ⟨n, hh⟩ := rn_pi z2.1.1 rfl rfl (by decide) rfl (by decide) rfl hh
  have z3 := yQ_35 (c' := c + 1) z2
  have d179 := (Ar_f (h := H2) (b := 179) (c := 162) (g := 35) (v := .int (nI (c + 1)))).trans b179
  have d180 := (Ar_f (h := H2) (b := 180) (c := 162) (g := 35) (v := .int (nI (c + 1)))).trans b180
  have d181 := (Ar_f (h := H2) (b := 181) (c := 162) (g := 35) (v := .int (nI (c + 1)))).trans b181
  have d182 := (Ar_f (h := H2) (b := 182) (c := 162) (g := 35) (v := .int (nI (c + 1)))).trans b182
  have q172 := yQ_172 z3
  generalize fset H2 162 35 (.int (nI (c + 1))) = H3 at *
  have hh : pm_run PT n fr lo 226 (28, [some (.ref 162), some (.int (nI c))], [], H3, 198, sl) = some R := hh
  obtain ⟨n, hh⟩ := rn_i rfl rfl rfl rfl hh
  have hh : pm_run PT n fr lo 226 (29, [some (.ref 162), some (.int (nI c))], [.ref 162], H3, 198, sl) = some R := hh
  obtain ⟨n, hh⟩ := rn_gr z3.1.1 rfl rfl (by decide) rfl (by decide) (show _ = some (2, ((179 : Nat) : Int), 1) from rfl) rfl hh
  obtain ⟨n, hh⟩ := rn_i rfl rfl rfl rfl hh
  have hh : pm_run PT n fr lo 226 (33, [some (.ref 162), some (.int (nI c))], [.int (nI c), .ref 179], H3, 198, sl) = some R := hh
  obtain ⟨n, hx, hh⟩ := en_lu (t := c) (f := upd (Ar h 179) c (ykI (Ar h 172) t p)) (w := ykI (Ar h 172) t p) (nI_clamp (by omega)) z3.1.1 rfl (by decide) rfl (by decide) d179 (fun _ => up_e rfl) hh
  have hh : pm_run PT n fr lo 226 (34, [some (.ref 162), some (.int (nI c))], [.int (ykI (Ar h 172) t p)], H3, 198, sl) = some R := hh
  obtain ⟨n, hh⟩ := rn_if (cc := .ge) (off := 5) (t := 39) rfl rfl hh
  cases eL : yL (Ar h 172) t p with
  | none =>
    have ev : ykI (Ar h 172) t p = Int32.ofInt (-1) := by
      unfold ykI
      rw [eL]
    have ep : ykP (Ar h 172) t p = p := by
      unfold ykP
      rw [eL]
    have eA : yA (Ar h 172) t p = (false, p) := by
      unfold yA
      rw [eL]
    rw [ev, n1_ge] at hh
    have hh : pm_run PT n fr lo 226 (37, [some (.ref 162), some (.int (nI c))], [], H3, 198, sl) = some R := hh
    obtain ⟨n, hh⟩ := rn_i rfl rfl rfl rfl hh
    have er := (rn_ret rfl (Or.inr rfl) hh).2
    rw [ep] at z3
    rw [eA]
    exact ⟨H3, z3, er, fun a ha j hj => by
      rcases ha with rfl | rfl | rfl | rfl
      · rw [d179, up_n hj]
      · rw [d180]
      · rw [d181]
      · rw [d182], fun kd ek => by cases ek⟩
  | some kd =>
    have ev : ykI (Ar h 172) t p = nI kd := by
      unfold ykI
      rw [eL]
    have ep : ykP (Ar h 172) t p = p + 1 := by
      unfold ykP
      rw [eL]
    have hk4 : kd ≤ 4 := yL_le eL
    have hlt : p < t := yL_lt eL
    have eA : yA (Ar h 172) t p = (decide (yD (Ar h 172) t p (yS kd - 1) 1 = yS kd), p + yD (Ar h 172) t p (yS kd - 1) 1) := by
      unfold yA
      rw [eL]
    rw [ep] at z3
    rw [ev] at d179
    rw [ev, show pm_cmp .ge (nI kd) 0 = true from (hI_ge (a := kd) (b := 0) (by omega) (by omega)).trans (decide_eq_true (Nat.zero_le _))] at hh
    have hh : pm_run PT n fr lo 226 (39, [some (.ref 162), some (.int (nI c))], [], H3, 198, sl) = some R := hh
    obtain ⟨n, hh⟩ := rn_i rfl rfl rfl rfl hh
    have hh : pm_run PT n fr lo 226 (40, [some (.ref 162), some (.int (nI c))], [.ref 162], H3, 198, sl) = some R := hh
    obtain ⟨n, hh⟩ := rn_gr z3.1.1 rfl rfl (by decide) rfl (by decide) (show _ = some (2, ((180 : Nat) : Int), 1) from rfl) rfl hh
    obtain ⟨n, hh⟩ := rn_i rfl rfl rfl rfl hh
    obtain ⟨n, hh⟩ := rn_i rfl rfl rfl rfl hh
    obtain ⟨n, hh⟩ := rn_i rfl rfl rfl rfl hh
    have hh : pm_run PT n fr lo 226 (46, [some (.ref 162), some (.int (nI c))], [.int (nI 1), .ref 162, .int (nI c), .ref 180], H3, 198, sl) = some R := hh
    obtain ⟨n, fr1, lo1, r1, hr1, hh⟩ := rn_call (w := 0) (t := 184) rfl rfl hh
    obtain ⟨J4, ⟨w4, f4, g4⟩, er⟩ := nm_w z3.1.1 z3.2.1 ((yQ_17 z3).trans e17) ht (by omega) hr1
    subst er
    have y4 := yQ_16 z3 w4 f4 g4
    rw [yQ_172 z3] at y4
    have hh : pm_run PT n fr lo 226 (49, [some (.ref 162), some (.int (nI c))], [.int (yN (Ar H3 172) t (p + 1)), .int (nI c), .ref 180], J4, 198, sl) = some R := hh
    rw [yQ_172 z3] at hh
    obtain ⟨n, hx, hh⟩ := en_st (t := c) (f := Ar J4 180) (nI_clamp (by omega)) w4 rfl (by decide) rfl (by decide) rfl hh
    have u4 := yQ_a (a := 180) (m := 60) (g := upd (Ar J4 180) c (yN (Ar h 172) t (p + 1))) rfl (by decide) rfl rfl y4
    have a179 : Ar (aset J4 180 60 (upd (Ar J4 180) c (yN (Ar h 172) t (p + 1)))) 179 = upd (Ar h 179) c (nI kd) := by rw [Ar_n (by decide), Ar_e (f4.1 179 rfl), d179]
    have a180 : Ar (aset J4 180 60 (upd (Ar J4 180) c (yN (Ar h 172) t (p + 1)))) 180 = upd (Ar h 180) c (yN (Ar h 172) t (p + 1)) := by rw [Ar_s, Ar_e (f4.1 180 rfl), d180]
    have a181 : Ar (aset J4 180 60 (upd (Ar J4 180) c (yN (Ar h 172) t (p + 1)))) 181 = Ar h 181 := by rw [Ar_n (by decide), Ar_e (f4.1 181 rfl), d181]
    have a182 : Ar (aset J4 180 60 (upd (Ar J4 180) c (yN (Ar h 172) t (p + 1)))) 182 = Ar h 182 := by rw [Ar_n (by decide), Ar_e (f4.1 182 rfl), d182]
    generalize aset J4 180 60 (upd (Ar J4 180) c (yN (Ar h 172) t (p + 1))) = H4 at *
    have hh : pm_run PT n fr lo 226 (50, [some (.ref 162), some (.int (nI c))], [], H4, 198, sl) = some R := hh
    obtain ⟨n, hh⟩ := rn_i rfl rfl rfl rfl hh
    have hh : pm_run PT n fr lo 226 (51, [some (.ref 162), some (.int (nI c))], [.ref 162], H4, 198, sl) = some R := hh
    obtain ⟨n, hh⟩ := rn_gr u4.1.1 rfl rfl (by decide) rfl (by decide) (show _ = some (2, ((180 : Nat) : Int), 1) from rfl) rfl hh
    obtain ⟨n, hh⟩ := rn_i rfl rfl rfl rfl hh
    have hh : pm_run PT n fr lo 226 (55, [some (.ref 162), some (.int (nI c))], [.int (nI c), .ref 180], H4, 198, sl) = some R := hh
    obtain ⟨n, hx, hh⟩ := en_lu (t := c) (f := upd (Ar h 180) c (yN (Ar h 172) t (p + 1))) (w := yN (Ar h 172) t (p + 1)) (nI_clamp (by omega)) u4.1.1 rfl (by decide) rfl (by decide) a180 (fun _ => up_e rfl) hh
    have hh : pm_run PT n fr lo 226 (56, [some (.ref 162), some (.int (nI c))], [.int (yN (Ar h 172) t (p + 1))], H4, 198, sl) = some R := hh
    obtain ⟨n, hh⟩ := rn_if (cc := .lt) (off := 13) (t := 69) rfl rfl hh
    rw [yn_lt] at hh
    cases g1 : dg (Ar h 172) (p + 1) t with
    | false =>
      rw [g1] at hh
      have hh : pm_run PT n fr lo 226 (69, [some (.ref 162), some (.int (nI c))], [], H4, 198, sl) = some R := hh
      obtain ⟨n, hh⟩ := rn_i rfl rfl rfl rfl hh
      have hh : pm_run PT n fr lo 226 (70, [some (.ref 162), some (.int (nI c))], [.ref 162], H4, 198, sl) = some R := hh
      obtain ⟨n, hh⟩ := rn_gr u4.1.1 rfl rfl (by decide) rfl (by decide) (show _ = some (2, ((180 : Nat) : Int), 1) from rfl) rfl hh
      obtain ⟨n, hh⟩ := rn_i rfl rfl rfl rfl hh
      have hh : pm_run PT n fr lo 226 (74, [some (.ref 162), some (.int (nI c))], [.int (nI c), .ref 180], H4, 198, sl) = some R := hh
      obtain ⟨n, hx, hh⟩ := en_lu (t := c) (f := upd (Ar h 180) c (yN (Ar h 172) t (p + 1))) (w := yN (Ar h 172) t (p + 1)) (nI_clamp (by omega)) u4.1.1 rfl (by decide) rfl (by decide) a180 (fun _ => up_e rfl) hh
      have hh : pm_run PT n fr lo 226 (75, [some (.ref 162), some (.int (nI c))], [.int (yN (Ar h 172) t (p + 1))], H4, 198, sl) = some R := hh
      obtain ⟨n, hh⟩ := rn_if (cc := .lt) (off := 7) (t := 82) rfl rfl hh
      rw [yn_lt, g1] at hh
      have hh : pm_run PT n fr lo 226 (82, [some (.ref 162), some (.int (nI c))], [], H4, 198, sl) = some R := hh
      obtain ⟨n, hh⟩ := rn_i rfl rfl rfl rfl hh
      have er := (rn_ret rfl (Or.inr rfl) hh).2
      have eD := yD_b1 (f := Ar h 172) (t := t) (p := p) (kd := kd) g1
      rw [eA, eD]
      rw [g1] at u4
      have hs := yS_ge kd
      rw [show decide (1 = yS kd) = false from decide_eq_false (by omega)]
      exact ⟨H4, u4, er, fun a ha j hj => by
        rcases ha with rfl | rfl | rfl | rfl
        · rw [a179, up_n hj]
        · rw [a180, up_n hj]
        · rw [a181]
        · rw [a182], fun _ _ e => by cases e⟩
    | true =>
      rw [g1] at hh u4
      have u4 : yQ h H4 t (p + 2) (c + 1) := u4
      have n1 : yN (Ar h 172) t (p + 1) = Ar h 172 (p + 1) - nI 48 := by
        unfold yN
        rw [g1]
        rfl
      have hh : pm_run PT n fr lo 226 (59, [some (.ref 162), some (.int (nI c))], [], H4, 198, sl) = some R := hh
      obtain ⟨n, hh⟩ := rn_i rfl rfl rfl rfl hh
      have hh : pm_run PT n fr lo 226 (60, [some (.ref 162), some (.int (nI c))], [.ref 162], H4, 198, sl) = some R := hh
      obtain ⟨n, hh⟩ := rn_gr u4.1.1 rfl rfl (by decide) rfl (by decide) (show _ = some (2, ((179 : Nat) : Int), 1) from rfl) rfl hh
      obtain ⟨n, hh⟩ := rn_i rfl rfl rfl rfl hh
      have hh : pm_run PT n fr lo 226 (64, [some (.ref 162), some (.int (nI c))], [.int (nI c), .ref 179], H4, 198, sl) = some R := hh
      obtain ⟨n, hx, hh⟩ := en_lu (t := c) (f := upd (Ar h 179) c (nI kd)) (w := nI kd) (nI_clamp (by omega)) u4.1.1 rfl (by decide) rfl (by decide) a179 (fun _ => up_e rfl) hh
      have hh : pm_run PT n fr lo 226 (65, [some (.ref 162), some (.int (nI c))], [.int (nI kd)], H4, 198, sl) = some R := hh
      obtain ⟨n, hh⟩ := rn_i rfl rfl rfl rfl hh
      obtain ⟨n, hh⟩ := rn_icmp (cc := .ne) (off := 18) (t := 84) rfl rfl hh
      rw [show pm_cmp .ne (nI kd) (Int32.ofInt 1) = decide (¬ kd = 1) from hI_ne (a := kd) (b := 1) (by omega) (by omega)] at hh
      by_cases k1 : kd = 1
      · rw [decide_eq_false (fun y => y k1)] at hh
        have hh : pm_run PT n fr lo 226 (69, [some (.ref 162), some (.int (nI c))], [], H4, 198, sl) = some R := hh
        obtain ⟨n, hh⟩ := rn_i rfl rfl rfl rfl hh
        have hh : pm_run PT n fr lo 226 (70, [some (.ref 162), some (.int (nI c))], [.ref 162], H4, 198, sl) = some R := hh
        obtain ⟨n, hh⟩ := rn_gr u4.1.1 rfl rfl (by decide) rfl (by decide) (show _ = some (2, ((180 : Nat) : Int), 1) from rfl) rfl hh
        obtain ⟨n, hh⟩ := rn_i rfl rfl rfl rfl hh
        have hh : pm_run PT n fr lo 226 (74, [some (.ref 162), some (.int (nI c))], [.int (nI c), .ref 180], H4, 198, sl) = some R := hh
        obtain ⟨n, hx, hh⟩ := en_lu (t := c) (f := upd (Ar h 180) c (yN (Ar h 172) t (p + 1))) (w := yN (Ar h 172) t (p + 1)) (nI_clamp (by omega)) u4.1.1 rfl (by decide) rfl (by decide) a180 (fun _ => up_e rfl) hh
        have hh : pm_run PT n fr lo 226 (75, [some (.ref 162), some (.int (nI c))], [.int (yN (Ar h 172) t (p + 1))], H4, 198, sl) = some R := hh
        obtain ⟨n, hh⟩ := rn_if (cc := .lt) (off := 7) (t := 82) rfl rfl hh
        rw [yn_lt, g1] at hh
        have hh : pm_run PT n fr lo 226 (78, [some (.ref 162), some (.int (nI c))], [], H4, 198, sl) = some R := hh
        obtain ⟨n, hh⟩ := rn_i rfl rfl rfl rfl hh
        obtain ⟨n, hh⟩ := rn_i rfl rfl rfl rfl hh
        have er := (rn_ret rfl (Or.inr rfl) hh).2
        have eD : yD (Ar h 172) t p (yS kd - 1) 1 = yS kd := yD_k1 k1 g1
        rw [eA, eD, decide_eq_true rfl]
        have es : yS kd = 2 := by
          rw [k1]
          rfl
        rw [es]
        refine ⟨H4, u4, er, fun a ha j hj => ?_, fun kd' ek _ => ?_⟩
        · rcases ha with rfl | rfl | rfl | rfl
          · rw [a179, up_n hj]
          · rw [a180, up_n hj]
          · rw [a181]
          · rw [a182]
        · cases ek
          exact ⟨by rw [a179, up_e rfl], by rw [a180, up_e rfl, n1], fun k => absurd k1 k, fun k => by omega⟩
      · rw [decide_eq_true k1] at hh
        have hh : pm_run PT n fr lo 226 (84, [some (.ref 162), some (.int (nI c))], [], H4, 198, sl) = some R := hh
        obtain ⟨n, hh⟩ := rn_i rfl rfl rfl rfl hh
        have hh : pm_run PT n fr lo 226 (85, [some (.ref 162), some (.int (nI c))], [.ref 162], H4, 198, sl) = some R := hh
        obtain ⟨n, hh⟩ := rn_gr u4.1.1 rfl rfl (by decide) rfl (by decide) (show _ = some (2, ((181 : Nat) : Int), 1) from rfl) rfl hh
        obtain ⟨n, hh⟩ := rn_i rfl rfl rfl rfl hh
        obtain ⟨n, hh⟩ := rn_i rfl rfl rfl rfl hh
        obtain ⟨n, hh⟩ := rn_i rfl rfl rfl rfl hh
        have hh : pm_run PT n fr lo 226 (91, [some (.ref 162), some (.int (nI c))], [.int (nI 1), .ref 162, .int (nI c), .ref 181], H4, 198, sl) = some R := hh
        obtain ⟨n, fr1, lo1, r1, hr1, hh⟩ := rn_call (w := 0) (t := 184) rfl rfl hh
        obtain ⟨J5, ⟨w5, f5, g5⟩, er⟩ := nm_w u4.1.1 u4.2.1 ((yQ_17 u4).trans e17) ht (by omega) hr1
        subst er
        have y5 := yQ_16 u4 w5 f5 g5
        rw [yQ_172 u4] at y5
        have hh : pm_run PT n fr lo 226 (94, [some (.ref 162), some (.int (nI c))], [.int (yN (Ar H4 172) t (p + 2)), .int (nI c), .ref 181], J5, 198, sl) = some R := hh
        rw [yQ_172 u4] at hh
        obtain ⟨n, hx, hh⟩ := en_st (t := c) (f := Ar J5 181) (nI_clamp (by omega)) w5 rfl (by decide) rfl (by decide) rfl hh
        have u5 := yQ_a (a := 181) (m := 60) (g := upd (Ar J5 181) c (yN (Ar h 172) t (p + 2))) rfl (by decide) rfl rfl y5
        have m179 : Ar (aset J5 181 60 (upd (Ar J5 181) c (yN (Ar h 172) t (p + 2)))) 179 = upd (Ar h 179) c (nI kd) := by rw [Ar_n (by decide), Ar_e (f5.1 179 rfl), a179]
        have m180 : Ar (aset J5 181 60 (upd (Ar J5 181) c (yN (Ar h 172) t (p + 2)))) 180 = upd (Ar h 180) c (yN (Ar h 172) t (p + 1)) := by rw [Ar_n (by decide), Ar_e (f5.1 180 rfl), a180]
        have m181 : Ar (aset J5 181 60 (upd (Ar J5 181) c (yN (Ar h 172) t (p + 2)))) 181 = upd (Ar h 181) c (yN (Ar h 172) t (p + 2)) := by rw [Ar_s, Ar_e (f5.1 181 rfl), a181]
        have m182 : Ar (aset J5 181 60 (upd (Ar J5 181) c (yN (Ar h 172) t (p + 2)))) 182 = Ar h 182 := by rw [Ar_n (by decide), Ar_e (f5.1 182 rfl), a182]
        generalize aset J5 181 60 (upd (Ar J5 181) c (yN (Ar h 172) t (p + 2))) = H5 at *
        have hh : pm_run PT n fr lo 226 (95, [some (.ref 162), some (.int (nI c))], [], H5, 198, sl) = some R := hh
        obtain ⟨n, hh⟩ := rn_i rfl rfl rfl rfl hh
        have hh : pm_run PT n fr lo 226 (96, [some (.ref 162), some (.int (nI c))], [.ref 162], H5, 198, sl) = some R := hh
        obtain ⟨n, hh⟩ := rn_gr u5.1.1 rfl rfl (by decide) rfl (by decide) (show _ = some (2, ((181 : Nat) : Int), 1) from rfl) rfl hh
        obtain ⟨n, hh⟩ := rn_i rfl rfl rfl rfl hh
        have hh : pm_run PT n fr lo 226 (100, [some (.ref 162), some (.int (nI c))], [.int (nI c), .ref 181], H5, 198, sl) = some R := hh
        obtain ⟨n, hx, hh⟩ := en_lu (t := c) (f := upd (Ar h 181) c (yN (Ar h 172) t (p + 2))) (w := yN (Ar h 172) t (p + 2)) (nI_clamp (by omega)) u5.1.1 rfl (by decide) rfl (by decide) m181 (fun _ => up_e rfl) hh
        have hh : pm_run PT n fr lo 226 (101, [some (.ref 162), some (.int (nI c))], [.int (yN (Ar h 172) t (p + 2))], H5, 198, sl) = some R := hh
        obtain ⟨n, hh⟩ := rn_if (cc := .lt) (off := 13) (t := 114) rfl rfl hh
        rw [yn_lt] at hh
        cases g2 : dg (Ar h 172) (p + 2) t with
        | false =>
          rw [g2] at hh
          have hh : pm_run PT n fr lo 226 (114, [some (.ref 162), some (.int (nI c))], [], H5, 198, sl) = some R := hh
          obtain ⟨n, hh⟩ := rn_i rfl rfl rfl rfl hh
          have hh : pm_run PT n fr lo 226 (115, [some (.ref 162), some (.int (nI c))], [.ref 162], H5, 198, sl) = some R := hh
          obtain ⟨n, hh⟩ := rn_gr u5.1.1 rfl rfl (by decide) rfl (by decide) (show _ = some (2, ((181 : Nat) : Int), 1) from rfl) rfl hh
          obtain ⟨n, hh⟩ := rn_i rfl rfl rfl rfl hh
          have hh : pm_run PT n fr lo 226 (119, [some (.ref 162), some (.int (nI c))], [.int (nI c), .ref 181], H5, 198, sl) = some R := hh
          obtain ⟨n, hx, hh⟩ := en_lu (t := c) (f := upd (Ar h 181) c (yN (Ar h 172) t (p + 2))) (w := yN (Ar h 172) t (p + 2)) (nI_clamp (by omega)) u5.1.1 rfl (by decide) rfl (by decide) m181 (fun _ => up_e rfl) hh
          have hh : pm_run PT n fr lo 226 (120, [some (.ref 162), some (.int (nI c))], [.int (yN (Ar h 172) t (p + 2))], H5, 198, sl) = some R := hh
          obtain ⟨n, hh⟩ := rn_if (cc := .lt) (off := 7) (t := 127) rfl rfl hh
          rw [yn_lt, g2] at hh
          have hh : pm_run PT n fr lo 226 (127, [some (.ref 162), some (.int (nI c))], [], H5, 198, sl) = some R := hh
          obtain ⟨n, hh⟩ := rn_i rfl rfl rfl rfl hh
          have er := (rn_ret rfl (Or.inr rfl) hh).2
          have eD := yD_b2 (f := Ar h 172) (t := t) (p := p) (kd := kd) k1 g1 g2
          rw [eA, eD]
          rw [g2] at u5
          have hs := yS_n1 k1
          rw [show decide (2 = yS kd) = false from decide_eq_false (by omega)]
          exact ⟨H5, u5, er, fun a ha j hj => by
            rcases ha with rfl | rfl | rfl | rfl
            · rw [m179, up_n hj]
            · rw [m180, up_n hj]
            · rw [m181, up_n hj]
            · rw [m182], fun _ _ e => by cases e⟩
        | true =>
          rw [g2] at hh u5
          have u5 : yQ h H5 t (p + 3) (c + 1) := u5
          have n2 : yN (Ar h 172) t (p + 2) = Ar h 172 (p + 2) - nI 48 := by
            unfold yN
            rw [g2]
            rfl
          have hh : pm_run PT n fr lo 226 (104, [some (.ref 162), some (.int (nI c))], [], H5, 198, sl) = some R := hh
          obtain ⟨n, hh⟩ := rn_i rfl rfl rfl rfl hh
          have hh : pm_run PT n fr lo 226 (105, [some (.ref 162), some (.int (nI c))], [.ref 162], H5, 198, sl) = some R := hh
          obtain ⟨n, hh⟩ := rn_gr u5.1.1 rfl rfl (by decide) rfl (by decide) (show _ = some (2, ((179 : Nat) : Int), 1) from rfl) rfl hh
          obtain ⟨n, hh⟩ := rn_i rfl rfl rfl rfl hh
          have hh : pm_run PT n fr lo 226 (109, [some (.ref 162), some (.int (nI c))], [.int (nI c), .ref 179], H5, 198, sl) = some R := hh
          obtain ⟨n, hx, hh⟩ := en_lu (t := c) (f := upd (Ar h 179) c (nI kd)) (w := nI kd) (nI_clamp (by omega)) u5.1.1 rfl (by decide) rfl (by decide) m179 (fun _ => up_e rfl) hh
          have hh : pm_run PT n fr lo 226 (110, [some (.ref 162), some (.int (nI c))], [.int (nI kd)], H5, 198, sl) = some R := hh
          obtain ⟨n, hh⟩ := rn_i rfl rfl rfl rfl hh
          obtain ⟨n, hh⟩ := rn_icmp (cc := .ge) (off := 18) (t := 129) rfl rfl hh
          rw [show pm_cmp .ge (nI kd) (Int32.ofInt 3) = decide (3 ≤ kd) from hI_ge (a := kd) (b := 3) (by omega) (by omega)] at hh
          by_cases k3 : 3 ≤ kd
          · rw [decide_eq_true k3] at hh
            have hh : pm_run PT n fr lo 226 (129, [some (.ref 162), some (.int (nI c))], [], H5, 198, sl) = some R := hh
            obtain ⟨n, hh⟩ := rn_i rfl rfl rfl rfl hh
            have hh : pm_run PT n fr lo 226 (130, [some (.ref 162), some (.int (nI c))], [.ref 162], H5, 198, sl) = some R := hh
            obtain ⟨n, hh⟩ := rn_gr u5.1.1 rfl rfl (by decide) rfl (by decide) (show _ = some (2, ((182 : Nat) : Int), 1) from rfl) rfl hh
            obtain ⟨n, hh⟩ := rn_i rfl rfl rfl rfl hh
            obtain ⟨n, hh⟩ := rn_i rfl rfl rfl rfl hh
            obtain ⟨n, hh⟩ := rn_i rfl rfl rfl rfl hh
            obtain ⟨n, hh⟩ := rn_i rfl rfl rfl rfl hh
            have hh : pm_run PT n fr lo 226 (138, [some (.ref 162), some (.int (nI c))], [.int (nI 9), .int (nI 1), .ref 162, .int (nI c), .ref 182], H5, 198, sl) = some R := hh
            obtain ⟨n, fr1, lo1, r1, hr1, hh⟩ := rn_call (w := 0) (t := 185) rfl rfl hh
            obtain ⟨J6, ⟨w6, f6, g6⟩, er⟩ := di_w u5.1.1 u5.2.1 ((yQ_17 u5).trans e17) ht (by omega) hr1
            subst er
            have y6 := yQ_16 u5 w6 f6 g6
            rw [yQ_172 u5] at y6
            have hh : pm_run PT n fr lo 226 (141, [some (.ref 162), some (.int (nI c))], [.int (yGd (Ar H5 172) t (p + 3)), .int (nI c), .ref 182], J6, 198, sl) = some R := hh
            rw [yQ_172 u5] at hh
            obtain ⟨n, hx, hh⟩ := en_st (t := c) (f := Ar J6 182) (nI_clamp (by omega)) w6 rfl (by decide) rfl (by decide) rfl hh
            have u6 := yQ_a (a := 182) (m := 60) (g := upd (Ar J6 182) c (yGd (Ar h 172) t (p + 3))) rfl (by decide) rfl rfl y6
            have k179 : Ar (aset J6 182 60 (upd (Ar J6 182) c (yGd (Ar h 172) t (p + 3)))) 179 = upd (Ar h 179) c (nI kd) := by rw [Ar_n (by decide), Ar_e (f6.1 179 rfl), m179]
            have k180 : Ar (aset J6 182 60 (upd (Ar J6 182) c (yGd (Ar h 172) t (p + 3)))) 180 = upd (Ar h 180) c (yN (Ar h 172) t (p + 1)) := by rw [Ar_n (by decide), Ar_e (f6.1 180 rfl), m180]
            have k181 : Ar (aset J6 182 60 (upd (Ar J6 182) c (yGd (Ar h 172) t (p + 3)))) 181 = upd (Ar h 181) c (yN (Ar h 172) t (p + 2)) := by rw [Ar_n (by decide), Ar_e (f6.1 181 rfl), m181]
            have k182 : Ar (aset J6 182 60 (upd (Ar J6 182) c (yGd (Ar h 172) t (p + 3)))) 182 = upd (Ar h 182) c (yGd (Ar h 172) t (p + 3)) := by rw [Ar_s, Ar_e (f6.1 182 rfl), m182]
            generalize aset J6 182 60 (upd (Ar J6 182) c (yGd (Ar h 172) t (p + 3))) = H6 at *
            have hh : pm_run PT n fr lo 226 (142, [some (.ref 162), some (.int (nI c))], [], H6, 198, sl) = some R := hh
            obtain ⟨n, hh⟩ := rn_i rfl rfl rfl rfl hh
            have hh : pm_run PT n fr lo 226 (143, [some (.ref 162), some (.int (nI c))], [.ref 162], H6, 198, sl) = some R := hh
            obtain ⟨n, hh⟩ := rn_gr u6.1.1 rfl rfl (by decide) rfl (by decide) (show _ = some (2, ((182 : Nat) : Int), 1) from rfl) rfl hh
            obtain ⟨n, hh⟩ := rn_i rfl rfl rfl rfl hh
            have hh : pm_run PT n fr lo 226 (147, [some (.ref 162), some (.int (nI c))], [.int (nI c), .ref 182], H6, 198, sl) = some R := hh
            obtain ⟨n, hx, hh⟩ := en_lu (t := c) (f := upd (Ar h 182) c (yGd (Ar h 172) t (p + 3))) (w := yGd (Ar h 172) t (p + 3)) (nI_clamp (by omega)) u6.1.1 rfl (by decide) rfl (by decide) k182 (fun _ => up_e rfl) hh
            have hh : pm_run PT n fr lo 226 (148, [some (.ref 162), some (.int (nI c))], [.int (yGd (Ar h 172) t (p + 3))], H6, 198, sl) = some R := hh
            obtain ⟨n, hh⟩ := rn_if (cc := .lt) (off := 7) (t := 155) rfl rfl hh
            rw [yg_lt] at hh
            have eD := yD_b3 (f := Ar h 172) (t := t) (p := p) (kd := kd) k3 hk4 g1 g2
            have es : yS kd = 4 := yS_3 k3
            rw [eA, eD, es]
            cases g3 : dgi (Ar h 172) (p + 3) t 1 9 with
            | false =>
              rw [g3] at hh u6
              have hh : pm_run PT n fr lo 226 (155, [some (.ref 162), some (.int (nI c))], [], H6, 198, sl) = some R := hh
              obtain ⟨n, hh⟩ := rn_i rfl rfl rfl rfl hh
              have er := (rn_ret rfl (Or.inr rfl) hh).2
              exact ⟨H6, u6, er, fun a ha j hj => by
                rcases ha with rfl | rfl | rfl | rfl
                · rw [k179, up_n hj]
                · rw [k180, up_n hj]
                · rw [k181, up_n hj]
                · rw [k182, up_n hj], fun _ _ e => by cases e⟩
            | true =>
              rw [g3] at hh u6
              have hh : pm_run PT n fr lo 226 (151, [some (.ref 162), some (.int (nI c))], [], H6, 198, sl) = some R := hh
              obtain ⟨n, hh⟩ := rn_i rfl rfl rfl rfl hh
              obtain ⟨n, hh⟩ := rn_i rfl rfl rfl rfl hh
              have er := (rn_ret rfl (Or.inr rfl) hh).2
              have n3 : yGd (Ar h 172) t (p + 3) = Ar h 172 (p + 3) - nI 48 := by
                unfold yGd
                rw [g3]
                rfl
              refine ⟨H6, u6, er, fun a ha j hj => ?_, fun kd' ek _ => ?_⟩
              · rcases ha with rfl | rfl | rfl | rfl
                · rw [k179, up_n hj]
                · rw [k180, up_n hj]
                · rw [k181, up_n hj]
                · rw [k182, up_n hj]
              · cases ek
                exact ⟨by rw [k179, up_e rfl], by rw [k180, up_e rfl, n1], fun _ => by rw [k181, up_e rfl, n2], fun _ => by rw [k182, up_e rfl, n3]⟩
          · rw [decide_eq_false k3] at hh
            have hh : pm_run PT n fr lo 226 (114, [some (.ref 162), some (.int (nI c))], [], H5, 198, sl) = some R := hh
            obtain ⟨n, hh⟩ := rn_i rfl rfl rfl rfl hh
            have hh : pm_run PT n fr lo 226 (115, [some (.ref 162), some (.int (nI c))], [.ref 162], H5, 198, sl) = some R := hh
            obtain ⟨n, hh⟩ := rn_gr u5.1.1 rfl rfl (by decide) rfl (by decide) (show _ = some (2, ((181 : Nat) : Int), 1) from rfl) rfl hh
            obtain ⟨n, hh⟩ := rn_i rfl rfl rfl rfl hh
            have hh : pm_run PT n fr lo 226 (119, [some (.ref 162), some (.int (nI c))], [.int (nI c), .ref 181], H5, 198, sl) = some R := hh
            obtain ⟨n, hx, hh⟩ := en_lu (t := c) (f := upd (Ar h 181) c (yN (Ar h 172) t (p + 2))) (w := yN (Ar h 172) t (p + 2)) (nI_clamp (by omega)) u5.1.1 rfl (by decide) rfl (by decide) m181 (fun _ => up_e rfl) hh
            have hh : pm_run PT n fr lo 226 (120, [some (.ref 162), some (.int (nI c))], [.int (yN (Ar h 172) t (p + 2))], H5, 198, sl) = some R := hh
            obtain ⟨n, hh⟩ := rn_if (cc := .lt) (off := 7) (t := 127) rfl rfl hh
            rw [yn_lt, g2] at hh
            have hh : pm_run PT n fr lo 226 (123, [some (.ref 162), some (.int (nI c))], [], H5, 198, sl) = some R := hh
            obtain ⟨n, hh⟩ := rn_i rfl rfl rfl rfl hh
            obtain ⟨n, hh⟩ := rn_i rfl rfl rfl rfl hh
            have er := (rn_ret rfl (Or.inr rfl) hh).2
            have eD : yD (Ar h 172) t p (yS kd - 1) 1 = yS kd := yD_k2 k1 (by omega) g1 g2
            have es : yS kd = 3 := yS_2 k1 (by omega)
            rw [eA, eD, decide_eq_true rfl, es]
            refine ⟨H5, u5, er, fun a ha j hj => ?_, fun kd' ek _ => ?_⟩
            · rcases ha with rfl | rfl | rfl | rfl
              · rw [m179, up_n hj]
              · rw [m180, up_n hj]
              · rw [m181, up_n hj]
              · rw [m182]
            · cases ek
              exact ⟨by rw [m179, up_e rfl], by rw [m180, up_e rfl, n1], fun _ => by rw [m181, up_e rfl, n2], fun k => absurd k k3⟩
end YRM
end MG95zzzhx0
section MG95zzzhx1
/-! year: one act of both sides; all acts -/
section YRS
variable {n fr lo sl n0 cc gc a b k kd t : Nat} {q : QT} {h h1 h2 X M : pm_H} {d : Int32} {R : pm_Rs} {f : Nat → Int32}
/-- an act of the class -/
def yX (q : QT) (cc gc : Nat) (h : pm_H) (kd a b : Nat) (d : Int32) : Bool × pm_H := if kd = 0 then v142 q cc gc h a b else if kd = 1 then (true, v140 q cc gc h a) else if kd = 2 then v143 q cc gc h a b else if kd = 3 then v144 q cc gc h a b d else v144 q cc gc h a b (-d)
/-- an act of the reference -/
def yM (q : QT) (cc gc : Nat) (h : pm_H) (k kd a b : Nat) : Bool × pm_H := if kd = 1 then v227m q cc gc h k a else v227 q cc gc h k kd a b
def yWX : List Nat := [12, 13, 14, 15, 16, 17, 18, 142, 144, 145, 147]
def yVX : List (Nat × Nat) := [(13, 5), (13, 6), (142, 3), (145, 3)]
def yWM : List Nat := [162, 170, 176, 177]
def yVM : List (Nat × Nat) := [(162, 29), (162, 30)]
theorem yX_fr (hc : HC q cc gc h) : HC q cc gc (yX q cc gc h kd a b d).2 ∧ frm yWX yVX h (yX q cc gc h kd a b d).2 := by
  unfold yX
  split
  · obtain ⟨x, y⟩ := v142_fr (g := a) (c := b) hc
    exact ⟨x, fr_g rfl rfl y fr_0⟩
  · split
    · obtain ⟨x, y⟩ := v140_fr (m := a) hc
      exact ⟨x, fr_g rfl rfl y fr_0⟩
    · split
      · obtain ⟨x, y⟩ := v143_fr (a := a) (b := b) hc
        exact ⟨x, fr_g rfl rfl y fr_0⟩
      · split
        · obtain ⟨x, y⟩ := v144_fr (a := a) (b := b) (m := d) hc
          exact ⟨x, fr_g rfl rfl y fr_0⟩
        · obtain ⟨x, y⟩ := v144_fr (a := a) (b := b) (m := -d) hc
          exact ⟨x, fr_g rfl rfl y fr_0⟩
theorem VE_mk (z : VE q cc gc X M) {X' M' : pm_H} (c1 : HC q cc gc X') (c2 : HC q cc gc M') (f1 : frm yWX yVX X X') (f2 : frm yWM yVM M M') (s : RS cc gc (Ar X' 14) (Ar X' 15) (Ar X' 16) (Ar X' 17) (Ar X' 18) (Fi X' 13 5) (Fi X' 13 6) (Ar M' 170)) (r : RI cc gc (Ar M' 170)) : VE q cc gc X' M' := by
  obtain ⟨⟨z1, z2⟩, z3, z4, -, -⟩ := z
  have eq1 : Ar X' (q.1 + 1) = Ar X (q.1 + 1) := by
    rcases z1.qq with e | e
    · rw [e]
      exact Ar_e (f1.1 143 rfl)
    · rw [e]
      exact Ar_e (f1.1 146 rfl)
  refine ⟨⟨c1, c2⟩, ?_, ?_, s, r⟩
  · rw [eq1, Ar_e (f2.1 174 rfl)]
    exact z3
  · unfold RMm
    rw [Ar_e (f1.1 6 rfl), Ar_e (f1.1 7 rfl), Ar_e (f1.1 9 rfl), Ar_e (f1.1 10 rfl), Ar_e (f1.1 11 rfl), Ar_e (f2.1 164 rfl), Ar_e (f2.1 165 rfl), Ar_e (f2.1 166 rfl), Ar_e (f2.1 167 rfl), Ar_e (f2.1 168 rfl)]
    exact z4
theorem lt_tt {x : Int32} (e : 0 ≤ x.toInt) : pm_cmp .lt x 0 = false := lt0_val e
/-- send -/
theorem ys_send (z : VE q cc gc X M) (g c : Nat) : (v142 q cc gc X g c).1 = (cond (pm_cmp .lt (v217 q cc gc M g c).1 0) false true) ∧ VE q cc gc (v142 q cc gc X g c).2 (v217 q cc gc M g c).2 := by
  obtain ⟨⟨c1, c2⟩, z3, z4, z5, z6⟩ := id z
  have h6 := c1.cb
  have h8 := c1.gb
  have lt1 : pm_cmp .lt (Int32.ofInt (-1)) 0 = true := by decide
  have no : (v136 q cc gc (Ar X 17) g c = Int32.ofInt (-1) ∨ v136 q cc gc (Ar X 17) g c = Int32.ofInt (-2)) → v142 q cc gc X g c = (false, X) := by
    intro e
    unfold v142
    rcases e with e | e
    · rw [e, n1_ge]
      rfl
    · rw [e, n2_ge]
      rfl
  by_cases hg : g < gc
  · by_cases hc : c < cc
    · obtain ⟨F, hF, eF⟩ := z6.2.2.2.1 g hg
      have eX : Ar X 17 g = nI F := (z5.2.2.2.1 g hg).trans eF
      by_cases hn : F = c
      · subst hn
        have ev : v136 q cc gc (Ar X 17) g F = Int32.ofInt (-2) := by
          unfold v136
          rw [decide_eq_true hg, decide_eq_true hc, eX, ne_ff]
          rfl
        have e217 : v217 q cc gc M g F = (Int32.ofInt (-2), M) := by
          unfold v217
          rw [decide_eq_true hg, decide_eq_true hc, eF, nI_clamp (by omega), decide_eq_false (fun z : ¬ F = F => z rfl)]
          rfl
        rw [no (Or.inr ev), e217]
        dsimp only
        rw [n2_lt]
        exact ⟨rfl, z⟩
      · have ev : v136 q cc gc (Ar X 17) g c = nI 0 := by
          unfold v136
          rw [decide_eq_true hg, decide_eq_true hc, eX, ne_tt (fun y => hn (nI_ij (by omega) (by omega) y))]
          rfl
        have e142 : v142 q cc gc X g c = (true, v40 q cc gc (v39 q cc gc X g c).2 g c (v39 q cc gc X g c).1) := by
          unfold v142
          rw [ev, z0_ge]
          rfl
        obtain ⟨c39, f39⟩ := v39_fr (g := g) (c := c) c1
        obtain ⟨c40, f40⟩ := v40_fr (g := g) (c := c) (v := (v39 q cc gc X g c).1) c39
        have hV := VE_val z hg hc
        have ea : ∀ a, (List.elem a [12, 142, 144, 145, 147]) = false → Ar (v39 q cc gc X g c).2 a = Ar X a := fun a e => Ar_e (f39.1 a e)
        have ef : ∀ k, Fi (v39 q cc gc X g c).2 13 k = Fi X 13 k := fun k => Fi_e (f39.1 13 rfl)
        have r5 : RS cc gc (Ar (v39 q cc gc X g c).2 14) (Ar (v39 q cc gc X g c).2 15) (Ar (v39 q cc gc X g c).2 16) (Ar (v39 q cc gc X g c).2 17) (Ar (v39 q cc gc X g c).2 18) (Fi (v39 q cc gc X g c).2 13 5) (Fi (v39 q cc gc X g c).2 13 6) (Ar M 170) := by
          rw [ea 14 rfl, ea 15 rfl, ea 16 rfl, ea 17 rfl, ea 18 rfl, ef, ef]
          exact z5
        obtain ⟨n1, n2, n3, n4⟩ := send_rel c39 r5 z6 hV hg hc hF eF hn
        obtain ⟨cM, fM⟩ := v217_fr (g := g) (c := c) c2
        rw [e142, lt_tt n4]
        refine ⟨rfl, VE_mk z c40 cM (fr_g rfl rfl f40 (fr_g rfl rfl f39 fr_0)) (fr_g rfl rfl fM fr_0) ?_ n2⟩
        show RS cc gc (Ar (v40 q cc gc (v39 q cc gc X g c).2 g c (v39 q cc gc X g c).1) 14) _ _ _ _ (Fi (v40 q cc gc (v39 q cc gc X g c).2 g c (v39 q cc gc X g c).1) 13 5) (Fi (v40 q cc gc (v39 q cc gc X g c).2 g c (v39 q cc gc X g c).1) 13 6) _
        rw [Ar_e (f40.1 14 rfl), Fi_e (f40.1 13 rfl), Fi_e (f40.1 13 rfl)]
        exact n1
    · have ev : v136 q cc gc (Ar X 17) g c = Int32.ofInt (-1) := by
        unfold v136
        rw [decide_eq_true hg, decide_eq_false hc]
        rfl
      have e217 : v217 q cc gc M g c = (Int32.ofInt (-1), M) := by
        unfold v217
        rw [decide_eq_true hg, decide_eq_false hc]
        rfl
      rw [no (Or.inl ev), e217]
      dsimp only
      rw [lt1]
      exact ⟨rfl, z⟩
  · have ev : v136 q cc gc (Ar X 17) g c = Int32.ofInt (-1) := by
      unfold v136
      rw [decide_eq_false hg]
      rfl
    have e217 : v217 q cc gc M g c = (Int32.ofInt (-1), M) := by
      unfold v217
      rw [decide_eq_false hg]
      rfl
    rw [no (Or.inl ev), e217]
    dsimp only
    rw [lt1]
    exact ⟨rfl, z⟩
/-- months -/
theorem ys_mon (z : VE q cc gc X M) (m : Nat) : VE q cc gc (v140 q cc gc X m) (lp (fun _ a => v219 q cc gc a) m 0 M) := by
  have j := mon_lp z.1.1 z.1.2 z.2.2.2.1 z.2.2.2.2 z.2.2.1 m
  have j : MJ q cc gc X M (0 + m) (v140 q cc gc X m) (lp (fun _ a => v219 q cc gc a) m 0 M) := j
  obtain ⟨⟨j1, j2⟩, ⟨j3, j4⟩, j5, j6⟩ := j
  exact VE_mk z j1 j2 (fr_g rfl rfl j3 fr_0) (fr_g rfl rfl j4 fr_0) j5 j6
theorem cB_lt (ha : a < 10) (e : cB cc (nI a) = true) : a < cc := by
  rw [cB_n (by omega)] at e
  exact of_decide_eq_true e
/-- forgive -/
theorem ys_fgv (z : VE q cc gc X M) (ha : a < 10) (hb : b < 10) : (v143 q cc gc X a b).1 = (cond (pm_cmp .lt (v221 q cc gc M a b).1 0) false true) ∧ VE q cc gc (v143 q cc gc X a b).2 (v221 q cc gc M a b).2 := by
  obtain ⟨⟨c1, c2⟩, z3, z4, z5, z6⟩ := id z
  have h6 := c1.cb
  have lt1 : pm_cmp .lt (Int32.ofInt (-1)) 0 = true := by decide
  cases zp : pP cc (nI a) (nI b) with
  | false =>
    have e1 : v143 q cc gc X a b = (false, X) := by
      unfold v143 v139
      rw [zp, show (cond false (cond (pm_cmp .ne (Ar X 16 (a * 6 + b)) 0) (nI 0) (Int32.ofInt (-2))) (Int32.ofInt (-1))) = Int32.ofInt (-1) from rfl, n1_ge]
      rfl
    have e2 : v221 q cc gc M a b = (Int32.ofInt (-1), M) := by
      unfold v221
      rw [zp]
      rfl
    rw [e1, e2]
    dsimp only
    rw [lt1]
    exact ⟨rfl, z⟩
  | true =>
    have hab : a < cc ∧ b < cc := by
      unfold pP at zp
      rw [Bool.and_eq_true, Bool.and_eq_true] at zp
      exact ⟨cB_lt ha zp.1, cB_lt hb zp.2.1⟩
    have e16 : Ar X 16 (a * 6 + b) = Ar M 170 (42 + 6 * a + b) := z5.2.2.1 a b (by omega) (by omega)
    obtain ⟨n1, n2⟩ := fgv_rel c1.cb c1.gb z5 z6 hab.1 hab.2
    have cX : HC q cc gc (aset X 16 36 (upd (Ar X 16) (a * 6 + b) (nI 0))) := hc_a rfl rfl c1
    have cM : HC q cc gc (aset M 170 96 (upd (Ar M 170) (42 + 6 * a + b) (nI 0))) := hc_a rfl rfl c2
    have e2 : v221 q cc gc M a b = (cond (pm_cmp .ne (Ar M 170 (42 + 6 * a + b)) 0) (Ar M 170 (42 + 6 * a + b)) (Int32.ofInt (-2)), aset M 170 96 (upd (Ar M 170) (42 + 6 * a + b) (nI 0))) := by
      unfold v221
      rw [zp]
      rfl
    cases zm : pm_cmp .ne (Ar X 16 (a * 6 + b)) 0 with
    | false =>
      have z0 : Ar X 16 (a * 6 + b) = nI 0 := by
        have z : ¬ (Ar X 16 (a * 6 + b) ≠ 0) := of_decide_eq_false zm
        exact Decidable.not_not.mp z
      have e1 : v143 q cc gc X a b = (false, X) := by
        unfold v143 v139
        rw [zp, zm, show (cond true (cond false (nI 0) (Int32.ofInt (-2))) (Int32.ofInt (-1))) = Int32.ofInt (-2) from rfl, n2_ge]
        rfl
      rw [e1, e2, ← e16, zm]
      dsimp only [cond]
      rw [n2_lt]
      refine ⟨rfl, VE_mk z c1 cM fr_0 (fr_a rfl rfl fr_0) ?_ ?_⟩
      · rw [Ar_s, up_id (e16.symm.trans z0)]
        exact z5
      · rw [Ar_s, up_id (e16.symm.trans z0)]
        exact z6
    | true =>
      have e1 : v143 q cc gc X a b = (true, aset X 16 36 (upd (Ar X 16) (a * 6 + b) (nI 0))) := by
        unfold v143 v139
        rw [zp, zm, show (cond true (cond true (nI 0) (Int32.ofInt (-2))) (Int32.ofInt (-1))) = nI 0 from rfl, z0_ge]
        rfl
      have i16 := (z6.2.2.1 a b (by omega) (by omega)).1.1
      rw [e1, e2, ← e16, zm]
      dsimp only [cond]
      rw [lt_tt (by rw [e16]; exact i16)]
      refine ⟨rfl, VE_mk z cX cM (fr_a rfl rfl fr_0) (fr_a rfl rfl fr_0) ?_ ?_⟩
      · rw [Ar_s, Ar_s, Ar_n (by decide), Ar_n (by decide), Ar_n (by decide), Ar_n (by decide), Fi_a (by decide), Fi_a (by decide)]
        exact n1
      · rw [Ar_s]
        exact n2
/-- envoy -/
theorem ys_env (z : VE q cc gc X M) (ha : a < 10) (hb : b < 10) (m : Int32) : (v144 q cc gc X a b m).1 = (cond (pm_cmp .lt (v220 q cc gc M a b m).1 0) false true) ∧ VE q cc gc (v144 q cc gc X a b m).2 (v220 q cc gc M a b m).2 := by
  obtain ⟨⟨c1, c2⟩, z3, z4, z5, z6⟩ := id z
  have h6 := c1.cb
  have lt1 : pm_cmp .lt (Int32.ofInt (-1)) 0 = true := by decide
  have bad : v137 q cc gc a b m = true → v220 q cc gc M a b m = (Int32.ofInt (-1), M) → (v144 q cc gc X a b m).1 = (cond (pm_cmp .lt (v220 q cc gc M a b m).1 0) false true) ∧ VE q cc gc (v144 q cc gc X a b m).2 (v220 q cc gc M a b m).2 := by
    intro e1 e2
    have e3 : v144 q cc gc X a b m = (false, X) := by
      unfold v144
      rw [e1]
      rfl
    rw [e2, e3]
    dsimp only
    rw [lt1]
    exact ⟨rfl, z⟩
  cases zp : pP cc (nI a) (nI b) with
  | false =>
    refine bad ?_ ?_
    · unfold v137
      rw [zp]
      rfl
    · unfold v220
      rw [zp]
      rfl
  | true =>
    have ei := env_in (q := q) (gc := gc) (m := m) zp
    cases zi : in_b m.toInt64 (-9 : Int64) (9 : Int64) && pm_cmp .ne m 0 with
    | false =>
      rw [zi] at ei
      refine bad ei ?_
      unfold v220
      rw [zp]
      cases y1 : in_b m.toInt64 (-9 : Int64) (9 : Int64) with
      | false => rfl
      | true =>
        rw [y1, Bool.true_and] at zi
        rw [zi]
        rfl
    | true =>
      rw [zi] at ei
      rw [Bool.and_eq_true] at zi
      have hab : a < cc ∧ b < cc ∧ a ≠ b := by
        unfold pP at zp
        rw [Bool.and_eq_true, Bool.and_eq_true] at zp
        refine ⟨cB_lt ha zp.1, cB_lt hb zp.2.1, fun e => ?_⟩
        have y := zp.2.2
        rw [e, decide_eq_true rfl] at y
        cases y
      obtain ⟨n1, n2⟩ := env_rel (y := m) c1.cb c1.gb z5 z6 hab.1 hab.2.1 hab.2.2
      have e3 : v144 q cc gc X a b m = (true, v138 q cc gc X a b m) := by
        unfold v144
        rw [ei]
        rfl
      have e4 : v138 q cc gc X a b m = aset X 15 36 (upd (Ar X 15) (a * 6 + b) (imax (nI 0) (imin (nI 20) (Ar X 15 (a * 6 + b) + m)))) := rfl
      have e5 : v220 q cc gc M a b m = (imax (nI 0) (imin (nI 20) (Ar M 170 (6 + 6 * a + b) + m)), aset M 170 96 (upd (Ar M 170) (6 + 6 * a + b) (imax (nI 0) (imin (nI 20) (Ar M 170 (6 + 6 * a + b) + m))))) := by
        unfold v220
        rw [zp, zi.1, zi.2]
        show (upd (Ar M 170) (6 + 6 * a + b) (imax (nI 0) (imin (nI 20) (Ar M 170 (6 + 6 * a + b) + m))) (6 + 6 * a + b), _) = _
        rw [up_e rfl]
      rw [e3, e4, e5]
      dsimp only
      rw [lt_tt (clamp_i (by decide)).1]
      have cX : HC q cc gc (aset X 15 36 (upd (Ar X 15) (a * 6 + b) (imax (nI 0) (imin (nI 20) (Ar X 15 (a * 6 + b) + m))))) := hc_a rfl rfl c1
      have cM : HC q cc gc (aset M 170 96 (upd (Ar M 170) (6 + 6 * a + b) (imax (nI 0) (imin (nI 20) (Ar M 170 (6 + 6 * a + b) + m))))) := hc_a rfl rfl c2
      refine ⟨rfl, VE_mk z cX cM (fr_a rfl rfl fr_0) (fr_a rfl rfl fr_0) ?_ ?_⟩
      · rw [Ar_s, Ar_s, Ar_n (by decide), Ar_n (by decide), Ar_n (by decide), Ar_n (by decide), Fi_a (by decide), Fi_a (by decide)]
        exact n1
      · rw [Ar_s]
        exact n2
/-- one act of both -/
theorem y_step (z : VE q cc gc X M) (ha : a < 10) (hb : b < 10) (hk : kd ≤ 4) (e1 : 3 ≤ kd → Ar M 182 k = d) : (yX q cc gc X kd a b d).1 = (yM q cc gc M k kd a b).1 ∧ VE q cc gc (yX q cc gc X kd a b d).2 (yM q cc gc M k kd a b).2 := by
  rcases (by omega : kd = 0 ∨ kd = 1 ∨ kd = 2 ∨ kd = 3 ∨ kd = 4) with rfl | rfl | rfl | rfl | rfl
  · exact ys_send z a b
  · exact ⟨rfl, ys_mon z a⟩
  · exact ys_fgv z ha hb
  · have e := e1 (by decide)
    have y := ys_env z ha hb d
    rw [← e] at y
    rw [← e]
    exact y
  · have e := e1 (by decide)
    have y := ys_env z ha hb (-d)
    rw [← e] at y
    rw [← e]
    exact y
theorem yM_fr (hc : HC q cc gc h) (h1 : Ar h 179 k = nI kd) (h2 : Ar h 180 k = nI a) (h3 : kd ≠ 1 → Ar h 181 k = nI b) (hk : kd < 10) (ha : a < 10) (hb : b < 10) : HC q cc gc (yM q cc gc h k kd a b).2 ∧ frm yWM yVM h (yM q cc gc h k kd a b).2 := by
  unfold yM
  by_cases e : kd = 1
  · rw [if_pos e]
    subst e
    obtain ⟨x, y⟩ := v227m_fr (k := k) (a := a) hc h1 h2 ha
    exact ⟨x, fr_g rfl rfl y fr_0⟩
  · rw [if_neg e]
    exact v227_fr (k := k) (kd := kd) (a := a) (b := b) hc h1 h2 (h3 e) hk ha hb
end YRS
end MG95zzzhx1
section MG95zzzhx2
/-! year: both sides do the acts told -/
section YRL
variable {n fr lo sl n0 cc gc a b k kd t p c : Nat} {q : QT} {h h1 h2 H X M : pm_H} {d : Int32} {R : pm_Rs} {f : Nat → Int32}
/-- where the acts stand -/
def yPos (f : Nat → Int32) (t : Nat) : Nat → Nat
  | 0 => 0
  | k + 1 => (yA f t (yPos f t k)).2
def yd (f : Nat → Int32) (p : Nat) : Nat := (f p - nI 48).toNatClampNeg
def yKd (f : Nat → Int32) (t j : Nat) : Nat := (yL f t (yPos f t j)).getD 0
def yXj (q : QT) (cc gc : Nat) (f : Nat → Int32) (t j : Nat) (h : pm_H) : Bool × pm_H := yX q cc gc h (yKd f t j) (yd f (yPos f t j + 1)) (yd f (yPos f t j + 2)) (f (yPos f t j + 3) - nI 48)
def yMj (q : QT) (cc gc : Nat) (f : Nat → Int32) (t j : Nat) (h : pm_H) : Bool × pm_H := yM q cc gc h j (yKd f t j) (yd f (yPos f t j + 1)) (yd f (yPos f t j + 2))
/-- acts, until one doesn't go through: how many did -/
def yG (g : Nat → pm_H → Bool × pm_H) : Nat → Nat → pm_H → Nat × pm_H
  | 0, j, h => (j, h)
  | k + 1, j, h => cond (g j h).1 (yG g k (j + 1) (g j h).2) (j, (g j h).2)
def yOk (f : Nat → Int32) (t c : Nat) : Prop := ∀ j, j < c → (∃ kd, yL f t (yPos f t j) = some kd) ∧ (yA f t (yPos f t j)).1 = true
theorem y_dig (z : dg f p t = true) : f p - nI 48 = nI (yd f p) ∧ yd f p < 10 := by
  have v := dg_val z
  have v : 0 ≤ (f p - nI 48).toInt ∧ (f p - nI 48).toInt ≤ 9 := v
  obtain ⟨m, e, hm, ei⟩ := hI_of (x := f p - nI 48) v.1
  unfold yd
  rw [e, nI_clamp hm]
  exact ⟨rfl, by omega⟩
theorem y_act (e : yL f t p = some kd) (ok : (yA f t p).1 = true) : kd ≤ 4 ∧ p < t ∧ (yA f t p).2 = p + yS kd ∧ dg f (p + 1) t = true ∧ (kd ≠ 1 → dg f (p + 2) t = true) ∧ (3 ≤ kd → dg f (p + 3) t = true) := by
  have hs := yS_ge kd
  unfold yA at ok ⊢
  rw [e] at ok ⊢
  have ok : yD f t p (yS kd - 1) 1 = yS kd := of_decide_eq_true ok
  have dd := yD_lt (f := f) (t := t) (i := p) (yS kd - 1) 1 (by omega)
  refine ⟨yL_le e, yL_lt e, ?_, yB_dg (dd 1 (Nat.le_refl _) (by omega)), fun k1 => yB_dg (dd 2 (by omega) (by have := yS_n1 k1; omega)), fun k3 => yB_dg (dd 3 (by omega) (by rw [yS_3 k3]; decide))⟩
  show p + yD f t p (yS kd - 1) 1 = p + yS kd
  rw [ok]
theorem yK_iv {x : Int32} (e : yK x = some kd) : (kd = 0 ∧ x = nI 115) ∨ (kd = 1 ∧ x = nI 109) ∨ (kd = 2 ∧ x = nI 102) ∨ (kd = 3 ∧ x = nI 112) ∨ (kd = 4 ∧ x = nI 113) := by
  unfold yK at e
  by_cases e1 : x = nI 115
  · rw [if_pos e1] at e
    cases e
    exact Or.inl ⟨rfl, e1⟩
  · rw [if_neg e1] at e
    by_cases e2 : x = nI 109
    · rw [if_pos e2] at e
      cases e
      exact Or.inr (Or.inl ⟨rfl, e2⟩)
    · rw [if_neg e2] at e
      by_cases e3 : x = nI 102
      · rw [if_pos e3] at e
        cases e
        exact Or.inr (Or.inr (Or.inl ⟨rfl, e3⟩))
      · rw [if_neg e3] at e
        by_cases e4 : x = nI 112
        · rw [if_pos e4] at e
          cases e
          exact Or.inr (Or.inr (Or.inr (Or.inl ⟨rfl, e4⟩)))
        · rw [if_neg e4] at e
          by_cases e5 : x = nI 113
          · rw [if_pos e5] at e
            cases e
            exact Or.inr (Or.inr (Or.inr (Or.inr ⟨rfl, e5⟩)))
          · rw [if_neg e5] at e
            cases e
theorem yPos_le : ∀ c, yOk f t c → yPos f t c ≤ t ∧ 2 * c ≤ yPos f t c
  | 0, _ => ⟨Nat.zero_le _, Nat.le_refl _⟩
  | c + 1, z => by
    have ih := yPos_le c (fun j hj => z j (by omega))
    obtain ⟨⟨kd, e⟩, ok⟩ := z c (by omega)
    have y := yA_le (f := f) ih.1
    have y3 := y.2.2 ok
    show (yA f t (yPos f t c)).2 ≤ t ∧ 2 * (c + 1) ≤ (yA f t (yPos f t c)).2
    omega
/-- what the class's readers look at, by the counts -/
theorem pX_hc (hc : HC q cc gc h) (e11 : Fi h 1 1 = nI n0) : pX h n0 cc (Ar h 2) := by
  have hw := hc.wt
  have i5 : ∃ rs, h 5 = .inr (3, rs) ∧ rs[0]? = some (.int (nI cc)) := by
    obtain ⟨rs, a, b⟩ := wt_i (c := 5) (g := 0) hw (by decide) rfl (by decide) rfl
    rw [hc.x0] at b
    exact ⟨rs, a, b⟩
  obtain ⟨fs, a1, a2⟩ := wt_r (c := 0) (g := 0) (p := 1) hw (by decide) rfl (by decide) rfl rfl
  obtain ⟨fs', a3, a4⟩ := wt_r (c := 0) (g := 2) (p := 5) hw (by decide) rfl (by decide) rfl rfl
  obtain ⟨gs, b1, b2⟩ := wt_r (c := 1) (g := 0) (p := 2) hw (by decide) rfl (by decide) rfl rfl
  obtain ⟨gs', b3, b4⟩ := wt_i (c := 1) (g := 1) hw (by decide) rfl (by decide) rfl
  rw [e11] at b4
  rw [a1] at a3
  cases a3
  rw [b1] at b3
  cases b3
  exact ⟨⟨fs, a1, a2, a4⟩, ⟨gs, b1, b2, b4⟩, wt_a hw (by decide) rfl (by decide), i5⟩
/-- doAct -/
theorem yx_run (hn : n0 ≤ 80) (hc : HC q cc gc H) (na : NA H 17 0 8 6) (e11 : Fi H 1 1 = nI n0) (ef : Ar H 2 = f) (hp : p < 60) (e : yL f (min n0 60) p = some kd) (ok : (yA f (min n0 60) p).1 = true) (hh : pm_run PT n fr lo 141 (0, pm_l0 [.ref 0, .int (nI p)] 5, [], H, 198, sl) = some R) : R = (some (.int (cond (yX q cc gc H kd (yd f (p + 1)) (yd f (p + 2)) (f (p + 3) - nI 48)).1 1 0)), (yX q cc gc H kd (yd f (p + 1)) (yd f (p + 2)) (f (p + 3) - nI 48)).2, 198, sl) := by
  obtain ⟨k4, hlt, -, d1, d2, d3⟩ := y_act e ok
  have px := pX_hc hc e11
  have s0 : sgA f n0 p 60 = f p := by
    unfold sgA
    rw [decide_eq_true hlt]
    rfl
  have g1 : dgA f n0 (p + 1) 60 = nI (yd f (p + 1)) := ((dgA_B (f := f) (n0 := n0) (p := p) (j := 1)).1 d1).1.trans (y_dig d1).1
  have l1 := (y_dig d1).2
  have eK : yK (f p) = some kd := by
    unfold yL at e
    rw [if_pos hlt] at e
    exact e
  subst ef
  rcases yK_iv eK with ⟨rfl, es⟩ | ⟨rfl, es⟩ | ⟨rfl, es⟩ | ⟨rfl, es⟩ | ⟨rfl, es⟩
  · have dd2 := d2 (by decide)
    have g2 : dgA (Ar H 2) n0 (p + 2) 60 = nI (yd (Ar H 2) (p + 2)) := ((dgA_B (f := Ar H 2) (n0 := n0) (p := p) (j := 2)).1 dd2).1.trans (y_dig dd2).1
    exact (v141s_ok hc (by omega) hn px (s0.trans es) g1 l1 g2 (y_dig dd2).2 na hh).1
  · exact (v141m_ok hc (by omega) hn px (s0.trans es) g1 l1 na hh).1
  · have dd2 := d2 (by decide)
    have g2 : dgA (Ar H 2) n0 (p + 2) 60 = nI (yd (Ar H 2) (p + 2)) := ((dgA_B (f := Ar H 2) (n0 := n0) (p := p) (j := 2)).1 dd2).1.trans (y_dig dd2).1
    exact (v141f_ok hc (by omega) hn px (s0.trans es) g1 l1 g2 (y_dig dd2).2 na hh).1
  · have dd2 := d2 (by decide)
    have dd3 := d3 (by decide)
    have g2 : dgA (Ar H 2) n0 (p + 2) 60 = nI (yd (Ar H 2) (p + 2)) := ((dgA_B (f := Ar H 2) (n0 := n0) (p := p) (j := 2)).1 dd2).1.trans (y_dig dd2).1
    have g3 : dgA (Ar H 2) n0 (p + 3) 60 = Ar H 2 (p + 3) - nI 48 := ((dgA_B (f := Ar H 2) (n0 := n0) (p := p) (j := 3)).1 dd3).1
    have z := (v141p_ok hc (by omega) hn px (s0.trans es) g1 l1 g2 (y_dig dd2).2 na hh).1
    unfold v141p at z
    rw [g3] at z
    exact z
  · have dd2 := d2 (by decide)
    have dd3 := d3 (by decide)
    have g2 : dgA (Ar H 2) n0 (p + 2) 60 = nI (yd (Ar H 2) (p + 2)) := ((dgA_B (f := Ar H 2) (n0 := n0) (p := p) (j := 2)).1 dd2).1.trans (y_dig dd2).1
    have g3 : dgA (Ar H 2) n0 (p + 3) 60 = Ar H 2 (p + 3) - nI 48 := ((dgA_B (f := Ar H 2) (n0 := n0) (p := p) (j := 3)).1 dd3).1
    have z := (v141q_ok hc (by omega) hn px (s0.trans es) g1 l1 g2 (y_dig dd2).2 na hh).1
    unfold v141q at z
    rw [g3] at z
    exact z
/-- the HOLDERS stay small numbers -/
theorem yX_na (hc : HC q cc gc X) (na : NA X 17 0 8 6) : NA (yX q cc gc X kd a b d).2 17 0 8 6 := by
  have h6 := hc.cb
  unfold yX
  split
  · by_cases hb : b < cc
    · unfold v142
      cases pm_cmp .ge (v136 q cc gc (Ar X 17) a b) 0 with
      | false => exact na
      | true =>
        obtain ⟨c39, f39⟩ := v39_fr (g := a) (c := b) hc
        show NA (v40 q cc gc (v39 q cc gc X a b).2 a b (v39 q cc gc X a b).1) 17 0 8 6
        have e := (v40_ar (q := q) (cc := cc) (gc := gc) (h := (v39 q cc gc X a b).2) (g := a) (c := b) (V := (v39 q cc gc X a b).1)).2.2.1
        have z : NAf (upd (Ar X 17) a (nI b)) 0 8 6 := NAf_up (Or.inl ⟨b, by omega, rfl⟩) (by decide) na
        have e2 : Ar (v40 q cc gc (v39 q cc gc X a b).2 a b (v39 q cc gc X a b).1) 17 = upd (Ar X 17) a (nI b) := by
          rw [e, Ar_e (f39.1 17 rfl)]
        intro j h1 h2
        rw [e2]
        exact z j h1 h2
    · have ev : v136 q cc gc (Ar X 17) a b = Int32.ofInt (-1) := by
        unfold v136
        rw [decide_eq_false hb]
        cases decide (a < gc) <;> rfl
      unfold v142
      rw [ev, n1_ge]
      exact na
  · split
    · exact NA_e (Ar_e ((v140_fr (m := a) hc).2.1 17 rfl)) na
    · split
      · exact NA_e (Ar_e ((v143_fr (a := a) (b := b) hc).2.1 17 rfl)) na
      · split
        · exact NA_e (Ar_e ((v144_fr (a := a) (b := b) (m := d) hc).2.1 17 rfl)) na
        · exact NA_e (Ar_e ((v144_fr (a := a) (b := b) (m := -d) hc).2.1 17 rfl)) na
/-- the class's acts -/
theorem yl_loop {v1 : Int32} (hn : n0 ≤ 80) (ok : yOk f (min n0 60) c) (hend : yPos f (min n0 60) c = n0) : ∀ (k j n : Nat) (H : pm_H), j + k = c → HC q cc gc H → NA H 17 0 8 6 → Fi H 1 1 = nI n0 → Ar H 2 = f → pm_run PT n fr lo 100 (42, [some (.ref 0), some (.int v1), some (.int (nI j)), some (.int 0), some (.int (nI (yPos f (min n0 60) j))), some (.int (nI j))], [], H, 198, sl) = some R → ∃ m s p i, pm_run PT m fr lo 100 (107, [some (.ref 0), some (.int v1), some (.int (nI (yG (yXj q cc gc f (min n0 60)) k j H).1)), some (.int s), some (.int p), some (.int i)], [], (yG (yXj q cc gc f (min n0 60)) k j H).2, 198, sl) = some R
  | 0, j, n, H, e, hc, na, e11, ef, hh => by
    have hj : j = c := e
    subst hj
    have hle := yPos_le j ok
    obtain ⟨n, hh⟩ := rn_i rfl rfl rfl rfl hh
    obtain ⟨n, hh⟩ := rn_i rfl rfl rfl rfl hh
    obtain ⟨n, hh⟩ := rn_icmp (cc := .ge) (off := 61) (t := 107) rfl rfl hh
    rw [show pm_cmp .ge (nI j) (Int8.ofInt 60).toInt32 = decide (60 ≤ j) from hI_ge (b := 60) (by omega) (by omega), decide_eq_false (by omega)] at hh
    have hh : pm_run PT n fr lo 100 (49, [some (.ref 0), some (.int v1), some (.int (nI j)), some (.int 0), some (.int (nI (yPos f (min n0 60) j))), some (.int (nI j))], [], H, 198, sl) = some R := hh
    obtain ⟨n, hh⟩ := rn_i rfl rfl rfl rfl hh
    obtain ⟨n, hh⟩ := rn_i rfl rfl rfl rfl hh
    have hh : pm_run PT n fr lo 100 (52, [some (.ref 0), some (.int v1), some (.int (nI j)), some (.int 0), some (.int (nI (yPos f (min n0 60) j))), some (.int (nI j))], [.ref 0, .int (nI (yPos f (min n0 60) j))], H, 198, sl) = some R := hh
    obtain ⟨n, hh⟩ := rn_gr hc.wt rfl rfl (by decide) rfl (by decide) (show _ = some (2, ((1 : Nat) : Int), 1) from rfl) rfl hh
    obtain ⟨n, hh⟩ := rn_gi (x := nI n0) hc.wt rfl rfl (by decide) rfl (by decide) rfl e11 hh
    obtain ⟨n, hh⟩ := rn_icmp (cc := .ge) (off := 49) (t := 107) rfl rfl hh
    rw [hI_ge (by omega) (by omega), decide_eq_true (by omega)] at hh
    exact ⟨n, _, _, _, hh⟩
  | k + 1, j, n, H, e, hc, na, e11, ef, hh => by
    have hle := yPos_le j (fun i hi => ok i (by omega))
    obtain ⟨⟨kd, eL⟩, oj⟩ := ok j (by omega)
    obtain ⟨k4, hlt, eA, -⟩ := y_act eL oj
    have hk : yKd f (min n0 60) j = kd := by
      unfold yKd
      rw [eL]
      rfl
    obtain ⟨n, hh⟩ := rn_i rfl rfl rfl rfl hh
    obtain ⟨n, hh⟩ := rn_i rfl rfl rfl rfl hh
    obtain ⟨n, hh⟩ := rn_icmp (cc := .ge) (off := 61) (t := 107) rfl rfl hh
    rw [show pm_cmp .ge (nI j) (Int8.ofInt 60).toInt32 = decide (60 ≤ j) from hI_ge (b := 60) (by omega) (by omega), decide_eq_false (by omega)] at hh
    have hh : pm_run PT n fr lo 100 (49, [some (.ref 0), some (.int v1), some (.int (nI j)), some (.int 0), some (.int (nI (yPos f (min n0 60) j))), some (.int (nI j))], [], H, 198, sl) = some R := hh
    obtain ⟨n, hh⟩ := rn_i rfl rfl rfl rfl hh
    obtain ⟨n, hh⟩ := rn_i rfl rfl rfl rfl hh
    have hh : pm_run PT n fr lo 100 (52, [some (.ref 0), some (.int v1), some (.int (nI j)), some (.int 0), some (.int (nI (yPos f (min n0 60) j))), some (.int (nI j))], [.ref 0, .int (nI (yPos f (min n0 60) j))], H, 198, sl) = some R := hh
    obtain ⟨n, hh⟩ := rn_gr hc.wt rfl rfl (by decide) rfl (by decide) (show _ = some (2, ((1 : Nat) : Int), 1) from rfl) rfl hh
    obtain ⟨n, hh⟩ := rn_gi (x := nI n0) hc.wt rfl rfl (by decide) rfl (by decide) rfl e11 hh
    obtain ⟨n, hh⟩ := rn_icmp (cc := .ge) (off := 49) (t := 107) rfl rfl hh
    rw [hI_ge (by omega) (by omega), decide_eq_false (by omega)] at hh
    have hh : pm_run PT n fr lo 100 (61, [some (.ref 0), some (.int v1), some (.int (nI j)), some (.int 0), some (.int (nI (yPos f (min n0 60) j))), some (.int (nI j))], [], H, 198, sl) = some R := hh
    obtain ⟨n, hh⟩ := rn_i rfl rfl rfl rfl hh
    obtain ⟨n, hh⟩ := rn_if (cc := .ne) (off := 45) (t := 107) rfl rfl hh
    rw [show pm_cmp .ne (0 : Int32) 0 = false by decide] at hh
    have hh : pm_run PT n fr lo 100 (65, [some (.ref 0), some (.int v1), some (.int (nI j)), some (.int 0), some (.int (nI (yPos f (min n0 60) j))), some (.int (nI j))], [], H, 198, sl) = some R := hh
    obtain ⟨n, hh⟩ := rn_i rfl rfl rfl rfl hh
    obtain ⟨n, hh⟩ := rn_i rfl rfl rfl rfl hh
    have hh : pm_run PT n fr lo 100 (68, [some (.ref 0), some (.int v1), some (.int (nI j)), some (.int 0), some (.int (nI (yPos f (min n0 60) j))), some (.int (nI j))], [.int (nI (yPos f (min n0 60) j)), .ref 0], H, 198, sl) = some R := hh
    obtain ⟨n, fr', lo', r1, hr1, hh⟩ := rn_call (w := 0) (t := 141) rfl rfl hh
    have er := yx_run hn hc na e11 ef (by omega) eL oj hr1
    have eX : yXj q cc gc f (min n0 60) j H = yX q cc gc H kd (yd f (yPos f (min n0 60) j + 1)) (yd f (yPos f (min n0 60) j + 2)) (f (yPos f (min n0 60) j + 3) - nI 48) := by
      unfold yXj
      rw [hk]
    rw [← eX] at er
    subst er
    obtain ⟨c2, f2⟩ := yX_fr (kd := kd) (a := yd f (yPos f (min n0 60) j + 1)) (b := yd f (yPos f (min n0 60) j + 2)) (d := f (yPos f (min n0 60) j + 3) - nI 48) hc
    have na2 := yX_na (kd := kd) (a := yd f (yPos f (min n0 60) j + 1)) (b := yd f (yPos f (min n0 60) j + 2)) (d := f (yPos f (min n0 60) j + 3) - nI 48) hc na
    rw [← eX] at c2 f2 na2
    have eG : yG (yXj q cc gc f (min n0 60)) (k + 1) j H = cond (yXj q cc gc f (min n0 60) j H).1 (yG (yXj q cc gc f (min n0 60)) k (j + 1) (yXj q cc gc f (min n0 60) j H).2) (j, (yXj q cc gc f (min n0 60) j H).2) := rfl
    have e11b : Fi (yXj q cc gc f (min n0 60) j H).2 1 1 = nI n0 := (Fi_e (f2.1 1 rfl)).trans e11
    have efb : Ar (yXj q cc gc f (min n0 60) j H).2 2 = f := (Ar_e (f2.1 2 rfl)).trans ef
    rw [eG]
    have ePos : yPos f (min n0 60) (j + 1) = yPos f (min n0 60) j + yS kd := eA
    generalize yXj q cc gc f (min n0 60) j H = z at *
    obtain ⟨zb, zh⟩ := z
    dsimp only at hh c2 f2 na2 e11b efb ⊢
    have px := pX_hc c2 e11b
    have sgn : ∀ (n : Nat) (cnt flag : Int32), pm_run PT n fr lo 100 (82, [some (.ref 0), some (.int v1), some (.int cnt), some (.int flag), some (.int (nI (yPos f (min n0 60) j))), some (.int (nI j))], [], zh, 198, sl) = some R → ∃ m, pm_run PT m fr lo 100 (42, [some (.ref 0), some (.int v1), some (.int cnt), some (.int flag), some (.int (nI (yPos f (min n0 60) (j + 1)))), some (.int (nI (j + 1)))], [], zh, 198, sl) = some R := by
      intro n cnt flag hh
      obtain ⟨n, hh⟩ := rn_i rfl rfl rfl rfl hh
      obtain ⟨n, hh⟩ := rn_i rfl rfl rfl rfl hh
      have hh : pm_run PT n fr lo 100 (85, [some (.ref 0), some (.int v1), some (.int cnt), some (.int flag), some (.int (nI (yPos f (min n0 60) j))), some (.int (nI j))], [.ref 0, .int (nI (yPos f (min n0 60) j))], zh, 198, sl) = some R := hh
      obtain ⟨n, hh⟩ := rn_gr c2.wt rfl rfl (by decide) rfl (by decide) (show _ = some (2, ((1 : Nat) : Int), 1) from rfl) rfl hh
      obtain ⟨n, hh⟩ := rn_i rfl rfl rfl rfl hh
      obtain ⟨n, hh⟩ := rn_i rfl rfl rfl rfl hh
      have hh : pm_run PT n fr lo 100 (92, [some (.ref 0), some (.int v1), some (.int cnt), some (.int flag), some (.int (nI (yPos f (min n0 60) j))), some (.int (nI j))], [.int (nI 60), .int (nI (yPos f (min n0 60) j)), .ref 1, .int (nI (yPos f (min n0 60) j))], zh, 198, sl) = some R := hh
      obtain ⟨n, fr', lo', r1, hr1, hh⟩ := rn_call (w := 0) (t := 80) rfl rfl hh
      have er := sgA_run hn (by decide) (by omega) px hr1
      rw [efb] at er
      subst er
      have hh : pm_run PT n fr lo 100 (95, [some (.ref 0), some (.int v1), some (.int cnt), some (.int flag), some (.int (nI (yPos f (min n0 60) j))), some (.int (nI j))], [.int (sgA f n0 (yPos f (min n0 60) j) 60), .int (nI (yPos f (min n0 60) j))], zh, 198, sl) = some R := hh
      obtain ⟨n, fr', lo', r1, hr1, hh⟩ := rn_call (w := 2) (t := 135) rfl rfl hh
      have er := v135_ok c2 hr1
      rw [sgA_K, eL] at er
      subst er
      have hh : pm_run PT n fr lo 100 (98, [some (.ref 0), some (.int v1), some (.int cnt), some (.int flag), some (.int (nI (yPos f (min n0 60) j))), some (.int (nI j))], [.int (nI (yS kd)), .int (nI (yPos f (min n0 60) j))], zh, 198, sl) = some R := hh
      obtain ⟨n, hh⟩ := en_add rfl hh
      obtain ⟨n, hh⟩ := rn_i rfl rfl rfl rfl hh
      have hh : pm_run PT n fr lo 100 (101, [some (.ref 0), some (.int v1), some (.int cnt), some (.int flag), some (.int (nI (yPos f (min n0 60) j + yS kd))), some (.int (nI j))], [], zh, 198, sl) = some R := hh
      obtain ⟨n, hh⟩ := en_inc (x := j) (c := 1) (j := 5) rfl rfl (by decide) hh
      obtain ⟨n, hh⟩ := rn_i rfl rfl rfl rfl hh
      have hh : pm_run PT n fr lo 100 (42, [some (.ref 0), some (.int v1), some (.int cnt), some (.int flag), some (.int (nI (yPos f (min n0 60) j + yS kd))), some (.int (nI (j + 1)))], [], zh, 198, sl) = some R := hh
      rw [ePos]
      exact ⟨n, hh⟩
    have hh : pm_run PT n fr lo 100 (71, [some (.ref 0), some (.int v1), some (.int (nI j)), some (.int 0), some (.int (nI (yPos f (min n0 60) j))), some (.int (nI j))], [.int (cond zb 1 0)], zh, 198, sl) = some R := hh
    obtain ⟨n, hh⟩ := rn_if (cc := .eq) (off := 9) (t := 80) rfl rfl hh
    cases zb with
    | true =>
      rw [show pm_cmp .eq (cond true 1 0 : Int32) 0 = false by decide] at hh
      have hh : pm_run PT n fr lo 100 (74, [some (.ref 0), some (.int v1), some (.int (nI j)), some (.int 0), some (.int (nI (yPos f (min n0 60) j))), some (.int (nI j))], [], zh, 198, sl) = some R := hh
      obtain ⟨n, hh⟩ := en_inc (x := j) (c := 1) (j := 2) rfl rfl (by decide) hh
      obtain ⟨n, hh⟩ := rn_i rfl rfl rfl rfl hh
      have hh : pm_run PT n fr lo 100 (82, [some (.ref 0), some (.int v1), some (.int (nI (j + 1))), some (.int 0), some (.int (nI (yPos f (min n0 60) j))), some (.int (nI j))], [], zh, 198, sl) = some R := hh
      obtain ⟨n, hh⟩ := sgn n _ _ hh
      exact yl_loop hn ok hend k (j + 1) n zh (by omega) c2 na2 e11b efb hh
    | false =>
      rw [show pm_cmp .eq (cond false 1 0 : Int32) 0 = true by decide] at hh
      have hh : pm_run PT n fr lo 100 (80, [some (.ref 0), some (.int v1), some (.int (nI j)), some (.int 0), some (.int (nI (yPos f (min n0 60) j))), some (.int (nI j))], [], zh, 198, sl) = some R := hh
      obtain ⟨n, hh⟩ := rn_i rfl rfl rfl rfl hh
      obtain ⟨n, hh⟩ := rn_i rfl rfl rfl rfl hh
      have hh : pm_run PT n fr lo 100 (82, [some (.ref 0), some (.int v1), some (.int (nI j)), some (.int 1), some (.int (nI (yPos f (min n0 60) j))), some (.int (nI j))], [], zh, 198, sl) = some R := hh
      obtain ⟨n, hh⟩ := sgn n _ _ hh
      obtain ⟨n, hh⟩ := rn_i rfl rfl rfl rfl hh
      obtain ⟨n, hh⟩ := rn_i rfl rfl rfl rfl hh
      obtain ⟨n, hh⟩ := rn_icmp (cc := .ge) (off := 61) (t := 107) rfl rfl hh
      rw [show pm_cmp .ge (nI (j + 1)) (Int8.ofInt 60).toInt32 = decide (60 ≤ j + 1) from hI_ge (b := 60) (by omega) (by omega), decide_eq_false (by omega)] at hh
      have hh : pm_run PT n fr lo 100 (49, [some (.ref 0), some (.int v1), some (.int (nI j)), some (.int 1), some (.int (nI (yPos f (min n0 60) (j + 1)))), some (.int (nI (j + 1)))], [], zh, 198, sl) = some R := hh
      obtain ⟨n, hh⟩ := rn_i rfl rfl rfl rfl hh
      obtain ⟨n, hh⟩ := rn_i rfl rfl rfl rfl hh
      have hh : pm_run PT n fr lo 100 (52, [some (.ref 0), some (.int v1), some (.int (nI j)), some (.int 1), some (.int (nI (yPos f (min n0 60) (j + 1)))), some (.int (nI (j + 1)))], [.ref 0, .int (nI (yPos f (min n0 60) (j + 1)))], zh, 198, sl) = some R := hh
      obtain ⟨n, hh⟩ := rn_gr c2.wt rfl rfl (by decide) rfl (by decide) (show _ = some (2, ((1 : Nat) : Int), 1) from rfl) rfl hh
      obtain ⟨n, hh⟩ := rn_gi (x := nI n0) c2.wt rfl rfl (by decide) rfl (by decide) rfl e11b hh
      obtain ⟨n, hh⟩ := rn_icmp (cc := .ge) (off := 49) (t := 107) rfl rfl hh
      cases ec : pm_cmp .ge (nI (yPos f (min n0 60) (j + 1))) (nI n0) with
      | true =>
        rw [ec] at hh
        exact ⟨n, _, _, _, hh⟩
      | false =>
        rw [ec] at hh
        have hh : pm_run PT n fr lo 100 (61, [some (.ref 0), some (.int v1), some (.int (nI j)), some (.int 1), some (.int (nI (yPos f (min n0 60) (j + 1)))), some (.int (nI (j + 1)))], [], zh, 198, sl) = some R := hh
        obtain ⟨n, hh⟩ := rn_i rfl rfl rfl rfl hh
        obtain ⟨n, hh⟩ := rn_if (cc := .ne) (off := 45) (t := 107) rfl rfl hh
        rw [show pm_cmp .ne (1 : Int32) 0 = true by decide] at hh
        exact ⟨n, _, _, _, hh⟩
end YRL
end MG95zzzhx2
end MH95zzyvx5
section MH95zzyvx6
section MG95zzzkx0
/-! year: the reference reads all acts and does them -/
section YRM
variable {n fr lo sl n0 cc gc k t c u fi si : Nat} {q : QT} {h h1 h2 H X M : pm_H} {v1 v2 v3 v w : Int32} {R : pm_Rs} {f : Nat → Int32}
/-- the acts that have been read -/
def yTold (H : pm_H) (f : Nat → Int32) (t c : Nat) : Prop := ∀ j, j < c → Ar H 179 j = nI (yKd f t j) ∧ Ar H 180 j = nI (yd f (yPos f t j + 1)) ∧ (yKd f t j ≠ 1 → Ar H 181 j = nI (yd f (yPos f t j + 2))) ∧ (3 ≤ yKd f t j → Ar H 182 j = f (yPos f t j + 3) - nI 48)
theorem yTold_e (e : ∀ a, a = 179 ∨ a = 180 ∨ a = 181 ∨ a = 182 → h1 a = h a) (z : yTold h f t c) : yTold h1 f t c := by
  intro j hj
  rw [Ar_e (e 179 (Or.inl rfl)), Ar_e (e 180 (Or.inr (Or.inl rfl))), Ar_e (e 181 (Or.inr (Or.inr (Or.inl rfl)))), Ar_e (e 182 (Or.inr (Or.inr (Or.inr rfl))))]
  exact z j hj
/-- the reading of all acts -/
theorem rd_loop {x3 x4 : Option Value} (ht : t ≤ 60) (ef : Ar h 172 = f) (e17 : Fi h 162 17 = nI t) : ∀ (k c n : Nat) (H : pm_H), t + 1 ≤ yPos f t c + k → yQ h H t (yPos f t c) c → yOk f t c → yTold H f t c → pm_run PT n fr lo 228 (19, [some (.ref 162), some (.int v1), some (.int 1), x3, x4], [], H, 198, sl) = some R → ∃ (m : Nat) (H' : pm_H) (c' : Nat), yQ h H' t (yR f t k (yPos f t c)).2 c' ∧ pm_run PT m fr lo 228 (42, [some (.ref 162), some (.int v1), some (.int (cond (yR f t k (yPos f t c)).1 1 0)), x3, x4], [], H', 198, sl) = some R ∧ ((yR f t k (yPos f t c)).1 = true → yOk f t c' ∧ yPos f t c' = (yR f t k (yPos f t c)).2 ∧ yTold H' f t c')
  | 0, c, n, H, e, z, ok, td, hh => by
    have := (yPos_le c ok).1
    omega
  | k + 1, c, n, H, e, z, ok, td, hh => by
    have hle := yPos_le c ok
    have e16 := z.2.1
    have e17H : Fi H 162 17 = nI t := (yQ_17 z).trans e17
    have e172 : Ar H 172 = f := (yQ_172 z).trans ef
    obtain ⟨n, hh⟩ := rn_i rfl rfl rfl rfl hh
    have hh : pm_run PT n fr lo 228 (20, [some (.ref 162), some (.int v1), some (.int 1), x3, x4], [.int 1], H, 198, sl) = some R := hh
    obtain ⟨n, hh⟩ := rn_if (cc := .eq) (off := 22) (t := 42) rfl rfl hh
    rw [show pm_cmp .eq (1 : Int32) 0 = false by decide] at hh
    have hh : pm_run PT n fr lo 228 (23, [some (.ref 162), some (.int v1), some (.int 1), x3, x4], [], H, 198, sl) = some R := hh
    obtain ⟨n, hh⟩ := rn_i rfl rfl rfl rfl hh
    have hh : pm_run PT n fr lo 228 (24, [some (.ref 162), some (.int v1), some (.int 1), x3, x4], [.ref 162], H, 198, sl) = some R := hh
    obtain ⟨n, hh⟩ := rn_gi (x := nI (yPos f t c)) z.1.1 rfl rfl (by decide) rfl (by decide) rfl e16 hh
    obtain ⟨n, hh⟩ := rn_i rfl rfl rfl rfl hh
    have hh : pm_run PT n fr lo 228 (28, [some (.ref 162), some (.int v1), some (.int 1), x3, x4], [.ref 162, .int (nI (yPos f t c))], H, 198, sl) = some R := hh
    obtain ⟨n, hh⟩ := rn_gi (x := nI t) z.1.1 rfl rfl (by decide) rfl (by decide) rfl e17H hh
    have hh : pm_run PT n fr lo 228 (31, [some (.ref 162), some (.int v1), some (.int 1), x3, x4], [.int (nI t), .int (nI (yPos f t c))], H, 198, sl) = some R := hh
    obtain ⟨n, hh⟩ := rn_icmp (cc := .ge) (off := 11) (t := 42) rfl rfl hh
    rw [hI_ge (by omega) (by omega)] at hh
    by_cases hlt : yPos f t c < t
    · rw [decide_eq_false (by omega)] at hh
      have hh : pm_run PT n fr lo 228 (34, [some (.ref 162), some (.int v1), some (.int 1), x3, x4], [], H, 198, sl) = some R := hh
      obtain ⟨n, hh⟩ := rn_i rfl rfl rfl rfl hh
      have hh : pm_run PT n fr lo 228 (35, [some (.ref 162), some (.int v1), some (.int 1), x3, x4], [.ref 162], H, 198, sl) = some R := hh
      obtain ⟨n, fr', lo', r1, hr1, hh⟩ := rn_call (w := 0) (t := 226) rfl rfl hh
      obtain ⟨H1, z1, er, oth, told⟩ := ra_run z.1.1 e16 e17H z.2.2 (by omega) (by omega) (by omega) hr1
      rw [e172] at z1 er told
      subst er
      have z2 : yQ h H1 t (yA f t (yPos f t c)).2 (c + 1) := ⟨⟨z1.1.1, fr_g rfl rfl z1.1.2 z.1.2⟩, z1.2⟩
      have eR : yR f t (k + 1) (yPos f t c) = cond (yA f t (yPos f t c)).1 (yR f t k (yA f t (yPos f t c)).2) (yA f t (yPos f t c)) := if_pos hlt
      have hh : pm_run PT n fr lo 228 (38, [some (.ref 162), some (.int v1), some (.int 1), x3, x4], [.int (cond (yA f t (yPos f t c)).1 1 0)], H1, 198, sl) = some R := hh
      obtain ⟨n, hh⟩ := rn_i rfl rfl rfl rfl hh
      obtain ⟨n, hh⟩ := rn_i rfl rfl rfl rfl hh
      have hh : pm_run PT n fr lo 228 (19, [some (.ref 162), some (.int v1), some (.int (cond (yA f t (yPos f t c)).1 1 0)), x3, x4], [], H1, 198, sl) = some R := hh
      have hA := yA_le (f := f) (t := t) hle.1
      cases eA : (yA f t (yPos f t c)).1 with
      | true =>
        rw [eA] at hh
        have hh : pm_run PT n fr lo 228 (19, [some (.ref 162), some (.int v1), some (.int 1), x3, x4], [], H1, 198, sl) = some R := hh
        rw [eA] at eR
        have eR : yR f t (k + 1) (yPos f t c) = yR f t k (yPos f t (c + 1)) := eR
        obtain ⟨kd, eL⟩ : ∃ kd, yL f t (yPos f t c) = some kd := by
          cases y : yL f t (yPos f t c) with
          | none =>
            unfold yA at eA
            rw [y] at eA
            cases eA
          | some kd => exact ⟨kd, rfl⟩
        have ok2 : yOk f t (c + 1) := by
          intro j hj
          by_cases y : j = c
          · rw [y]
            exact ⟨⟨kd, eL⟩, eA⟩
          · exact ok j (by omega)
        obtain ⟨-, -, -, d1, d2, -⟩ := y_act eL eA
        obtain ⟨t1, t2, t3, t4⟩ := told kd eL eA
        have hk : yKd f t c = kd := by
          unfold yKd
          rw [eL]
          rfl
        have td2 : yTold H1 f t (c + 1) := by
          intro j hj
          by_cases y : j = c
          · rw [y, hk]
            exact ⟨t1, t2.trans (y_dig d1).1, fun e => (t3 e).trans (y_dig (d2 e)).1, t4⟩
          · rw [oth 179 (Or.inl rfl) j y, oth 180 (Or.inr (Or.inl rfl)) j y, oth 181 (Or.inr (Or.inr (Or.inl rfl))) j y, oth 182 (Or.inr (Or.inr (Or.inr rfl))) j y]
            exact td j (by omega)
        have fuel := hA.2.2 eA
        have pos2 : yPos f t (c + 1) = (yA f t (yPos f t c)).2 := rfl
        rw [← pos2] at z2
        have r := rd_loop ht ef e17 k (c + 1) n H1 (by rw [pos2]; omega) z2 ok2 td2 hh
        rw [eR]
        exact r
      | false =>
        rw [eA] at hh eR
        have eR : yR f t (k + 1) (yPos f t c) = yA f t (yPos f t c) := eR
        have hh : pm_run PT n fr lo 228 (19, [some (.ref 162), some (.int v1), some (.int 0), x3, x4], [], H1, 198, sl) = some R := hh
        obtain ⟨n, hh⟩ := rn_i rfl rfl rfl rfl hh
        have hh : pm_run PT n fr lo 228 (20, [some (.ref 162), some (.int v1), some (.int 0), x3, x4], [.int 0], H1, 198, sl) = some R := hh
        obtain ⟨n, hh⟩ := rn_if (cc := .eq) (off := 22) (t := 42) rfl rfl hh
        rw [show pm_cmp .eq (0 : Int32) 0 = true by decide] at hh
        have hh : pm_run PT n fr lo 228 (42, [some (.ref 162), some (.int v1), some (.int 0), x3, x4], [], H1, 198, sl) = some R := hh
        rw [eR, eA]
        exact ⟨n, H1, c + 1, z2, hh, fun z => Bool.noConfusion z⟩
    · rw [decide_eq_true (by omega)] at hh
      have eR : yR f t (k + 1) (yPos f t c) = (true, yPos f t c) := if_neg hlt
      have hh : pm_run PT n fr lo 228 (42, [some (.ref 162), some (.int v1), some (.int 1), x3, x4], [], H, 198, sl) = some R := hh
      rw [eR]
      exact ⟨n, H, c, z, hh, fun _ => ⟨ok, rfl, td⟩⟩
theorem rd_run {x3 x4 : Option Value} (ht : t ≤ 60) (ef : Ar h 172 = f) (e17 : Fi h 162 17 = nI t) (w : WT h) (e16 : Fi h 162 16 = nI 0) (e35 : Fi h 162 35 = nI 0) (hh : pm_run PT n fr lo 228 (19, [some (.ref 162), some (.int v1), some (.int 1), x3, x4], [], h, 198, sl) = some R) : ∃ (m : Nat) (H' : pm_H) (c' : Nat), yQ h H' t (yR f t 61 0).2 c' ∧ pm_run PT m fr lo 228 (42, [some (.ref 162), some (.int v1), some (.int (cond (yR f t 61 0).1 1 0)), x3, x4], [], H', 198, sl) = some R ∧ ((yR f t 61 0).1 = true → yOk f t c' ∧ yPos f t c' = (yR f t 61 0).2 ∧ yTold H' f t c') := by
  have e0 : yPos f t 0 = 0 := rfl
  have go := fun k => rd_loop (v1 := v1) (R := R) (fr := fr) (lo := lo) (sl := sl) (x3 := x3) (x4 := x4) ht ef e17 k 0 n h
  rw [e0] at go
  exact go 61 (by omega) ⟨⟨w, fr_0⟩, e16, e35⟩ (fun j hj => absurd hj (Nat.not_lt_zero j)) (fun j hj => absurd hj (Nat.not_lt_zero j)) hh
theorem yR_le : ∀ (k p : Nat), p ≤ t → (yR f t k p).2 ≤ t
  | 0, p, hp => hp
  | k + 1, p, hp => by
    have hA := yA_le (f := f) (t := t) hp
    by_cases hlt : p < t
    · have eR : yR f t (k + 1) p = cond (yA f t p).1 (yR f t k (yA f t p).2) (yA f t p) := if_pos hlt
      rw [eR]
      cases (yA f t p).1 with
      | true => exact yR_le k _ hA.2.1
      | false => exact hA.2.1
    · have eR : yR f t (k + 1) p = (true, p) := if_neg hlt
      rw [eR]
      exact hp
theorem m1q_ge : ∀ p, p < 61 → pm_cmp .ge (Int32.ofInt (-1) - nI p) 0 = false := by decide +kernel
def yHW : List Nat := [162, 179, 180, 181, 182]
def yHV : List (Nat × Nat) := [(162, 0), (162, 15), (162, 16), (162, 17), (162, 18), (162, 35)]
/-- what stands behind the reading -/
def yGood (n0 : Nat) (r : Bool × Nat) : Bool := r.1 && decide (r.2 = n0)
theorem yh_run (hw : WT h) (hn : n0 ≤ 80) (h15 : Fi h 162 15 = nI n0) (hh : pm_run PT n fr lo 228 (0, pm_l0 [.ref 162] 5, [], h, 198, sl) = some R) : ∃ (H : pm_H) (c : Nat), (WT H ∧ frm yHW yHV h H) ∧ Fi H 162 35 = nI c ∧ ((yGood n0 (yR (Ar h 172) (min n0 60) 61 0) = false ∧ R = (some (.int (Int32.ofInt (-1) - nI (yR (Ar h 172) (min n0 60) 61 0).2)), H, 198, sl)) ∨ (yGood n0 (yR (Ar h 172) (min n0 60) 61 0) = true ∧ (yOk (Ar h 172) (min n0 60) c ∧ yPos (Ar h 172) (min n0 60) c = n0 ∧ yTold H (Ar h 172) (min n0 60) c) ∧ ∃ (m : Nat) (v1 v2 v3 : Int32), pm_run PT m fr lo 228 (57, [some (.ref 162), some (.int v1), some (.int v2), some (.int v3), none], [], H, 198, sl) = some R)) := by
  obtain ⟨n, hh⟩ := rn_i rfl rfl rfl rfl hh
  obtain ⟨n, hh⟩ := rn_i rfl rfl rfl rfl hh
  have m0 : mF h 0 (.int (Fi h 162 0)) := wt_i hw (by decide) rfl (by decide) rfl
  obtain ⟨n, hh⟩ := rn_pfm rfl rfl rfl (by decide) m0 hh
  rw [mset_w (g := 0) hw rfl rfl] at hh
  have w0 : WT (fset h 162 0 (.int (Int32.ofInt 0))) := wt_fs rfl (by decide) rfl hw
  have f0 : ∀ g, g ≠ 0 → Fi (fset h 162 0 (.int (Int32.ofInt 0))) 162 g = Fi h 162 g := fun g hg => Fi_n (Or.inr hg)
  have fr0 : frm yHW yHV h (fset h 162 0 (.int (Int32.ofInt 0))) := fr_f rfl rfl fr_0
  obtain ⟨n, hh⟩ := rn_i rfl rfl rfl rfl hh
  obtain ⟨n, hh⟩ := rn_i rfl rfl rfl rfl hh
  have hh : pm_run PT n fr lo 228 (8, [some (.ref 162), none, none, none, none], [.int (nI 60), .ref 162], fset h 162 0 (.int (Int32.ofInt 0)), 198, sl) = some R := hh
  generalize fset h 162 0 (.int (Int32.ofInt 0)) = ha at *
  have hh : pm_run PT n fr lo 228 (8, [some (.ref 162), none, none, none, none], [.int (nI 60), .ref 162], ha, 198, sl) = some R := hh
  obtain ⟨n, fr', lo', r1, hr1, hh⟩ := rn_call (w := 0) (t := 180) rfl rfl hh
  have Mf : ∀ {g : Nat} {as : List av}, wd (bB 162) = .inr (11, as) → as[g]? = some ai_top → mF ha g (.int (Fi ha 162 g)) := fun hb hg => wt_i w0 (by decide) hb (by decide) hg
  have g15 : mF ha 15 (.int (nI n0)) := by
    have z := Mf (g := 15) rfl rfl
    rw [f0 15 (by decide), h15] at z
    exact z
  have er := rn_dt (F := 10) (Lo := 1000) (hd_begins (fr := 10) (lo := 1000) (sl := sl) (m := 60) g15 (Mf (g := 16) rfl rfl) (Mf (g := 17) rfl rfl) (Mf (g := 18) rfl rfl) hn (by decide) (by decide) (by decide)) hr1
  subst er
  have hh : pm_run PT n fr lo 228 (11, [some (.ref 162), none, none, none, none], [.int (nI n0)], hbeg ha n0 60, 198, sl) = some R := hh
  have eb : hbeg ha n0 60 = fset (fset (fset (fset ha 162 15 (.int 0)) 162 16 (.int 0)) 162 18 (.int 0)) 162 17 (.int (nI (min n0 60))) := by
    have a1 : WT (fset ha 162 15 (.int 0)) := wt_fs rfl (by decide) rfl w0
    have a2 : WT (fset (fset ha 162 15 (.int 0)) 162 16 (.int 0)) := wt_fs rfl (by decide) rfl a1
    have a3 : WT (fset (fset (fset ha 162 15 (.int 0)) 162 16 (.int 0)) 162 18 (.int 0)) := wt_fs rfl (by decide) rfl a2
    unfold hbeg
    rw [mset_w (g := 15) w0 rfl rfl, mset_w (g := 16) a1 rfl rfl, mset_w (g := 18) a2 rfl rfl, mset_w (g := 17) a3 rfl rfl]
  rw [eb] at hh
  have b1 : WT (fset (fset (fset (fset ha 162 15 (.int 0)) 162 16 (.int 0)) 162 18 (.int 0)) 162 17 (.int (nI (min n0 60)))) := wt_fs rfl (by decide) rfl (wt_fs rfl (by decide) rfl (wt_fs rfl (by decide) rfl (wt_fs rfl (by decide) rfl w0)))
  have b2 : frm yHW yHV h (fset (fset (fset (fset ha 162 15 (.int 0)) 162 16 (.int 0)) 162 18 (.int 0)) 162 17 (.int (nI (min n0 60)))) := fr_f rfl rfl (fr_f rfl rfl (fr_f rfl rfl (fr_f rfl rfl fr0)))
  have b16 : Fi (fset (fset (fset (fset ha 162 15 (.int 0)) 162 16 (.int 0)) 162 18 (.int 0)) 162 17 (.int (nI (min n0 60)))) 162 16 = nI 0 := (Fi_n (Or.inr (by decide))).trans ((Fi_n (Or.inr (by decide))).trans (Fi_s (wt_fs rfl (by decide) rfl w0) (by decide) rfl (by decide) rfl))
  have b17 : Fi (fset (fset (fset (fset ha 162 15 (.int 0)) 162 16 (.int 0)) 162 18 (.int 0)) 162 17 (.int (nI (min n0 60)))) 162 17 = nI (min n0 60) := Fi_s (wt_fs rfl (by decide) rfl (wt_fs rfl (by decide) rfl (wt_fs rfl (by decide) rfl w0))) (by decide) rfl (by decide) rfl
  generalize fset (fset (fset (fset ha 162 15 (.int 0)) 162 16 (.int 0)) 162 18 (.int 0)) 162 17 (.int (nI (min n0 60))) = hb at *
  have hh : pm_run PT n fr lo 228 (11, [some (.ref 162), none, none, none, none], [.int (nI n0)], hb, 198, sl) = some R := hh
  obtain ⟨n, hh⟩ := rn_i rfl rfl rfl rfl hh
  obtain ⟨n, hh⟩ := rn_i rfl rfl rfl rfl hh
  obtain ⟨n, hh⟩ := rn_i rfl rfl rfl rfl hh
  have m35 : mF hb 35 (.int (Fi hb 162 35)) := wt_i b1 (by decide) rfl (by decide) rfl
  obtain ⟨n, hh⟩ := rn_pfm rfl rfl rfl (by decide) m35 hh
  rw [mset_w (g := 35) b1 rfl rfl] at hh
  have d1 : WT (fset hb 162 35 (.int (nI 0))) := wt_fs rfl (by decide) rfl b1
  have d2 : frm yHW yHV h (fset hb 162 35 (.int (nI 0))) := fr_f rfl rfl b2
  have d16 : Fi (fset hb 162 35 (.int (nI 0))) 162 16 = nI 0 := (Fi_n (Or.inr (by decide))).trans b16
  have d17 : Fi (fset hb 162 35 (.int (nI 0))) 162 17 = nI (min n0 60) := (Fi_n (Or.inr (by decide))).trans b17
  have d35 : Fi (fset hb 162 35 (.int (nI 0))) 162 35 = nI 0 := Fi_s b1 (by decide) rfl (by decide) rfl
  have hh : pm_run PT n fr lo 228 (17, [some (.ref 162), some (.int (nI n0)), none, none, none], [], fset hb 162 35 (.int (nI 0)), 198, sl) = some R := hh
  generalize fset hb 162 35 (.int (nI 0)) = hd at *
  have hh : pm_run PT n fr lo 228 (17, [some (.ref 162), some (.int (nI n0)), none, none, none], [], hd, 198, sl) = some R := hh
  obtain ⟨n, hh⟩ := rn_i rfl rfl rfl rfl hh
  obtain ⟨n, hh⟩ := rn_i rfl rfl rfl rfl hh
  have hh : pm_run PT n fr lo 228 (19, [some (.ref 162), some (.int (nI n0)), some (.int 1), none, none], [], hd, 198, sl) = some R := hh
  have et : Ar hd 172 = Ar h 172 := Ar_e (d2.1 172 rfl)
  obtain ⟨m, H, c, z, hm, zt⟩ := rd_run (h := hd) (t := min n0 60) (f := Ar h 172) (by omega) et d17 d1 d16 d35 hh
  have hr := yR_le (f := Ar h 172) (t := min n0 60) 61 0 (Nat.zero_le _)
  generalize yR (Ar h 172) (min n0 60) 61 0 = r at *
  obtain ⟨rb, rp⟩ := r
  dsimp only at z hm zt hr
  refine ⟨H, c, ⟨z.1.1, fr_g rfl rfl z.1.2 d2⟩, z.2.2, ?_⟩
  obtain ⟨m, hm⟩ := rn_i rfl rfl rfl rfl hm
  obtain ⟨m, hm⟩ := rn_i rfl rfl rfl rfl hm
  obtain ⟨m, hm⟩ := rn_i rfl rfl rfl rfl hm
  obtain ⟨m, hm⟩ := rn_i rfl rfl rfl rfl hm
  have hm : pm_run PT m fr lo 228 (47, [some (.ref 162), some (.int (nI n0)), some (.int (cond rb 1 0)), none, none], [.int (cond rb 1 0), .int (nI 60), .int (nI n0), .ref 162], H, 198, sl) = some R := hm
  obtain ⟨m, fr', lo', r1, hr1, hm⟩ := rn_call (w := 0) (t := 186) rfl rfl hm
  have Mg : ∀ {g : Nat} {as : List av}, wd (bB 162) = .inr (11, as) → as[g]? = some ai_top → mF H g (.int (Fi H 162 g)) := fun hb hg => wt_i z.1.1 (by decide) hb (by decide) hg
  have q1 := Mg (g := 16) rfl rfl
  have q2 := Mg (g := 17) rfl rfl
  rw [z.2.1] at q1
  rw [(yQ_17 z).trans d17] at q2
  have er := fo_run (m := 60) hn (by decide) (by omega) (by omega) q1 q2 hr1
  subst er
  rw [fO_eq2 (by decide) hr] at hm
  have hm : pm_run PT m fr lo 228 (50, [some (.ref 162), some (.int (nI n0)), some (.int (cond rb 1 0)), none, none], [.int (cond (rb && decide (rp = n0)) (Int32.ofInt 0) (Int32.ofInt (-1) - nI rp))], H, 198, sl) = some R := hm
  obtain ⟨m, hm⟩ := rn_i rfl rfl rfl rfl hm
  obtain ⟨m, hm⟩ := rn_i rfl rfl rfl rfl hm
  have hm : pm_run PT m fr lo 228 (52, [some (.ref 162), some (.int (nI n0)), some (.int (cond rb 1 0)), some (.int (cond (rb && decide (rp = n0)) (Int32.ofInt 0) (Int32.ofInt (-1) - nI rp))), none], [.int (cond (rb && decide (rp = n0)) (Int32.ofInt 0) (Int32.ofInt (-1) - nI rp))], H, 198, sl) = some R := hm
  obtain ⟨m, hm⟩ := rn_if (cc := .ge) (off := 5) (t := 57) rfl rfl hm
  unfold yGood
  dsimp only
  cases y : rb && decide (rp = n0) with
  | false =>
    rw [y, cond_false, m1q_ge rp (by omega)] at hm
    have hm : pm_run PT m fr lo 228 (55, [some (.ref 162), some (.int (nI n0)), some (.int (cond rb 1 0)), some (.int (Int32.ofInt (-1) - nI rp)), none], [], H, 198, sl) = some R := hm
    obtain ⟨m, hm⟩ := rn_i rfl rfl rfl rfl hm
    exact Or.inl ⟨rfl, (rn_ret rfl (Or.inl rfl) hm).2⟩
  | true =>
    rw [y, cond_true, show pm_cmp .ge (Int32.ofInt 0) 0 = true by decide] at hm
    rw [Bool.and_eq_true] at y
    obtain ⟨t1, t2, t3⟩ := zt y.1
    exact Or.inr ⟨rfl, ⟨t1, t2.trans (of_decide_eq_true y.2), t3⟩, m, _, _, _, hm⟩
/-- what the reference's acts keep -/
theorem yM_na {kd a b : Nat} (hc : HC q cc gc h) (na : NA h 170 78 86 6) (hk : kd ≤ 4) (ha : a < 10) (hb : b < 10) : NA (yM q cc gc h k kd a b).2 170 78 86 6 := by
  have h6 := hc.cb
  have e20 : ∀ m : Int32, NA (v220 q cc gc h a b m).2 170 78 86 6 := by
    intro m
    unfold v220
    cases zp : pP cc (nI a) (nI b) with
    | false => exact na
    | true =>
      cases in_b m.toInt64 (-9 : Int64) (9 : Int64) with
      | false => exact na
      | true =>
        cases pm_cmp .ne m 0 with
        | false => exact na
        | true =>
          obtain ⟨a', b', g1, g2, -, e1, e2⟩ := pP_iv zp
          have e1 := nI_ij (by omega) (by omega) e1
          have e2 := nI_ij (by omega) (by omega) e2
          exact NA_as (NAf_up (Or.inr (Or.inl (by omega))) (by decide) na)
  rcases (by omega : kd = 0 ∨ kd = 1 ∨ kd = 2 ∨ kd = 3 ∨ kd = 4) with rfl | rfl | rfl | rfl | rfl
  · exact v217_na hc na
  · have z := lp_in (f := fun _ x => v219 q cc gc x) (P := fun _ x => HC q cc gc x ∧ NA x 170 78 86 6) a 0 h ⟨hc, na⟩ (fun i x _ _ p => ⟨(v219_fr p.1).1, v219_na p.1 p.2⟩)
    exact z.2
  · show NA (v221 q cc gc h a b).2 170 78 86 6
    unfold v221
    cases zp : pP cc (nI a) (nI b) with
    | false => exact na
    | true =>
      obtain ⟨a', b', g1, g2, -, e1, e2⟩ := pP_iv zp
      have e1 := nI_ij (by omega) (by omega) e1
      have e2 := nI_ij (by omega) (by omega) e2
      exact NA_as (NAf_up (Or.inr (Or.inl (by omega))) (by decide) na)
  · exact e20 _
  · exact e20 _
theorem yX_1 {a b : Nat} {d : Int32} : yX q cc gc h 1 a b d = (true, v140 q cc gc h a) := by
  unfold yX
  rw [if_neg (by decide), if_pos rfl]
theorem yM_1 {a b : Nat} : yM q cc gc h k 1 a b = v227m q cc gc h k a := by
  unfold yM
  rw [if_pos rfl]
/-- does -/
theorem ym_run {j : Nat} (hc : HC q cc gc M) (na : NA M 170 78 86 6) (ok : yOk f t c) (td : yTold M f t c) (hj : j < c) (hj2 : j < 100) (hh : pm_run PT n fr lo 227 (0, pm_l0 [.ref 162, .int (nI j)] 5, [], M, 198, sl) = some R) : R = (some (.int (cond (yMj q cc gc f t j M).1 1 0)), (yMj q cc gc f t j M).2, 198, sl) ∧ (HC q cc gc (yMj q cc gc f t j M).2 ∧ frm yWM yVM M (yMj q cc gc f t j M).2) ∧ NA (yMj q cc gc f t j M).2 170 78 86 6 := by
  obtain ⟨⟨kd, eL⟩, oA⟩ := ok j hj
  obtain ⟨t1, t2, t3, -⟩ := td j hj
  obtain ⟨k4, -, -, d1, d2, -⟩ := y_act eL oA
  have hk : yKd f t j = kd := by
    unfold yKd
    rw [eL]
    rfl
  have la := (y_dig d1).2
  unfold yMj
  rw [hk] at t1 t3 ⊢
  by_cases y : kd = 1
  · subst y
    have n1 := yM_na (k := j) (kd := 1) (a := yd f (yPos f t j + 1)) (b := 0) hc na (by decide) la (by decide)
    rw [yM_1] at n1 ⊢
    obtain ⟨g1, g2, g3⟩ := v227m_ok hc (by omega) t1 t2 la na hh
    exact ⟨g1, ⟨g2, fr_g rfl rfl g3 fr_0⟩, n1⟩
  · have t3 := t3 y
    have lb := (y_dig (d2 y)).2
    have e : yM q cc gc M j kd (yd f (yPos f t j + 1)) (yd f (yPos f t j + 2)) = v227 q cc gc M j kd (yd f (yPos f t j + 1)) (yd f (yPos f t j + 2)) := if_neg y
    have n1 := yM_na (k := j) (b := yd f (yPos f t j + 2)) hc na k4 la lb
    rw [e] at n1 ⊢
    obtain ⟨g1, g2, g3⟩ := v227_ok hc (by omega) t1 t2 t3 (by omega) la lb na hh
    exact ⟨g1, ⟨g2, g3⟩, n1⟩
theorem yM_told (f1 : frm yWM yVM M H) (td : yTold M f t c) : yTold H f t c := yTold_e (fun a ha => f1.1 a (by rcases ha with rfl | rfl | rfl | rfl <;> rfl)) td
/-- the reference's acts -/
theorem yw_loop (ok : yOk f t c) (hc60 : c ≤ 60) : ∀ (k j n : Nat) (M : pm_H), j + k = c → HC q cc gc M → NA M 170 78 86 6 → Fi M 162 35 = nI c → yTold M f t c → pm_run PT n fr lo 228 (64, [some (.ref 162), some (.int v1), some (.int v2), some (.int v3), some (.int (nI j))], [], M, 198, sl) = some R → ∃ m, pm_run PT m fr lo 228 (88, [some (.ref 162), some (.int v1), some (.int v2), some (.int v3), some (.int (nI (yG (yMj q cc gc f t) k j M).1))], [], (yG (yMj q cc gc f t) k j M).2, 198, sl) = some R
  | 0, j, n, M, e, hc, na, e35, td, hh => by
    obtain ⟨n, hh⟩ := rn_i rfl rfl rfl rfl hh
    obtain ⟨n, hh⟩ := rn_i rfl rfl rfl rfl hh
    have hh : pm_run PT n fr lo 228 (67, [some (.ref 162), some (.int v1), some (.int v2), some (.int v3), some (.int (nI j))], [.ref 162, .int (nI j)], M, 198, sl) = some R := hh
    obtain ⟨n, hh⟩ := rn_gi (x := nI c) hc.wt rfl rfl (by decide) rfl (by decide) rfl e35 hh
    have hh : pm_run PT n fr lo 228 (70, [some (.ref 162), some (.int v1), some (.int v2), some (.int v3), some (.int (nI j))], [.int (nI c), .int (nI j)], M, 198, sl) = some R := hh
    obtain ⟨n, hh⟩ := rn_icmp (cc := .ge) (off := 18) (t := 88) rfl rfl hh
    rw [hI_ge (by omega) (by omega), decide_eq_true (by omega)] at hh
    exact ⟨n, hh⟩
  | k + 1, j, n, M, e, hc, na, e35, td, hh => by
    obtain ⟨n, hh⟩ := rn_i rfl rfl rfl rfl hh
    obtain ⟨n, hh⟩ := rn_i rfl rfl rfl rfl hh
    have hh : pm_run PT n fr lo 228 (67, [some (.ref 162), some (.int v1), some (.int v2), some (.int v3), some (.int (nI j))], [.ref 162, .int (nI j)], M, 198, sl) = some R := hh
    obtain ⟨n, hh⟩ := rn_gi (x := nI c) hc.wt rfl rfl (by decide) rfl (by decide) rfl e35 hh
    have hh : pm_run PT n fr lo 228 (70, [some (.ref 162), some (.int v1), some (.int v2), some (.int v3), some (.int (nI j))], [.int (nI c), .int (nI j)], M, 198, sl) = some R := hh
    obtain ⟨n, hh⟩ := rn_icmp (cc := .ge) (off := 18) (t := 88) rfl rfl hh
    rw [hI_ge (by omega) (by omega), decide_eq_false (by omega)] at hh
    have hh : pm_run PT n fr lo 228 (73, [some (.ref 162), some (.int v1), some (.int v2), some (.int v3), some (.int (nI j))], [], M, 198, sl) = some R := hh
    obtain ⟨n, hh⟩ := rn_i rfl rfl rfl rfl hh
    obtain ⟨n, hh⟩ := rn_i rfl rfl rfl rfl hh
    have hh : pm_run PT n fr lo 228 (76, [some (.ref 162), some (.int v1), some (.int v2), some (.int v3), some (.int (nI j))], [.int (nI j), .ref 162], M, 198, sl) = some R := hh
    obtain ⟨n, fr', lo', r1, hr1, hh⟩ := rn_call (w := 0) (t := 227) rfl rfl hh
    obtain ⟨er, ⟨c2, f2⟩, na2⟩ := ym_run hc na ok td (by omega) (by omega) hr1
    subst er
    have eG : yG (yMj q cc gc f t) (k + 1) j M = cond (yMj q cc gc f t j M).1 (yG (yMj q cc gc f t) k (j + 1) (yMj q cc gc f t j M).2) (j, (yMj q cc gc f t j M).2) := rfl
    have td2 := yM_told f2 td
    have e35b : Fi (yMj q cc gc f t j M).2 162 35 = nI c := (f2.2 162 35 rfl rfl).trans e35
    rw [eG]
    generalize yMj q cc gc f t j M = z at *
    obtain ⟨zb, zh⟩ := z
    dsimp only at hh c2 f2 na2 td2 e35b ⊢
    have hh : pm_run PT n fr lo 228 (79, [some (.ref 162), some (.int v1), some (.int v2), some (.int v3), some (.int (nI j))], [.int (cond zb 1 0)], zh, 198, sl) = some R := hh
    obtain ⟨n, hh⟩ := rn_if (cc := .eq) (off := 9) (t := 88) rfl rfl hh
    cases zb with
    | true =>
      rw [show pm_cmp .eq (cond true 1 0 : Int32) 0 = false by decide] at hh
      have hh : pm_run PT n fr lo 228 (82, [some (.ref 162), some (.int v1), some (.int v2), some (.int v3), some (.int (nI j))], [], zh, 198, sl) = some R := hh
      obtain ⟨n, hh⟩ := en_inc (x := j) (c := 1) (j := 4) rfl rfl (by decide) hh
      obtain ⟨n, hh⟩ := rn_i rfl rfl rfl rfl hh
      have hh : pm_run PT n fr lo 228 (64, [some (.ref 162), some (.int v1), some (.int v2), some (.int v3), some (.int (nI (j + 1)))], [], zh, 198, sl) = some R := hh
      exact yw_loop ok hc60 k (j + 1) n zh (by omega) c2 na2 e35b td2 hh
    | false =>
      rw [show pm_cmp .eq (cond false 1 0 : Int32) 0 = true by decide] at hh
      exact ⟨n, hh⟩
/-- both sides' acts: as many, and the same state -/
theorem yG_rel (ok : yOk f t c) : ∀ (k j : Nat) (X M : pm_H), j + k = c → VE q cc gc X M → yTold M f t c → (yG (yXj q cc gc f t) k j X).1 = (yG (yMj q cc gc f t) k j M).1 ∧ VE q cc gc (yG (yXj q cc gc f t) k j X).2 (yG (yMj q cc gc f t) k j M).2
  | 0, j, X, M, e, z, td => ⟨rfl, z⟩
  | k + 1, j, X, M, e, z, td => by
    obtain ⟨⟨kd, eL⟩, oA⟩ := ok j (by omega)
    obtain ⟨t1, t2, t3, t4⟩ := td j (by omega)
    obtain ⟨k4, -, -, d1, d2, -⟩ := y_act eL oA
    have hk : yKd f t j = kd := by
      unfold yKd
      rw [eL]
      rfl
    rw [hk] at t1 t3 t4
    have la := (y_dig d1).2
    obtain ⟨b, lb, e1, e2, fM⟩ : ∃ b : Nat, b < 10 ∧ (yXj q cc gc f t j X = yX q cc gc X kd (yd f (yPos f t j + 1)) b (f (yPos f t j + 3) - nI 48)) ∧ (yMj q cc gc f t j M = yM q cc gc M j kd (yd f (yPos f t j + 1)) b) ∧ frm yWM yVM M (yMj q cc gc f t j M).2 := by
      by_cases y : kd = 1
      · subst y
        refine ⟨0, by decide, ?_, ?_, ?_⟩
        · unfold yXj
          rw [hk, yX_1, yX_1]
        · unfold yMj
          rw [hk, yM_1, yM_1]
        · unfold yMj
          rw [hk, yM_1]
          exact fr_g rfl rfl (v227m_fr (k := j) (a := yd f (yPos f t j + 1)) z.1.2 t1 t2 la).2 fr_0
      · refine ⟨yd f (yPos f t j + 2), (y_dig (d2 y)).2, ?_, ?_, ?_⟩
        · unfold yXj
          rw [hk]
        · unfold yMj
          rw [hk]
        · unfold yMj
          rw [hk]
          exact (yM_fr z.1.2 t1 t2 t3 (by omega) la (y_dig (d2 y)).2).2
    obtain ⟨s1, s2⟩ := y_step (k := j) (d := f (yPos f t j + 3) - nI 48) z la lb k4 t4
    rw [← e1, ← e2] at s1 s2
    have td2 := yM_told fM td
    have g1 : yG (yXj q cc gc f t) (k + 1) j X = cond (yXj q cc gc f t j X).1 (yG (yXj q cc gc f t) k (j + 1) (yXj q cc gc f t j X).2) (j, (yXj q cc gc f t j X).2) := rfl
    have g2 : yG (yMj q cc gc f t) (k + 1) j M = cond (yMj q cc gc f t j M).1 (yG (yMj q cc gc f t) k (j + 1) (yMj q cc gc f t j M).2) (j, (yMj q cc gc f t j M).2) := rfl
    rw [g1, g2, s1]
    cases (yMj q cc gc f t j M).1 with
    | true => exact yG_rel ok k (j + 1) _ _ (by omega) s2 td2
    | false => exact ⟨rfl, s2⟩
theorem yG_le (g : Nat → pm_H → Bool × pm_H) : ∀ (k j : Nat) (X : pm_H), (yG g k j X).1 ≤ j + k
  | 0, j, X => Nat.le_refl _
  | k + 1, j, X => by
    have e : yG g (k + 1) j X = cond (g j X).1 (yG g k (j + 1) (g j X).2) (j, (g j X).2) := rfl
    rw [e]
    cases (g j X).1 with
    | true =>
      have := yG_le g k (j + 1) (g j X).2
      show (yG g k (j + 1) (g j X).2).1 ≤ j + (k + 1)
      omega
    | false =>
      show j ≤ j + (k + 1)
      omega
/-- frames of all acts -/
theorem yGX_fr : ∀ (k j : Nat) (X : pm_H), HC q cc gc X → HC q cc gc (yG (yXj q cc gc f t) k j X).2 ∧ frm yWX yVX X (yG (yXj q cc gc f t) k j X).2
  | 0, j, X, hc => ⟨hc, fr_0⟩
  | k + 1, j, X, hc => by
    have e : yG (yXj q cc gc f t) (k + 1) j X = cond (yXj q cc gc f t j X).1 (yG (yXj q cc gc f t) k (j + 1) (yXj q cc gc f t j X).2) (j, (yXj q cc gc f t j X).2) := rfl
    obtain ⟨c1, f1⟩ := yX_fr (kd := yKd f t j) (a := yd f (yPos f t j + 1)) (b := yd f (yPos f t j + 2)) (d := f (yPos f t j + 3) - nI 48) hc
    have c1 : HC q cc gc (yXj q cc gc f t j X).2 := c1
    have f1 : frm yWX yVX X (yXj q cc gc f t j X).2 := f1
    rw [e]
    cases (yXj q cc gc f t j X).1 with
    | true =>
      obtain ⟨c2, f2⟩ := yGX_fr k (j + 1) _ c1
      exact ⟨c2, fr_g rfl rfl f2 f1⟩
    | false => exact ⟨c1, f1⟩
theorem yGM_fr (ok : yOk f t c) : ∀ (k j : Nat) (M : pm_H), j + k = c → HC q cc gc M → yTold M f t c → HC q cc gc (yG (yMj q cc gc f t) k j M).2 ∧ frm yWM yVM M (yG (yMj q cc gc f t) k j M).2
  | 0, j, M, _, hc, _ => ⟨hc, fr_0⟩
  | k + 1, j, M, he, hc, td => by
    have e : yG (yMj q cc gc f t) (k + 1) j M = cond (yMj q cc gc f t j M).1 (yG (yMj q cc gc f t) k (j + 1) (yMj q cc gc f t j M).2) (j, (yMj q cc gc f t j M).2) := rfl
    obtain ⟨⟨kd, eL⟩, oA⟩ := ok j (by omega)
    obtain ⟨t1, t2, t3, -⟩ := td j (by omega)
    obtain ⟨k4, -, -, d1, d2, -⟩ := y_act eL oA
    have hk : yKd f t j = kd := by
      unfold yKd
      rw [eL]
      rfl
    rw [hk] at t1 t3
    have la := (y_dig d1).2
    have c1 : HC q cc gc (yMj q cc gc f t j M).2 ∧ frm yWM yVM M (yMj q cc gc f t j M).2 := by
      unfold yMj
      rw [hk]
      by_cases y : kd = 1
      · subst y
        rw [yM_1]
        obtain ⟨x1, x2⟩ := v227m_fr (k := j) (a := yd f (yPos f t j + 1)) hc t1 t2 la
        exact ⟨x1, fr_g rfl rfl x2 fr_0⟩
      · exact yM_fr hc t1 t2 t3 (by omega) la (y_dig (d2 y)).2
    have td2 := yM_told c1.2 td
    rw [e]
    cases (yMj q cc gc f t j M).1 with
    | true =>
      obtain ⟨c2, f2⟩ := yGM_fr ok k (j + 1) _ (by omega) c1.1 td2
      exact ⟨c2, fr_g rfl rfl f2 c1.2⟩
    | false => exact c1
end YRM
end MG95zzzkx0
section MG95zzzkx1
/-! year: SR is kept, both sides answer alike -/
section YRE
variable {n fr lo sl n0 cc gc k t c u fi si : Nat} {q : QT} {h h1 h2 H X M X1 M1 : pm_H} {v w : Int32} {f g : Nat → Int32} {R : pm_Rs} {W : List Nat} {V : List (Nat × Nat)}
/-- both readers see the same signs -/
theorem cg_L (e : ∀ j, j < t → f j = g j) (p : Nat) : yL f t p = yL g t p := by
  unfold yL
  by_cases y : p < t
  · rw [if_pos y, if_pos y, e p y]
  · rw [if_neg y, if_neg y]
theorem cg_B (e : ∀ j, j < t → f j = g j) (p j : Nat) : yB f t p j = yB g t p j := by
  unfold yB
  rw [dg_cg e (p + j)]
  cases z : dg g (p + j) t with
  | false => rfl
  | true => rw [e (p + j) (dg_lt z)]
theorem cg_D (e : ∀ j, j < t → f j = g j) (p : Nat) : ∀ k j, yD f t p k j = yD g t p k j
  | 0, _ => rfl
  | k + 1, j => by
    show cond (yB f t p j) (yD f t p k (j + 1)) j = cond (yB g t p j) (yD g t p k (j + 1)) j
    rw [cg_B e p j, cg_D e p k (j + 1)]
theorem cg_A (e : ∀ j, j < t → f j = g j) (p : Nat) : yA f t p = yA g t p := by
  unfold yA
  rw [cg_L e p]
  cases yL g t p with
  | none => rfl
  | some kd =>
    show (decide (yD f t p (yS kd - 1) 1 = yS kd), p + yD f t p (yS kd - 1) 1) = (decide (yD g t p (yS kd - 1) 1 = yS kd), p + yD g t p (yS kd - 1) 1)
    rw [cg_D e p]
theorem cg_R (e : ∀ j, j < t → f j = g j) : ∀ k p, yR f t k p = yR g t k p
  | 0, _ => rfl
  | k + 1, p => by
    have e1 : yR f t (k + 1) p = if p < t then (cond (yA f t p).1 (yR f t k (yA f t p).2) (yA f t p)) else (true, p) := rfl
    have e2 : yR g t (k + 1) p = if p < t then (cond (yA g t p).1 (yR g t k (yA g t p).2) (yA g t p)) else (true, p) := rfl
    rw [e1, e2, cg_A e p, cg_R e k]
theorem cg_P (e : ∀ j, j < t → f j = g j) : ∀ j, yPos f t j = yPos g t j
  | 0 => rfl
  | j + 1 => by
    show (yA f t (yPos f t j)).2 = (yA g t (yPos g t j)).2
    rw [cg_P e j, cg_A e]
theorem cg_K (e : ∀ j, j < t → f j = g j) (j : Nat) : yKd f t j = yKd g t j := by
  unfold yKd
  rw [cg_P e j, cg_L e]
theorem cg_ok (e : ∀ j, j < t → f j = g j) (z : yOk f t c) : yOk g t c := by
  intro j hj
  have y := z j hj
  rw [cg_P e j, cg_L e, cg_A e] at y
  exact y
theorem cg_told (e : ∀ j, j < t → f j = g j) (ok : yOk f t c) (z : yTold h f t c) : yTold h g t c := by
  intro j hj
  obtain ⟨⟨kd, eL⟩, oA⟩ := ok j hj
  obtain ⟨k4, -, -, d1, d2, d3⟩ := y_act eL oA
  have hk : yKd f t j = kd := by
    unfold yKd
    rw [eL]
    rfl
  obtain ⟨z1, z2, z3, z4⟩ := z j hj
  have hk2 : yKd g t j = kd := (cg_K e j).symm.trans hk
  have a1 : f (yPos f t j + 1) = g (yPos f t j + 1) := e _ (dg_lt d1)
  rw [hk] at z1 z3 z4
  rw [hk2, ← cg_P e j]
  refine ⟨z1, ?_, fun y => ?_, fun y => ?_⟩
  · rw [z2]
    unfold yd
    rw [a1]
  · rw [z3 y]
    unfold yd
    rw [e _ (dg_lt (d2 y))]
  · rw [z4 y, e _ (dg_lt (d3 y))]
/-- the class's end of a year -/
def yEnd (q : QT) (cc gc : Nat) (h : pm_H) (fi si k : Nat) (A B : Int64) : pm_H := v56 q cc gc (cond (decide (k ≤ 0)) (fset h 1 1 (.int (nI 0))) (v17 q cc gc (fset h 1 1 (.int (nI 0))) fi si)) A B
theorem v100e_is {a s p i : Int32} : ∃ A B, v100e q cc gc h fi si a k s p i = (nI k, yEnd q cc gc h fi si k A B) := by
  unfold v100e yEnd
  cases decide (k ≤ 0) with
  | true =>
    rw [cond_true, cond_true]
    cases pm_cmp .eq s 0 with
    | true =>
      rw [cond_true]
      exact ⟨_, _, rfl⟩
    | false =>
      rw [cond_false]
      exact ⟨_, _, rfl⟩
  | false =>
    rw [cond_false, cond_false]
    cases pm_cmp .eq s 0 with
    | true =>
      rw [cond_true]
      exact ⟨_, _, rfl⟩
    | false =>
      rw [cond_false]
      exact ⟨_, _, rfl⟩
/-- what stands before the reference's 'adds' -/
def yMid (q : QT) (cc gc : Nat) (h : pm_H) (A B : Int64) : pm_H := v167 q cc gc (v167 q cc gc (fset h 162 1 (.int (nI 0))) A) B
theorem v228e_is {a b d : Int32} : ∃ A B, v228e q cc gc h c u a b d k = cond (decide (k ≤ 0)) (nI 0, yMid q cc gc h A B) ((v212 q cc gc (yMid q cc gc h A B) u (nI k)).1, (v212 q cc gc (yMid q cc gc h A B) u (nI k)).2) := ⟨_, _, rfl⟩
theorem v212_1 : (v212 q cc gc h u v).1 = v := by
  unfold v212
  cases decide (u + 1 ≤ 15) <;> rfl
/-- the class's year -/
theorem yc_run (hn : n0 ≤ 80) (hc : HC q cc gc h) (t1 : Fi h 1 1 = nI n0) (na : NA h 17 0 8 6) (hfi : fi < 16) (hsi : si ≤ 15) (e1 : Fi h 25 1 = nI fi) (e2 : Fi h 25 2 = nI si) (hh : pm_run PT n fr lo 100 (0, pm_l0 [.ref 0] 6, [], h, 198, sl) = some R) : (yGood n0 (yR (Ar h 2) (min n0 60) 61 0) = false ∧ R = (some (.int (Int32.ofInt (-1) - nI (yR (Ar h 2) (min n0 60) 61 0).2)), fset h 1 1 (.int (nI 0)), 198, sl)) ∨ (yGood n0 (yR (Ar h 2) (min n0 60) 61 0) = true ∧ ∀ c, yOk (Ar h 2) (min n0 60) c → yPos (Ar h 2) (min n0 60) c = n0 → ∃ A B, R = (some (.int (nI (yG (yXj q cc gc (Ar h 2) (min n0 60)) c 0 (v16 q cc gc h fi si)).1)), yEnd q cc gc (yG (yXj q cc gc (Ar h 2) (min n0 60)) c 0 (v16 q cc gc h fi si)).2 fi si (yG (yXj q cc gc (Ar h 2) (min n0 60)) c 0 (v16 q cc gc h fi si)).1 A B, 198, sl)) := by
  have px := pX_hc hc t1
  obtain ⟨n, hh⟩ := rn_i rfl rfl rfl rfl hh
  have hh : pm_run PT n fr lo 100 (1, [some (.ref 0), none, none, none, none, none], [.ref 0], h, 198, sl) = some R := hh
  obtain ⟨n, fr', lo', r1, hr1, hh⟩ := rn_call (w := 0) (t := 134) rfl rfl hh
  have er := yf_run hn hc px hr1
  subst er
  have hr := yR_le (f := Ar h 2) (t := min n0 60) 61 0 (Nat.zero_le _)
  generalize yR (Ar h 2) (min n0 60) 61 0 = r at *
  obtain ⟨rb, rp⟩ := r
  unfold yO at hh
  unfold yGood
  dsimp only at hh hr ⊢
  have hh : pm_run PT n fr lo 100 (4, [some (.ref 0), none, none, none, none, none], [.int (cond (rb && decide (rp = n0)) (Int32.ofInt (-1)) (nI rp))], h, 198, sl) = some R := hh
  obtain ⟨n, hh⟩ := rn_i rfl rfl rfl rfl hh
  obtain ⟨n, hh⟩ := rn_i rfl rfl rfl rfl hh
  have hh : pm_run PT n fr lo 100 (6, [some (.ref 0), some (.int (cond (rb && decide (rp = n0)) (Int32.ofInt (-1)) (nI rp))), none, none, none, none], [.int (cond (rb && decide (rp = n0)) (Int32.ofInt (-1)) (nI rp))], h, 198, sl) = some R := hh
  obtain ⟨n, hh⟩ := rn_if (cc := .lt) (off := 15) (t := 21) rfl rfl hh
  cases y : rb && decide (rp = n0) with
  | false =>
    rw [y, cond_false, show pm_cmp .lt (nI rp) 0 = false from lt0_val (by rw [nI_toInt (by omega)]; omega)] at hh
    have hh : pm_run PT n fr lo 100 (9, [some (.ref 0), some (.int (nI rp)), none, none, none, none], [], h, 198, sl) = some R := hh
    obtain ⟨n, hh⟩ := rn_i rfl rfl rfl rfl hh
    have hh : pm_run PT n fr lo 100 (10, [some (.ref 0), some (.int (nI rp)), none, none, none, none], [.ref 0], h, 198, sl) = some R := hh
    obtain ⟨n, hh⟩ := rn_gr hc.wt rfl rfl (by decide) rfl (by decide) (show _ = some (2, ((1 : Nat) : Int), 1) from rfl) rfl hh
    obtain ⟨n, hh⟩ := rn_i rfl rfl rfl rfl hh
    have hh : pm_run PT n fr lo 100 (14, [some (.ref 0), some (.int (nI rp)), none, none, none, none], [.int (nI 0), .ref 1], h, 198, sl) = some R := hh
    obtain ⟨n, hh⟩ := rn_pi hc.wt rfl rfl (by decide) rfl (by decide) rfl hh
    obtain ⟨n, hh⟩ := rn_i rfl rfl rfl rfl hh
    obtain ⟨n, hh⟩ := rn_i rfl rfl rfl rfl hh
    obtain ⟨n, hh⟩ := rn_i rfl rfl rfl rfl hh
    have hh : pm_run PT n fr lo 100 (20, [some (.ref 0), some (.int (nI rp)), none, none, none, none], [.int (Int32.ofInt (-1) - nI rp)], fset h 1 1 (.int (nI 0)), 198, sl) = some R := hh
    exact Or.inl ⟨rfl, (rn_ret rfl (Or.inl rfl) hh).2⟩
  | true =>
    refine Or.inr ⟨rfl, fun c ok hend => ?_⟩
    rw [y, cond_true, show pm_cmp .lt (Int32.ofInt (-1)) 0 = true by decide] at hh
    have hh : pm_run PT n fr lo 100 (21, [some (.ref 0), some (.int (Int32.ofInt (-1))), none, none, none, none], [], h, 198, sl) = some R := hh
    obtain ⟨n, hh⟩ := rn_i rfl rfl rfl rfl hh
    have hh : pm_run PT n fr lo 100 (22, [some (.ref 0), some (.int (Int32.ofInt (-1))), none, none, none, none], [.ref 0], h, 198, sl) = some R := hh
    obtain ⟨n, hh⟩ := rn_gr hc.wt rfl rfl (by decide) rfl (by decide) (show _ = some (2, ((25 : Nat) : Int), 1) from rfl) rfl hh
    obtain ⟨n, hh⟩ := rn_i rfl rfl rfl rfl hh
    have hh : pm_run PT n fr lo 100 (26, [some (.ref 0), some (.int (Int32.ofInt (-1))), none, none, none, none], [.ref 0, .ref 25], h, 198, sl) = some R := hh
    obtain ⟨n, hh⟩ := rn_gr hc.wt rfl rfl (by decide) rfl (by decide) (show _ = some (2, ((13 : Nat) : Int), 1) from rfl) rfl hh
    have hh : pm_run PT n fr lo 100 (29, [some (.ref 0), some (.int (Int32.ofInt (-1))), none, none, none, none], [.ref 13, .ref 25], h, 198, sl) = some R := hh
    obtain ⟨n, fr', lo', r1, hr1, hh⟩ := rn_call (w := 0) (t := 16) rfl rfl hh
    obtain ⟨er, c0, f0⟩ := v16_ok hc hfi hsi e1 e2 hr1
    subst er
    have g1 : v16 q cc gc h fi si 1 = h 1 := f0.1 1 rfl
    have g2 : v16 q cc gc h fi si 2 = h 2 := f0.1 2 rfl
    have g17 : v16 q cc gc h fi si 17 = h 17 := f0.1 17 rfl
    have g25 : v16 q cc gc h fi si 25 = h 25 := f0.1 25 rfl
    have hh : pm_run PT n fr lo 100 (32, [some (.ref 0), some (.int (Int32.ofInt (-1))), none, none, none, none], [], v16 q cc gc h fi si, 198, sl) = some R := hh
    generalize v16 q cc gc h fi si = X0 at *
    have hh : pm_run PT n fr lo 100 (32, [some (.ref 0), some (.int (Int32.ofInt (-1))), none, none, none, none], [], X0, 198, sl) = some R := hh
    obtain ⟨n, hh⟩ := rn_i rfl rfl rfl rfl hh
    obtain ⟨n, hh⟩ := rn_i rfl rfl rfl rfl hh
    obtain ⟨n, hh⟩ := rn_i rfl rfl rfl rfl hh
    obtain ⟨n, hh⟩ := rn_i rfl rfl rfl rfl hh
    obtain ⟨n, hh⟩ := rn_i rfl rfl rfl rfl hh
    obtain ⟨n, hh⟩ := rn_i rfl rfl rfl rfl hh
    obtain ⟨n, hh⟩ := rn_i rfl rfl rfl rfl hh
    obtain ⟨n, hh⟩ := rn_i rfl rfl rfl rfl hh
    have hh : pm_run PT n fr lo 100 (42, [some (.ref 0), some (.int (Int32.ofInt (-1))), some (.int (nI 0)), some (.int 0), some (.int (nI (yPos (Ar h 2) (min n0 60) 0))), some (.int (nI 0))], [], X0, 198, sl) = some R := hh
    obtain ⟨m, s, p, i, hm⟩ := yl_loop (q := q) (cc := cc) (gc := gc) hn ok hend c 0 n X0 (Nat.zero_add c) c0 (NA_e (Ar_e g17) na) ((Fi_e g1).trans t1) (Ar_e g2) hh
    obtain ⟨cX, fX⟩ := yGX_fr (f := Ar h 2) (t := min n0 60) c 0 X0 c0
    have hk := yG_le (yXj q cc gc (Ar h 2) (min n0 60)) c 0 X0
    have hle := yPos_le c ok
    have x25 : (yG (yXj q cc gc (Ar h 2) (min n0 60)) c 0 X0).2 25 = h 25 := (fX.1 25 rfl).trans g25
    generalize yG (yXj q cc gc (Ar h 2) (min n0 60)) c 0 X0 = z at *
    obtain ⟨kk, Xe⟩ := z
    dsimp only at hm cX fX hk x25 ⊢
    obtain ⟨er, -, -⟩ := v100e_ok cX (by omega) hfi hsi ((Fi_e x25).trans e1) ((Fi_e x25).trans e2) hm
    obtain ⟨A, B, eE⟩ := v100e_is (q := q) (cc := cc) (gc := gc) (h := Xe) (fi := fi) (si := si) (k := kk) (a := Int32.ofInt (-1)) (s := s) (p := p) (i := i)
    rw [eE] at er
    exact ⟨A, B, er⟩
end YRE
end MG95zzzkx1
section MG95zzzkx2
/-! year: SR is kept, both sides answer alike -/
section YRF
variable {n fr lo sl n0 cc gc k t c u fi si : Nat} {q : QT} {a b h h1 h2 H X M X0 M0 hx hm hm' : pm_H} {v w : Int32} {f g : Nat → Int32} {R : pm_Rs} {W : List Nat} {V : List (Nat × Nat)}
theorem HC_fr (hc : HC q cc gc h) (w1 : WT h1) (z : frm W V h h1) (k : srF W V = true) : HC q cc gc h1 := by
  unfold srF at k
  rw [Bool.and_eq_true, Bool.and_eq_true] at k
  obtain ⟨k1, k2, k3⟩ := k
  refine HC_keep w1 (fun c g e => ?_) (fun fs p e1 e2 => ⟨fs, (z.1 0 (nel k3)).trans e1, e2⟩) hc
  have y := List.all_eq_true.mp k2 (c, g) (List.elem_iff.mp e)
  rw [Bool.and_eq_true] at y
  exact z.2 c g y.1 (nel2 y.2)
theorem VE_m2 (z : VE q cc gc hx hm) (hc : HC q cc gc hm') (ce : ∀ a, List.elem a [164, 165, 166, 167, 168, 170, 174] = true → hm' a = hm a) : VE q cc gc hx hm' := by
  obtain ⟨⟨z1, z2⟩, z3, z4, z5, z6⟩ := z
  refine ⟨⟨z1, hc⟩, ?_, ?_, ?_, ?_⟩
  · rw [Ar_e (ce 174 rfl)]
    exact z3
  · unfold RMm
    rw [Ar_e (ce 164 rfl), Ar_e (ce 165 rfl), Ar_e (ce 166 rfl), Ar_e (ce 167 rfl), Ar_e (ce 168 rfl)]
    exact z4
  · rw [Ar_e (ce 170 rfl)]
    exact z5
  · rw [Ar_e (ce 170 rfl)]
    exact z6
theorem v17_ne {i : Nat} (hi : i ≠ 25) : v17 q cc gc h fi si i = h i := by
  unfold v17
  cases decide (15 ≤ si) with
  | true => exact fs_ne hi
  | false => exact fs_ne hi
theorem fset_at {c g : Nat} {x : Value} : fset h c g x c = (match h c with
  | .inr (ci, fs) => .inr (ci, fs.set g x)
  | e => e) := if_pos rfl
theorem v17_25 (e : b 25 = a 25) : v17 q cc gc b fi si 25 = v17 q cc gc a fi si 25 := by
  unfold v17
  cases decide (15 ≤ si) with
  | true =>
    rw [cond_true, cond_true, fset_at, fset_at, e]
  | false =>
    rw [cond_false, cond_false, fset_at, fset_at, e]
/-- a commit behind something that leaves the undo list alone -/
theorem v17_cg (z : frm W V a b) (k : W.elem 25 = false) : frm W V (v17 q cc gc a fi si) (v17 q cc gc b fi si) := by
  have e25 := v17_25 (q := q) (cc := cc) (gc := gc) (fi := fi) (si := si) (z.1 25 k)
  refine ⟨fun i hi => ?_, fun c g ho hv => ?_⟩
  · by_cases y : i = 25
    · rw [y]
      exact e25
    · rw [v17_ne y, v17_ne y]
      exact z.1 i hi
  · by_cases y : c = 25
    · rw [y]
      exact Fi_e e25
    · rw [Fi_e (v17_ne y), Fi_e (v17_ne y)]
      exact z.2 c g ho hv
theorem el178 {i : Nat} (y : i ≠ 178) : List.elem i [178] = false := by
  cases z : List.elem i [178] with
  | false => rfl
  | true =>
    have z := List.elem_iff.mp z
    simp at z
    exact absurd z y
/-- a state put by, behind something that leaves the state and the rows alone -/
theorem v211_cg (ca : HC q cc gc a) (cb : HC q cc gc b) (hu : u ≤ 15) (z : frm W V a b) (k8 : W.elem 178 = false) (k0 : W.elem 170 = false) : frm W V (v211 q cc gc a u) (v211 q cc gc b u) := by
  obtain ⟨c1, f1⟩ := v211_fr (u := u) ca hu
  obtain ⟨c2, f2⟩ := v211_fr (u := u) cb hu
  obtain ⟨p1, p2, p3⟩ := v211_ar (q := q) (cc := cc) (gc := gc) (h := a) (u := u)
  obtain ⟨r1, r2, r3⟩ := v211_ar (q := q) (cc := cc) (gc := gc) (h := b) (u := u)
  have e0 : Ar b 170 = Ar a 170 := Ar_e (z.1 170 k0)
  have e8 : Ar b 178 = Ar a 178 := Ar_e (z.1 178 k8)
  have eA : Ar (v211 q cc gc b u) 178 = Ar (v211 q cc gc a u) 178 := by
    funext x
    by_cases y : x < 96 * u ∨ 96 * u + 96 ≤ x
    · rw [p3 x y, r3 x y, e8]
    · obtain ⟨k, hk, rfl⟩ : ∃ k, k < 96 ∧ x = 96 * u + k := ⟨x - 96 * u, by omega, by omega⟩
      rw [p2 k hk, r2 k hk, e0]
  have e178 : v211 q cc gc b u 178 = v211 q cc gc a u 178 := by
    rw [wt_a c1.wt (by decide) (show wd (bB 178) = .inl (0, 1536, ai_top) from rfl) (by decide), wt_a c2.wt (by decide) (show wd (bB 178) = .inl (0, 1536, ai_top) from rfl) (by decide), eA]
  refine ⟨fun i hi => ?_, fun c g ho hv => ?_⟩
  · by_cases y : i = 178
    · rw [y]
      exact e178
    · exact (f2.1 i (el178 y)).trans ((z.1 i hi).trans (f1.1 i (el178 y)).symm)
  · exact (f2.2 c g ho rfl).trans ((z.2 c g ho hv).trans (f1.2 c g ho rfl).symm)
theorem yEnd_hc {A B : Int64} (hc : HC q cc gc h) (hfi : fi < 16) (hsi : si ≤ 15) : HC q cc gc (yEnd q cc gc h fi si k A B) := by
  have c1 : HC q cc gc (fset h 1 1 (.int (nI 0))) := hc_f rfl rfl (by decide) rfl hc
  unfold yEnd
  cases decide (k ≤ 0) with
  | true =>
    rw [cond_true]
    exact (v56_fr c1).1
  | false =>
    rw [cond_false]
    exact (v56_fr (v17_fr c1 hfi hsi).1).1
theorem yMid_fr {A B : Int64} (hc : HC q cc gc h) : HC q cc gc (yMid q cc gc h A B) ∧ frm [162, 163] [(162, 1)] h (yMid q cc gc h A B) := by
  have c1 : HC q cc gc (fset h 162 1 (.int (nI 0))) := hc_f rfl rfl (by decide) rfl hc
  obtain ⟨c2, f2⟩ := v167_fr (v := A) c1
  obtain ⟨c3, f3⟩ := v167_fr (v := B) c2
  exact ⟨c3, fr_t f3 (fr_t f2 (fr_f rfl rfl fr_0))⟩
def yWb : List Nat := [1, 3, 4, 12, 13, 14, 15, 16, 17, 18, 142, 144, 145, 147, 162, 163, 170, 176, 177, 178, 179, 180, 181, 182]
def yVb : List (Nat × Nat) := [(1, 1), (3, 1), (13, 5), (13, 6), (142, 3), (145, 3), (162, 0), (162, 15), (162, 16), (162, 17), (162, 18), (162, 35), (162, 29), (162, 30), (162, 1)]
def yWc : List Nat := [1, 3, 4, 12, 13, 14, 15, 16, 17, 18, 142, 144, 145, 147]
def yVc : List (Nat × Nat) := [(1, 1), (3, 1), (13, 5), (13, 6), (142, 3), (145, 3)]
def yWd : List Nat := [162, 163, 170, 176, 177, 179, 180, 181, 182]
def yVd : List (Nat × Nat) := [(162, 0), (162, 15), (162, 16), (162, 17), (162, 18), (162, 35), (162, 29), (162, 30), (162, 1)]
theorem CK_wb : CK.all (fun a => !(yWb.elem a)) = true := by decide +kernel
theorem sl_wb : (List.range 96).all (fun j => !(yWb.elem (27 + j))) = true := by decide +kernel
/-- a year in which nothing went through -/
theorem SR_yr0 (hc : HC q cc gc h) (s : SRq q cc gc h) (hfi : fi < 16) (hsi : si ≤ 15) (e1 : Fi h 25 1 = nI fi) (e2 : Fi h 25 2 = nI si) (e3 : Fi h 162 27 = nI si) (pa : ∀ j, j < si → RSb cc gc (27 + 6 * ((fi + j) % 16)) h (fun k => Ar h 178 (96 * j + k)) ∧ RI cc gc (fun k => Ar h 178 (96 * j + k))) (c2 : HC q cc gc h2) (z : frm yWb yVb (cp73 h (27 + 6 * ((fi + si) % 16)) 13) h2) (e178 : ∀ x, x < 96 * si → Ar h2 178 x = Ar h 178 x) (nw : RSb cc gc 13 h2 (Ar h2 170) ∧ RI cc gc (Ar h2 170)) : SR h2 := by
  have out : ∀ a, (a < 27 ∨ 123 ≤ a) → yWb.elem a = false → h2 a = h a := fun a y e => (z.1 a e).trans (cp73_ne (by omega))
  have cs : ∀ a, CK.elem a = true → h2 a = h a := fun a e => out a (CK_of e).1 (nel (List.all_eq_true.mp CK_wb a (List.elem_iff.mp e)))
  have ka : kpt AK h h2 := fun a e => Ar_e (cs a (List.elem_iff.mpr (List.mem_append_left _ (List.elem_iff.mp e))))
  have i162 : cp73 h (27 + 6 * ((fi + si) % 16)) 13 162 = h 162 := cp73_ne (by omega)
  have f47 : Fi h2 162 47 = Fi h 162 47 := (z.2 162 47 rfl rfl).trans (Fi_e i162)
  have kf : kpf FK h h2 := by
    intro c g e
    have e := List.elem_iff.mp e
    simp only [FK, List.mem_cons, Prod.mk.injEq, List.not_mem_nil, or_false] at e
    rcases e with ⟨rfl, rfl⟩ | ⟨rfl, rfl⟩ | ⟨rfl, rfl⟩ | ⟨rfl, rfl⟩ | ⟨rfl, rfl⟩ | ⟨rfl, rfl⟩ | ⟨rfl, rfl⟩ | ⟨rfl, rfl⟩ | ⟨rfl, rfl⟩ | ⟨rfl, rfl⟩ | ⟨rfl, rfl⟩
    · exact Fi_e (cs 0 rfl)
    · exact Fi_e (cs 5 rfl)
    · exact Fi_e (cs 5 rfl)
    · exact Fi_e (cs 159 rfl)
    · exact f47
    · exact Fi_e (cs 124 rfl)
    · exact Fi_e (cs 124 rfl)
    · exact Fi_e (cs 130 rfl)
    · exact Fi_e (cs 130 rfl)
    · exact Fi_e (cs 136 rfl)
    · exact Fi_e (cs 136 rfl)
  have k9 : k0f 9 h h2 := fun fs p e1 e2 => ⟨fs, (cs 0 rfl).trans e1, e2⟩
  have c25 : h2 25 = h 25 := out 25 (Or.inl (by decide)) rfl
  have hs : ∀ i, 27 ≤ i → i < 123 → (i < 27 + 6 * ((fi + si) % 16) ∨ 27 + 6 * ((fi + si) % 16) + 6 ≤ i) → h2 i = h i := by
    intro i h1 h3 h4
    have e := List.all_eq_true.mp sl_wb (i - 27) (List.mem_range.mpr (by omega))
    rw [show 27 + (i - 27) = i by omega] at e
    exact (z.1 i (nel e)).trans (cp73_ne h4)
  refine SR_act c2 hc.qq s ka kf k9 nw ⟨fi, si, hfi, hsi, ⟨?_, ?_, ?_⟩, fun j hj => ?_⟩
  · exact (Fi_e c25).trans e1
  · exact (Fi_e c25).trans e2
  · exact ((z.2 162 27 rfl rfl).trans (Fi_e i162)).trans e3
  · obtain ⟨q1, q2⟩ := pa j hj
    exact ⟨RS_cg hc.cb hc.gb (fun k hk => e178 _ (by omega)) (RSb_e (fun i h1 h2 => hs i (by omega) (by omega) (by omega)) q1), RI_cg hc.cb hc.gb (fun k hk => e178 _ (by omega)) q2⟩
/-- year keeps SR; both sides answer alike -/
theorem sr_year (hL : LI5 h) (pr : prun sl 100 228 [] h h1 h2 v w) (z : SR h) : v = w ∧ SR h2 := by
  obtain ⟨q, cc, gc, fi, si, hc, s, hfi, hsi, e1, e2, e3, pa⟩ := SR_open z
  obtain ⟨⟨m1, r1⟩, ⟨f1, i1⟩, ⟨m2, r2⟩, lo1, i2⟩ := pr
  obtain ⟨n0, hn, t1, t15, hjj⟩ := li_text hL
  have hI : mInv h := hL.1
  have hx : ∀ i, i = 164 ∨ i = 165 ∨ i = 166 ∨ i = 167 ∨ i = 168 ∨ i = 170 ∨ i = 174 ∨ i = 178 ∨ i = 162 ∨ i = 172 → h1 i = h i := fun i hi => f1.1 i (by rcases hi with rfl | rfl | rfl | rfl | rfl | rfl | rfl | rfl | rfl | rfl <;> rfl)
  have e172 : Ar h1 172 = Ar h 172 := Ar_e (hx 172 (by decide))
  have eq : ∀ j, j < min n0 60 → Ar h 2 j = Ar h 172 j := fun j hj => hjj j (by omega)
  have qe : ∀ j, j < min n0 60 → Ar h 172 j = Ar h 2 j := fun j hj => (eq j hj).symm
  have eR := cg_R eq 61 0
  obtain ⟨M, c, ⟨wM, fM⟩, e35, ry⟩ := yh_run (wt_of i1.1) hn ((Fi_e (hx 162 (by decide))).trans t15) r2
  rw [e172, ← eR] at ry
  have kc := yc_run hn hc t1 (na_17 hI.1) hfi hsi e1 e2 r1
  generalize yR (Ar h 2) (min n0 60) 61 0 = r at *
  rcases kc with ⟨g0, er⟩ | ⟨g1, gk⟩
  · rcases ry with ⟨-, er2⟩ | ⟨g2, -⟩
    · injection er with b1 b2
      injection b1 with b1
      injection b1 with b1
      injection b2 with b2 b3
      injection er2 with d1 d2
      injection d1 with d1
      injection d1 with d1
      injection d2 with d2 d3
      rw [b2] at fM
      have fa : frm (1 :: yHW) ((1, 1) :: yHV) h M := fr_g rfl rfl fM (fr_f rfl rfl fr_0)
      have k : srF (1 :: yHW) ((1, 1) :: yHV) = true := by decide +kernel
      rw [b1, d1, d2]
      exact ⟨rfl, q, cc, gc, HC_fr hc wM fa k, SR_fr hc s fa k⟩
    · rw [g0] at g2
      cases g2
  · rcases ry with ⟨g2, -⟩ | ⟨-, ⟨ok, hend, td⟩, m, v1, v2, v3, hm⟩
    · rw [g1] at g2
      cases g2
    · have ok2 := cg_ok qe ok
      have hend2 : yPos (Ar h 2) (min n0 60) c = n0 := (cg_P eq c).trans hend
      have td2 := cg_told qe ok td
      have hle := yPos_le c ok2
      obtain ⟨A, B, er⟩ := gk c ok2 hend2
      obtain ⟨c0, f0⟩ := v16_fr (fi := fi) (si := si) hc hfi hsi
      have ve0 : VE q cc gc (v16 q cc gc h fi si) h := VE_x (VE_0 hc s) c0 f0 (by decide +kernel)
      have x0 : v16 q cc gc h fi si = cp73 h (27 + 6 * ((fi + si) % 16)) 13 := rfl
      obtain ⟨cX, fX⟩ := yGX_fr (f := Ar h 2) (t := min n0 60) c 0 (v16 q cc gc h fi si) c0
      injection er with b1 b2
      injection b1 with b1
      injection b1 with b1
      injection b2 with b2 b3
      have c1 : HC q cc gc h1 := by
        rw [b2]
        exact yEnd_hc cX hfi hsi
      have cM : HC q cc gc M := HC_fr c1 wM fM (by decide +kernel)
      have m27 : Fi M 162 27 = nI si := (fM.2 162 27 rfl rfl).trans ((Fi_e (hx 162 (by decide))).trans e3)
      -- the reference
      obtain ⟨m, hm⟩ := rn_i rfl rfl rfl rfl hm
      have hm : pm_run PT m _ _ 228 (58, [some (.ref 162), some (.int v1), some (.int v2), some (.int v3), none], [.ref 162], M, 198, sl) = some (some (.int w), h2, 198, sl) := hm
      obtain ⟨m, fr', lo', r1', hr1, hm⟩ := rn_call (w := 0) (t := 211) rfl rfl hm
      obtain ⟨er1, c3, f3⟩ := v211_ok cM hsi m27 hr1
      subst er1
      have a3 := v211_ar (q := q) (cc := cc) (gc := gc) (h := M) (u := si)
      have hm : pm_run PT m _ _ 228 (61, [some (.ref 162), some (.int v1), some (.int v2), some (.int v3), none], [], v211 q cc gc M si, 198, sl) = some (some (.int w), h2, 198, sl) := hm
      obtain ⟨m, hm⟩ := rn_i rfl rfl rfl rfl hm
      obtain ⟨m, hm⟩ := rn_i rfl rfl rfl rfl hm
      have hm : pm_run PT m _ _ 228 (64, [some (.ref 162), some (.int v1), some (.int v2), some (.int v3), some (.int (nI 0))], [], v211 q cc gc M si, 198, sl) = some (some (.int w), h2, 198, sl) := hm
      have fS : frm yHW yHV (fset h1 162 0 (.int (nI 0))) M := ⟨fun i hi => (fM.1 i hi).trans (fs_ne (fun e => by rw [e] at hi; cases hi)).symm, fun c' g' ho hv => (fM.2 c' g' ho hv).trans (Fi_n (Classical.byContradiction (fun y => by
        have y1 : c' = 162 := Classical.byContradiction (fun e => y (Or.inl e))
        have y2 : g' = 0 := Classical.byContradiction (fun e => y (Or.inr e))
        rw [y1, y2] at hv
        cases hv))).symm⟩
      have cS : HC q cc gc (fset h1 162 0 (.int (nI 0))) := hc_f rfl rfl (by decide) rfl c1
      have fP := v211_cg (u := si) cS cM hsi fS rfl rfl
      have fQ : frm (178 :: yHW) yHV h1 (v211 q cc gc M si) := fr_g rfl rfl f3 (fr_g rfl rfl fM fr_0)
      have mh : ∀ i, i = 164 ∨ i = 165 ∨ i = 166 ∨ i = 167 ∨ i = 168 ∨ i = 170 ∨ i = 174 → v211 q cc gc M si i = h i := fun i hi => (fQ.1 i (by rcases hi with rfl | rfl | rfl | rfl | rfl | rfl | rfl <;> rfl)).trans (hx i (by omega))
      have ve : VE q cc gc (v16 q cc gc h fi si) (v211 q cc gc M si) := VE_m2 ve0 c3 (fun i hi => mh i (by
        have hi := List.elem_iff.mp hi
        simp at hi
        omega))
      have td3 : yTold (v211 q cc gc M si) (Ar h 2) (min n0 60) c := yTold_e (fun i hi => f3.1 i (by rcases hi with rfl | rfl | rfl | rfl <;> rfl)) td2
      have na3 : NA (v211 q cc gc M si) 170 78 86 6 := NA_e (Ar_e (mh 170 (by decide))) (na_170 hI.1)
      obtain ⟨m, hm⟩ := yw_loop (v1 := v1) (v2 := v2) (v3 := v3) ok2 (by omega) c 0 m (v211 q cc gc M si) (Nat.zero_add c) c3 na3 ((f3.2 162 35 rfl rfl).trans e35) td3 hm
      obtain ⟨y1, y2⟩ := yG_rel ok2 c 0 (v16 q cc gc h fi si) (v211 q cc gc M si) (Nat.zero_add c) ve td3
      obtain ⟨cE, fE⟩ := yGM_fr ok2 c 0 (v211 q cc gc M si) (Nat.zero_add c) c3 td3
      have hk := yG_le (yMj q cc gc (Ar h 2) (min n0 60)) c 0 (v211 q cc gc M si)
      have m178 : ∀ x, x < 96 * si → Ar (v211 q cc gc M si) 178 x = Ar h 178 x := fun x hx2 => (a3.2.2 x (Or.inl hx2)).trans (congrFun ((Ar_e (fM.1 178 rfl)).trans (Ar_e (hx 178 (by decide)))) x)
      have ex : XP q cc gc fi si h (v17 q cc gc (v16 q cc gc h fi si) fi si) := by
        unfold v17
        by_cases y : 15 ≤ si
        · rw [decide_eq_true y, cond_true]
          exact xp_1 hc y hsi e2
        · rw [decide_eq_false y, cond_false]
          exact xp_0 hc y e1
      have e35e : Fi (yG (yMj q cc gc (Ar h 2) (min n0 60)) c 0 (v211 q cc gc M si)).2 162 35 = nI c := (fE.2 162 35 rfl rfl).trans ((f3.2 162 35 rfl rfl).trans e35)
      have e27e : Fi (yG (yMj q cc gc (Ar h 2) (min n0 60)) c 0 (v211 q cc gc M si)).2 162 27 = nI si := (fE.2 162 27 rfl rfl).trans ((f3.2 162 27 rfl rfl).trans m27)
      generalize yG (yXj q cc gc (Ar h 2) (min n0 60)) c 0 (v16 q cc gc h fi si) = zx at *
      obtain ⟨kx, Xe⟩ := zx
      generalize yG (yMj q cc gc (Ar h 2) (min n0 60)) c 0 (v211 q cc gc M si) = zm at *
      obtain ⟨km, Me⟩ := zm
      dsimp only at b1 b2 y1 y2 cX fX hm cE fE hk e35e e27e
      subst y1
      obtain ⟨er2, -, -⟩ := v228e_ok cE (by omega) (by omega) hsi e35e e27e hm
      obtain ⟨A2, B2, eE⟩ := v228e_is (q := q) (cc := cc) (gc := gc) (h := Me) (c := c) (u := si) (k := kx) (a := v1) (b := v2) (d := v3)
      rw [eE] at er2
      obtain ⟨cMid, fMid⟩ := yMid_fr (A := A2) (B := B2) cE
      obtain ⟨r5, r6⟩ := y2.2.2.2
      have cF : HC q cc gc (fset Xe 1 1 (.int (nI 0))) := hc_f rfl rfl (by decide) rfl cX
      have lo : ∀ i, i < 162 → yMid q cc gc Me A2 B2 i = h1 i := fun i hi => (fMid.1 i (el_ge (by decide) hi)).trans ((fE.1 i (el_ge (by decide) hi)).trans ((f3.1 i (el_ge (by decide) hi)).trans (fM.1 i (el_ge (by decide) hi))))
      have a170 : Ar (yMid q cc gc Me A2 B2) 170 = Ar Me 170 := Ar_e (fMid.1 170 rfl)
      by_cases y : kx ≤ 0
      · rw [decide_eq_true y, cond_true] at er2
        injection er2 with d1 d2
        injection d1 with d1
        injection d1 with d1
        injection d2 with d2 d3
        unfold yEnd at b2
        rw [decide_eq_true y, cond_true] at b2
        have hk0 : kx = 0 := by omega
        have fH : frm [1, 3, 4] [(1, 1), (3, 1)] Xe h1 := by
          rw [b2]
          exact fr_g rfl rfl (v56_fr cF).2 (fr_f rfl rfl fr_0)
        have hX : ∀ i, i = 13 ∨ i = 14 ∨ i = 15 ∨ i = 16 ∨ i = 17 ∨ i = 18 → h1 i = Xe i := fun i hi => fH.1 i (by rcases hi with rfl | rfl | rfl | rfl | rfl | rfl <;> rfl)
        have fz : frm yWb yVb (v16 q cc gc h fi si) (yMid q cc gc Me A2 B2) := fr_g (by decide +kernel) (by decide +kernel) fMid (fr_g (by decide +kernel) (by decide +kernel) fE (fr_g (by decide +kernel) (by decide +kernel) f3 (fr_g (by decide +kernel) (by decide +kernel) fM (fr_g (by decide +kernel) (by decide +kernel) fH (fr_g (by decide +kernel) (by decide +kernel) fX fr_0)))))
        rw [b1, d1, d2, hk0]
        refine ⟨rfl, SR_yr0 hc s hfi hsi e1 e2 e3 pa cMid fz (fun x hx2 => (congrFun ((Ar_e (fMid.1 178 rfl)).trans (Ar_e (fE.1 178 rfl))) x).trans (m178 x hx2)) ?_⟩
        rw [a170]
        refine ⟨?_, r6⟩
        unfold RSb
        rw [Ar_e ((lo (13 + 1) (by decide)).trans (hX 14 (by decide))), Ar_e ((lo (13 + 2) (by decide)).trans (hX 15 (by decide))), Ar_e ((lo (13 + 3) (by decide)).trans (hX 16 (by decide))), Ar_e ((lo (13 + 4) (by decide)).trans (hX 17 (by decide))), Ar_e ((lo (13 + 5) (by decide)).trans (hX 18 (by decide))), Fi_e ((lo 13 (by decide)).trans (hX 13 (by decide))), Fi_e ((lo 13 (by decide)).trans (hX 13 (by decide)))]
        exact r5
      · rw [decide_eq_false y, cond_false, v212_1] at er2
        injection er2 with d1 d2
        injection d1 with d1
        injection d1 with d1
        injection d2 with d2 d3
        unfold yEnd at b2
        rw [decide_eq_false y, cond_false] at b2
        have g1 : frm yWc yVc (v16 q cc gc h fi si) (fset Xe 1 1 (.int (nI 0))) := fr_f rfl rfl (fr_g rfl rfl fX fr_0)
        have cV : HC q cc gc (v17 q cc gc (fset Xe 1 1 (.int (nI 0))) fi si) := (v17_fr cF hfi hsi).1
        have fXX : frm yWc yVc (v17 q cc gc (v16 q cc gc h fi si) fi si) h1 := by
          rw [b2]
          exact fr_g rfl rfl (v56_fr cV).2 (v17_cg g1 rfl)
        have hX : ∀ i, i = 13 ∨ i = 14 ∨ i = 15 ∨ i = 16 ∨ i = 17 ∨ i = 18 → h1 i = Xe i := fun i hi => by
          rw [b2]
          exact ((v56_fr cV).2.1 i (by rcases hi with rfl | rfl | rfl | rfl | rfl | rfl <;> rfl)).trans ((v17_ne (by omega)).trans (fs_ne (by omega)))
        have fMM : frm yWd yVd (v211 q cc gc (fset h1 162 0 (.int (nI 0))) si) (yMid q cc gc Me A2 B2) := fr_g (by decide +kernel) (by decide +kernel) fMid (fr_g (by decide +kernel) (by decide +kernel) fE (fr_g (by decide +kernel) (by decide +kernel) fP fr_0))
        rw [b1, d1, d2]
        refine ⟨rfl, act_sr (W2 := []) (V2 := []) hc s hfi hsi pa ex fXX (by decide +kernel) c1 fMM (by decide +kernel) cMid fr_0 (by decide +kernel) rfl (v212_fr cMid hsi).1 ?_⟩
        rw [a170, Ar_e (hX 14 (by decide)), Ar_e (hX 15 (by decide)), Ar_e (hX 16 (by decide)), Ar_e (hX 17 (by decide)), Ar_e (hX 18 (by decide)), Fi_e (hX 13 (by decide)), Fi_e (hX 13 (by decide))]
        exact ⟨r5, r6⟩
end YRF
end MG95zzzkx2
section MG95zzzkx3
/-! the relation of the whole states and every call -/
section RL8
variable {sl kx km : Nat} {h h1 h2 : pm_H} {R : pm_Rs} {vs : List Int32} {v w x y z k m e s r : Int32}
theorem SR_tw (q : twX h h1) (z : SR h) : SR h1 := by
  obtain ⟨q0, cc, gc, hc, s⟩ := z
  have f : frm [197] [] h h1 := ⟨fun i hi => q.1 i (fun e => by rw [e] at hi; cases hi), fun c g ho _ => Fi_e (q.1 c (fr_no rfl ho))⟩
  have k : srF [197] [] = true := by decide +kernel
  exact ⟨q0, cc, gc, HC_fr hc (wt_of q.2) f k, SR_fr hc s f k⟩
def REL8 (h : pm_H) : Prop := REL h ∧ SR h
def LI8 (h : pm_H) : Prop := mInv h ∧ REL8 h
theorem LI8_7 (hI : LI8 h) : LI h := ⟨hI.1, hI.2.1⟩
theorem LI8_6 (hI : LI8 h) : LI6 h := LI_6 (LI8_7 hI)
theorem LI8_56 (hI : LI8 h) : LI5 h := LI_56 (LI8_7 hI)
theorem twX_LI8 (hI : LI8 h) (q : twX h h1) : LI8 h1 := by
  have h7 := twX_LI (LI8_7 hI) q
  exact ⟨h7.1, h7.2, SR_tw q hI.2.2⟩
theorem rel8_w (sm : sMK km = true) (gm : sGK km = true) (tm : sKK km = true) (nm : nKK km = true) (om : roK km = true) (cm : sCK km = true) (k1 : sf_X wMRX km = true) (k2 : sf_X wMNX km = true) (k3 : sf_X wMCX km = true) (k4 : sf_X wMPX km = true) (k5 : sf_X wMKX km = true) (k6 : sf_X wMLX km = true) (k7 : sf_X wFX km = true) (i1 : mInv h1) (vs : List Int32) {mx m f l : Nat} (r2 : pm_run PT m f l km (0, pm_l0 (.ref 162 :: vs.map Value.int) mx, [], h1, 198, sl) = some R) (lo : ∀ i, i < 162 → R.2.1 i = h1 i) (i2 : mInv R.2.1) (r : REL8 h1) : REL8 R.2.1 := by
  refine ⟨rel_w sm gm tm nm om cm i1 vs r2 lo r.1, ?_⟩
  obtain ⟨rv, h2, s2⟩ := R
  exact SR_m k1 (now_keep k2 i1 r2) k3 k4 k5 k6 k7 i1 i2 lo r2 r.2
theorem rel8_answer (pr : prun sl 104 232 vs h h1 h2 v w) (hI : LI8 h) : REL8 h2 := ⟨rel_R rfl rfl rfl rfl rfl rfl rfl rfl rfl rfl pr (LI8_7 hI), sr_answer hI.1 pr hI.2.2⟩
theorem rel8_wins (pr : prun sl 105 234 vs h h1 h2 v w) (hI : LI8 h) : REL8 h2 := ⟨rel_R rfl rfl rfl rfl rfl rfl rfl rfl rfl rfl pr (LI8_7 hI), sr_wins hI.1 pr hI.2.2⟩
theorem rel8_unseen (pr : prun sl 106 235 vs h h1 h2 v w) (hI : LI8 h) : REL8 h2 := ⟨rel_R rfl rfl rfl rfl rfl rfl rfl rfl rfl rfl pr (LI8_7 hI), sr_unseen hI.1 pr hI.2.2⟩
theorem rel8_way (pr : prun sl 108 238 vs h h1 h2 v w) (hI : LI8 h) : REL8 h2 := ⟨rel_R rfl rfl rfl rfl rfl rfl rfl rfl rfl rfl pr (LI8_7 hI), sr_way hI.1 pr hI.2.2⟩
theorem rel8_walks (pr : prun sl 109 239 vs h h1 h2 v w) (hI : LI8 h) : REL8 h2 := ⟨rel_R rfl rfl rfl rfl rfl rfl rfl rfl rfl rfl pr (LI8_7 hI), sr_walks hI.1 pr hI.2.2⟩
theorem rel8_alive (pr : prun sl 110 240 vs h h1 h2 v w) (hI : LI8 h) : REL8 h2 := ⟨rel_R rfl rfl rfl rfl rfl rfl rfl rfl rfl rfl pr (LI8_7 hI), sr_alive hI.1 pr hI.2.2⟩
theorem rel8_net (pr : prun sl 113 244 vs h h1 h2 v w) (hI : LI8 h) : REL8 h2 := ⟨rel_R rfl rfl rfl rfl rfl rfl rfl rfl rfl rfl pr (LI8_7 hI), sr_net hI.1 pr hI.2.2⟩
theorem rel8_settle (pr : prun sl 114 245 vs h h1 h2 v w) (hI : LI8 h) : REL8 h2 := ⟨rel_R rfl rfl rfl rfl rfl rfl rfl rfl rfl rfl pr (LI8_7 hI), sr_settle hI.1 pr hI.2.2⟩
theorem rel8_ring (pr : prun sl 115 247 vs h h1 h2 v w) (hI : LI8 h) : REL8 h2 := ⟨rel_R rfl rfl rfl rfl rfl rfl rfl rfl rfl rfl pr (LI8_7 hI), sr_ring hI.1 pr hI.2.2⟩
theorem rel8_ranks (pr : prun sl 116 249 vs h h1 h2 v w) (hI : LI8 h) : REL8 h2 := ⟨rel_R rfl rfl rfl rfl rfl rfl rfl rfl rfl rfl pr (LI8_7 hI), sr_ranks hI.1 pr hI.2.2⟩
theorem rel8_league (pr : prun sl 117 250 vs h h1 h2 v w) (hI : LI8 h) : REL8 h2 := ⟨rel_R rfl rfl rfl rfl rfl rfl rfl rfl rfl rfl pr (LI8_7 hI), sr_league hI.1 pr hI.2.2⟩
theorem rel8_fits (pr : prun sl 120 255 vs h h1 h2 v w) (hI : LI8 h) : REL8 h2 := ⟨rel_R rfl rfl rfl rfl rfl rfl rfl rfl rfl rfl pr (LI8_7 hI), sr_fits hI.1 pr hI.2.2⟩
theorem rel8_ask (pr : prun sl 121 256 vs h h1 h2 v w) (hI : LI8 h) : REL8 h2 := ⟨rel_R rfl rfl rfl rfl rfl rfl rfl rfl rfl rfl pr (LI8_7 hI), sr_ask hI.1 pr hI.2.2⟩
theorem rel8_rests (pr : prun sl 123 261 vs h h1 h2 v w) (hI : LI8 h) : REL8 h2 := ⟨rel_R rfl rfl rfl rfl rfl rfl rfl rfl rfl rfl pr (LI8_7 hI), sr_rests hI.1 pr hI.2.2⟩
theorem rel8_count (pr : prun sl 127 267 vs h h1 h2 v w) (hI : LI8 h) : REL8 h2 := ⟨rel_R rfl rfl rfl rfl rfl rfl rfl rfl rfl rfl pr (LI8_7 hI), sr_count hI.1 pr hI.2.2⟩
theorem rel8_sign (pr : prun sl 86 178 [x] h h1 h2 v w) (hI : LI8 h) : REL8 h2 := ⟨rel_sign pr (LI8_7 hI), sr_sign hI.1 pr hI.2.2⟩
theorem rel8_end (pr : prun sl 87 179 [x] h h1 h2 v w) (hI : LI8 h) : REL8 h2 := ⟨rel_end pr (LI8_7 hI), sr_end hI.1 pr hI.2.2⟩
theorem rel8_courts (pr : prun sl 88 188 [] h h1 h2 v w) (hI : LI8 h) : REL8 h2 := ⟨rel_courts pr (LI8_7 hI), (sr_courts pr (LI8_56 hI) hI.2.2).2⟩
theorem rel8_gifts (pr : prun sl 89 192 [] h h1 h2 v w) (hI : LI8 h) : REL8 h2 := ⟨rel_gifts pr (LI8_7 hI), (sr_gifts pr (LI8_56 hI) hI.2.2).2⟩
theorem rel8_rule (pr : prun sl 90 198 [] h h1 h2 v w) (hI : LI8 h) : REL8 h2 := ⟨rel_rule pr (LI8_7 hI), sr_rule (LI8_56 hI) pr hI.2.2⟩
theorem rel8_year (pr : prun sl 100 228 [] h h1 h2 v w) (hI : LI8 h) : REL8 h2 := ⟨rel_year pr (LI8_7 hI), (sr_year (LI8_56 hI) pr hI.2.2).2⟩
theorem rel8_law (pr : prun sl 122 258 [] h h1 h2 v w) (hI : LI8 h) : REL8 h2 := ⟨rel_law pr (LI8_7 hI), sr_law (LI8_56 hI) pr hI.2.2⟩
theorem rel8_keep (pr : prun sl 125 264 [x] h h1 h2 v w) (hI : LI8 h) : REL8 h2 := ⟨rel_keep pr (LI8_7 hI), sr_keep pr (LI8_6 hI).2.2 hI.2.2⟩
theorem rel8_again (pr : prun sl 126 265 [x] h h1 h2 v w) (hI : LI8 h) : v = w ∧ REL8 h2 := ⟨(rel_again pr (LI8_7 hI)).1, (rel_again pr (LI8_7 hI)).2, sr_again pr (LI8_6 hI).2.2 hI.2.2⟩
theorem rel8_road (pr : prun sl 94 209 [x, y, z] h h1 h2 v w) (hI : LI8 h) : v = w ∧ REL8 h2 := ⟨(rel_road pr (LI8_7 hI)).1, (rel_road pr (LI8_7 hI)).2, sr_road hI.1 pr hI.2.2⟩
theorem rel8_send (pr : prun sl 96 222 [x, y] h h1 h2 v w) (hI : LI8 h) : REL8 h2 := ⟨rel_R rfl rfl rfl rfl rfl rfl rfl rfl rfl rfl pr (LI8_7 hI), (sr_send pr hI.1 hI.2.2).2⟩
theorem rel8_envoy (pr : prun sl 98 224 [x, y, z] h h1 h2 v w) (hI : LI8 h) : REL8 h2 := ⟨rel_R rfl rfl rfl rfl rfl rfl rfl rfl rfl rfl pr (LI8_7 hI), (sr_envoy pr hI.2.2).2⟩
theorem rel8_forgive (pr : prun sl 99 225 [x, y] h h1 h2 v w) (hI : LI8 h) : REL8 h2 := ⟨rel_R rfl rfl rfl rfl rfl rfl rfl rfl rfl rfl pr (LI8_7 hI), (sr_forgive pr hI.2.2).2⟩
theorem rel8_months (pr : prun sl 97 223 [x] h h1 h2 v w) (hI : LI8 h) : REL8 h2 := ⟨rel_R rfl rfl rfl rfl rfl rfl rfl rfl rfl rfl pr (LI8_7 hI), (sr_months pr hI.2.2).2⟩
theorem rel8_undo (pr : prun sl 101 214 [] h h1 h2 v w) (hI : LI8 h) : REL8 h2 := ⟨rel_R rfl rfl rfl rfl rfl rfl rfl rfl rfl rfl pr (LI8_7 hI), (sr_undo pr hI.2.2).2⟩
theorem rel8_value (pr : prun sl 102 230 [x, y] h h1 h2 v w) (hI : LI8 h) : REL8 h2 := ⟨rel_R rfl rfl rfl rfl rfl rfl rfl rfl rfl rfl pr (LI8_7 hI), (sr_value pr hI.2.2).2⟩
theorem rel8_where (pr : prun sl 103 231 [x] h h1 h2 v w) (hI : LI8 h) : REL8 h2 := ⟨rel_R rfl rfl rfl rfl rfl rfl rfl rfl rfl rfl pr (LI8_7 hI), (sr_where pr hI.2.2).2⟩
theorem rel8_swaps (pr : prun sl 107 236 [] h h1 h2 v w) (hI : LI8 h) : REL8 h2 := ⟨rel_R rfl rfl rfl rfl rfl rfl rfl rfl rfl rfl pr (LI8_7 hI), st_swaps pr hI.1 hI.2.2⟩
theorem rel8_feeds (pr : prun sl 111 242 [x] h h1 h2 v w) (hI : LI8 h) : REL8 h2 := ⟨rel_R rfl rfl rfl rfl rfl rfl rfl rfl rfl rfl pr (LI8_7 hI), st_feeds pr hI.2.2⟩
theorem rel8_starves (pr : prun sl 112 243 [x, y] h h1 h2 v w) (hI : LI8 h) : REL8 h2 := ⟨rel_R rfl rfl rfl rfl rfl rfl rfl rfl rfl rfl pr (LI8_7 hI), st_starves pr hI.2.2⟩
theorem rel8_sheet (pr : prun sl 95 210 [k, m, e, s] h h1 h2 v w) (hI : LI8 h) : REL8 h2 := ⟨rel_R rfl rfl rfl rfl rfl rfl rfl rfl rfl rfl pr (LI8_7 hI), sr_sheet pr hI.2.2⟩
theorem rel8_heard (pr : prun sl 118 251 [x, y] h h1 h2 v w) (hI : LI8 h) : REL8 h2 := ⟨rel_R rfl rfl rfl rfl rfl rfl rfl rfl rfl rfl pr (LI8_7 hI), sr_heard pr hI.2.2⟩
theorem rel8_forget (pr : prun sl 119 252 [] h h1 h2 v w) (hI : LI8 h) : REL8 h2 := ⟨rel_R rfl rfl rfl rfl rfl rfl rfl rfl rfl rfl pr (LI8_7 hI), sr_forget pr hI.2.2⟩
theorem rel8_years (pr : prun sl 124 263 [r, m] h h1 h2 v w) (hI : LI8 h) : REL8 h2 := ⟨rel_R rfl rfl rfl rfl rfl rfl rfl rfl rfl rfl pr (LI8_7 hI), st_years pr hI.1 hI.2.2⟩
theorem eq8_undo (pr : prun sl 101 214 [] h h1 h2 v w) (hI : LI8 h) : v = w := (sr_undo pr hI.2.2).1
end RL8
end MG95zzzkx3
section MG95zzzkx4
/-! settle: both sides answer alike -/
section QS8
variable {n fr lo sl cc gc g c : Nat} {q : QT} {h h1 h2 : pm_H} {v w x y : Int32} {R : pm_Rs} {e r G D hd ha : Nat → Int32} {dx mx : Int32}
/-- one COURT less -/
def er (i : Nat) : List Nat → List Nat
  | [] => []
  | x :: l => if x = i then l else x :: er i l
/-- the most groups that cancel out, by what is owed to each -/
def gi (W : Nat → Int32) : Nat → List Nat → Int32
  | 0, _ => nI 0
  | k + 1, l => (l.foldl (fun a i => imax a (gi W k (er i l))) (nI 0)) + (cond (pm_cmp .ne (l.foldl (fun s i => s + W i) (nI 0)) 0) (nI 0) (nI 1))
def ol (t : Nat → Bool) : Nat → Nat → List Nat
  | 0, _ => []
  | j + 1, i => cond (t i) (i :: ol t j (i + 1)) (ol t j (i + 1))
def gl (W : Nat → Int32) (n m : Nat) : Int32 := gi W (ol (fun b => m.testBit b) n 0).length (ol (fun b => m.testBit b) n 0)
/-- who owes or is owed at all -/
def opn (W : Nat → Int32) (a : Nat) : Bool := !(pm_cmp .eq (W a) 0)
end QS8
end MG95zzzkx4
section MG95zzzkx5
/-! every opcode whose answers are thrown away -/
section RDT
variable {P : pm_St → Prop} {sl bS Ln i : Nat} {xs : Nat → Int32} {L : pm_L} {h : pm_H}
theorem rd_sign (H : lc_Cl 198 sl bS Ln xs P) (hL : lc_L bS i L) (hi : i + 5 ≤ Ln) (hI : LI8 h) (kk : ∀ h2, LI8 h2 → P (1443, L, [], h2, 198, sl)) : P (224, L, [], h, 198, sl) := op_run H (n := 1) (kx := 86) (km := 178) (pe := 1443) (by decide +kernel) hL (by omega) hI.1 cxw_sign rfl (by decide +kernel) (A := anInt) (fun _ q => q) (fun h1 hI1 => hm_sign hI1 _ (Nat.le_of_ble_eq_true rfl) (Nat.le_of_ble_eq_true rfl)) (fun h1 h2 v w pr => kk h2 ⟨pr.2.2.2.2, rel8_sign pr hI⟩)
theorem rd_end (H : lc_Cl 198 sl bS Ln xs P) (hL : lc_L bS i L) (hi : i + 5 ≤ Ln) (hI : LI8 h) (kk : ∀ h2, LI8 h2 → P (1443, L, [], h2, 198, sl)) : P (249, L, [], h, 198, sl) := op_run H (n := 1) (kx := 87) (km := 179) (pe := 1443) (by decide +kernel) hL (by omega) hI.1 cxw_end rfl (by decide +kernel) (A := aBool) (fun _ q => q.elim (fun e => ⟨_, e⟩) (fun e => ⟨_, e⟩)) (fun h1 hI1 => hm_end hI1 _ (Nat.le_of_ble_eq_true rfl) (Nat.le_of_ble_eq_true rfl)) (fun h1 h2 v w pr => kk h2 ⟨pr.2.2.2.2, rel8_end pr hI⟩)
theorem rd_courts (H : lc_Cl 198 sl bS Ln xs P) (hL : lc_L bS i L) (hi : i + 5 ≤ Ln) (hI : LI8 h) (kk : ∀ h2, LI8 h2 → P (1443, L, [], h2, 198, sl)) : P (274, L, [], h, 198, sl) := op_run H (n := 0) (kx := 88) (km := 188) (pe := 1443) (by decide +kernel) hL (by omega) hI.1 cxw_courts rfl (by decide +kernel) (A := anInt) (fun _ q => q) (fun h1 hI1 => hm_courts hI1 (Nat.le_of_ble_eq_true rfl) (Nat.le_of_ble_eq_true rfl)) (fun h1 h2 v w pr => kk h2 ⟨pr.2.2.2.2, rel8_courts pr hI⟩)
theorem rd_gifts (H : lc_Cl 198 sl bS Ln xs P) (hL : lc_L bS i L) (hi : i + 5 ≤ Ln) (hI : LI8 h) (kk : ∀ h2, LI8 h2 → P (1443, L, [], h2, 198, sl)) : P (287, L, [], h, 198, sl) := op_run H (n := 0) (kx := 89) (km := 192) (pe := 1443) (by decide +kernel) hL (by omega) hI.1 cxw_gifts rfl (by decide +kernel) (A := anInt) (fun _ q => q) (fun h1 hI1 => hm_gifts hI1 (Nat.le_of_ble_eq_true rfl) (Nat.le_of_ble_eq_true rfl)) (fun h1 h2 v w pr => kk h2 ⟨pr.2.2.2.2, rel8_gifts pr hI⟩)
theorem rd_rule (H : lc_Cl 198 sl bS Ln xs P) (hL : lc_L bS i L) (hi : i + 5 ≤ Ln) (hI : LI8 h) (kk : ∀ h2, LI8 h2 → P (1443, L, [], h2, 198, sl)) : P (300, L, [], h, 198, sl) := op_run H (n := 0) (kx := 90) (km := 198) (pe := 1443) (by decide +kernel) hL (by omega) hI.1 cxw_rule rfl (by decide +kernel) (A := anInt) (fun _ q => q) (fun h1 hI1 => hd_rule hI1 (Nat.le_of_ble_eq_true rfl) (Nat.le_of_ble_eq_true rfl)) (fun h1 h2 v w pr => kk h2 ⟨pr.2.2.2.2, rel8_rule pr hI⟩)
theorem rd_road (H : lc_Cl 198 sl bS Ln xs P) (hL : lc_L bS i L) (hi : i + 5 ≤ Ln) (hI : LI8 h) (kk : ∀ h2, LI8 h2 → P (1443, L, [], h2, 198, sl)) : P (445, L, [], h, 198, sl) := op_run H (n := 3) (kx := 94) (km := 209) (pe := 1443) (by decide +kernel) hL (by omega) hI.1 cxw_road rfl (by decide +kernel) (A := anInt) (fun _ q => q) (fun h1 hI1 => hm_road hI1 _ _ _ (Nat.le_of_ble_eq_true rfl) (Nat.le_of_ble_eq_true rfl)) (fun h1 h2 v w pr => kk h2 ⟨pr.2.2.2.2, (rel8_road pr hI).2⟩)
theorem rd_sheet (H : lc_Cl 198 sl bS Ln xs P) (hL : lc_L bS i L) (hi : i + 5 ≤ Ln) (hI : LI8 h) (kk : ∀ h2, LI8 h2 → P (1443, L, [], h2, 198, sl)) : P (494, L, [], h, 198, sl) := op_run H (n := 4) (kx := 95) (km := 210) (pe := 1443) (by decide +kernel) hL (by omega) hI.1 cxw_sheet rfl (by decide +kernel) (A := anInt) (fun _ q => q) (fun h1 hI1 => hm_sheet hI1 _ _ _ _ (Nat.le_of_ble_eq_true rfl) (Nat.le_of_ble_eq_true rfl)) (fun h1 h2 v w pr => kk h2 ⟨pr.2.2.2.2, rel8_sheet pr hI⟩)
theorem rd_send (H : lc_Cl 198 sl bS Ln xs P) (hL : lc_L bS i L) (hi : i + 5 ≤ Ln) (hI : LI8 h) (kk : ∀ h2, LI8 h2 → P (1443, L, [], h2, 198, sl)) : P (555, L, [], h, 198, sl) := op_run H (n := 2) (kx := 96) (km := 222) (pe := 1443) (by decide +kernel) hL (by omega) hI.1 cxw_send rfl (by decide +kernel) (A := anInt) (fun _ q => q) (fun h1 hI1 => hm_send hI1 _ _ (Nat.le_of_ble_eq_true rfl) (Nat.le_of_ble_eq_true rfl)) (fun h1 h2 v w pr => kk h2 ⟨pr.2.2.2.2, rel8_send pr hI⟩)
theorem rd_months (H : lc_Cl 198 sl bS Ln xs P) (hL : lc_L bS i L) (hi : i + 5 ≤ Ln) (hI : LI8 h) (kk : ∀ h2, LI8 h2 → P (1443, L, [], h2, 198, sl)) : P (592, L, [], h, 198, sl) := op_run H (n := 1) (kx := 97) (km := 223) (pe := 1443) (by decide +kernel) hL (by omega) hI.1 cxw_months rfl (by decide +kernel) (A := anInt) (fun _ q => q) (fun h1 hI1 => hm_months hI1 _ (Nat.le_of_ble_eq_true rfl) (Nat.le_of_ble_eq_true rfl)) (fun h1 h2 v w pr => kk h2 ⟨pr.2.2.2.2, rel8_months pr hI⟩)
theorem rd_envoy (H : lc_Cl 198 sl bS Ln xs P) (hL : lc_L bS i L) (hi : i + 5 ≤ Ln) (hI : LI8 h) (kk : ∀ h2, LI8 h2 → P (1443, L, [], h2, 198, sl)) : P (617, L, [], h, 198, sl) := op_run H (n := 3) (kx := 98) (km := 224) (pe := 1443) (by decide +kernel) hL (by omega) hI.1 cxw_envoy rfl (by decide +kernel) (A := anInt) (fun _ q => q) (fun h1 hI1 => hm_envoy hI1 _ _ _ (Nat.le_of_ble_eq_true rfl) (Nat.le_of_ble_eq_true rfl)) (fun h1 h2 v w pr => kk h2 ⟨pr.2.2.2.2, rel8_envoy pr hI⟩)
theorem rd_forgive (H : lc_Cl 198 sl bS Ln xs P) (hL : lc_L bS i L) (hi : i + 5 ≤ Ln) (hI : LI8 h) (kk : ∀ h2, LI8 h2 → P (1443, L, [], h2, 198, sl)) : P (666, L, [], h, 198, sl) := op_run H (n := 2) (kx := 99) (km := 225) (pe := 1443) (by decide +kernel) hL (by omega) hI.1 cxw_forgive rfl (by decide +kernel) (A := anInt) (fun _ q => q) (fun h1 hI1 => hm_forgive hI1 _ _ (Nat.le_of_ble_eq_true rfl) (Nat.le_of_ble_eq_true rfl)) (fun h1 h2 v w pr => kk h2 ⟨pr.2.2.2.2, rel8_forgive pr hI⟩)
theorem rd_year (H : lc_Cl 198 sl bS Ln xs P) (hL : lc_L bS i L) (hi : i + 5 ≤ Ln) (hI : LI8 h) (kk : ∀ h2, LI8 h2 → P (1443, L, [], h2, 198, sl)) : P (703, L, [], h, 198, sl) := op_run H (n := 0) (kx := 100) (km := 228) (pe := 1443) (by decide +kernel) hL (by omega) hI.1 cxw_year rfl (by decide +kernel) (A := anInt) (fun _ q => q) (fun h1 hI1 => hm_year hI1 (Nat.le_of_ble_eq_true rfl) (Nat.le_of_ble_eq_true rfl)) (fun h1 h2 v w pr => kk h2 ⟨pr.2.2.2.2, rel8_year pr hI⟩)
theorem rd_value (H : lc_Cl 198 sl bS Ln xs P) (hL : lc_L bS i L) (hi : i + 5 ≤ Ln) (hI : LI8 h) (kk : ∀ h2, LI8 h2 → P (1443, L, [], h2, 198, sl)) : P (729, L, [], h, 198, sl) := op_run H (n := 2) (kx := 102) (km := 230) (pe := 1443) (by decide +kernel) hL (by omega) hI.1 cxw_value rfl (by decide +kernel) (A := anInt) (fun _ q => q) (fun h1 hI1 => hm_value hI1 _ _ (Nat.le_of_ble_eq_true rfl) (Nat.le_of_ble_eq_true rfl)) (fun h1 h2 v w pr => kk h2 ⟨pr.2.2.2.2, rel8_value pr hI⟩)
theorem rd_where (H : lc_Cl 198 sl bS Ln xs P) (hL : lc_L bS i L) (hi : i + 5 ≤ Ln) (hI : LI8 h) (kk : ∀ h2, LI8 h2 → P (1443, L, [], h2, 198, sl)) : P (766, L, [], h, 198, sl) := op_run H (n := 1) (kx := 103) (km := 231) (pe := 1443) (by decide +kernel) hL (by omega) hI.1 cxw_where rfl (by decide +kernel) (A := anInt) (fun _ q => q) (fun h1 hI1 => hm_where hI1 _ (Nat.le_of_ble_eq_true rfl) (Nat.le_of_ble_eq_true rfl)) (fun h1 h2 v w pr => kk h2 ⟨pr.2.2.2.2, rel8_where pr hI⟩)
theorem rd_answer (H : lc_Cl 198 sl bS Ln xs P) (hL : lc_L bS i L) (hi : i + 5 ≤ Ln) (hI : LI8 h) (kk : ∀ h2, LI8 h2 → P (1443, L, [], h2, 198, sl)) : P (791, L, [], h, 198, sl) := op_run H (n := 2) (kx := 104) (km := 232) (pe := 1443) (by decide +kernel) hL (by omega) hI.1 cxw_answer rfl (by decide +kernel) (A := anInt) (fun _ q => q) (fun h1 hI1 => hm_answer hI1 _ _ (Nat.le_of_ble_eq_true rfl) (Nat.le_of_ble_eq_true rfl)) (fun h1 h2 v w pr => kk h2 ⟨pr.2.2.2.2, rel8_answer pr hI⟩)
theorem rd_wins (H : lc_Cl 198 sl bS Ln xs P) (hL : lc_L bS i L) (hi : i + 5 ≤ Ln) (hI : LI8 h) (kk : ∀ h2, LI8 h2 → P (1443, L, [], h2, 198, sl)) : P (828, L, [], h, 198, sl) := op_run H (n := 2) (kx := 105) (km := 234) (pe := 1443) (by decide +kernel) hL (by omega) hI.1 cxw_wins rfl (by decide +kernel) (A := anInt) (fun _ q => q) (fun h1 hI1 => hm_wins hI1 _ _ (Nat.le_of_ble_eq_true rfl) (Nat.le_of_ble_eq_true rfl)) (fun h1 h2 v w pr => kk h2 ⟨pr.2.2.2.2, rel8_wins pr hI⟩)
theorem rd_unseen (H : lc_Cl 198 sl bS Ln xs P) (hL : lc_L bS i L) (hi : i + 5 ≤ Ln) (hI : LI8 h) (kk : ∀ h2, LI8 h2 → P (1443, L, [], h2, 198, sl)) : P (865, L, [], h, 198, sl) := op_run H (n := 1) (kx := 106) (km := 235) (pe := 1443) (by decide +kernel) hL (by omega) hI.1 cxw_unseen rfl (by decide +kernel) (A := anInt) (fun _ q => q) (fun h1 hI1 => hm_unseen hI1 _ (Nat.le_of_ble_eq_true rfl) (Nat.le_of_ble_eq_true rfl)) (fun h1 h2 v w pr => kk h2 ⟨pr.2.2.2.2, rel8_unseen pr hI⟩)
theorem rd_swaps (H : lc_Cl 198 sl bS Ln xs P) (hL : lc_L bS i L) (hi : i + 5 ≤ Ln) (hI : LI8 h) (kk : ∀ h2, LI8 h2 → P (1443, L, [], h2, 198, sl)) : P (890, L, [], h, 198, sl) := op_run H (n := 0) (kx := 107) (km := 236) (pe := 1443) (by decide +kernel) hL (by omega) hI.1 cxw_swaps rfl (by decide +kernel) (A := anInt) (fun _ q => q) (fun h1 hI1 => hm_swaps hI1 (Nat.le_of_ble_eq_true rfl) (Nat.le_of_ble_eq_true rfl)) (fun h1 h2 v w pr => kk h2 ⟨pr.2.2.2.2, rel8_swaps pr hI⟩)
theorem rd_way (H : lc_Cl 198 sl bS Ln xs P) (hL : lc_L bS i L) (hi : i + 5 ≤ Ln) (hI : LI8 h) (kk : ∀ h2, LI8 h2 → P (1443, L, [], h2, 198, sl)) : P (903, L, [], h, 198, sl) := op_run H (n := 2) (kx := 108) (km := 238) (pe := 1443) (by decide +kernel) hL (by omega) hI.1 cxw_way rfl (by decide +kernel) (A := anInt) (fun _ q => q) (fun h1 hI1 => hm_way hI1 _ _ (Nat.le_of_ble_eq_true rfl) (Nat.le_of_ble_eq_true rfl)) (fun h1 h2 v w pr => kk h2 ⟨pr.2.2.2.2, rel8_way pr hI⟩)
theorem rd_walks (H : lc_Cl 198 sl bS Ln xs P) (hL : lc_L bS i L) (hi : i + 5 ≤ Ln) (hI : LI8 h) (kk : ∀ h2, LI8 h2 → P (1443, L, [], h2, 198, sl)) : P (940, L, [], h, 198, sl) := op_run H (n := 4) (kx := 109) (km := 239) (pe := 1443) (by decide +kernel) hL (by omega) hI.1 cxw_walks rfl (by decide +kernel) (A := anInt) (fun _ q => q) (fun h1 hI1 => hm_walks hI1 _ _ _ _ (Nat.le_of_ble_eq_true rfl) (Nat.le_of_ble_eq_true rfl)) (fun h1 h2 v w pr => kk h2 ⟨pr.2.2.2.2, rel8_walks pr hI⟩)
theorem rd_alive (H : lc_Cl 198 sl bS Ln xs P) (hL : lc_L bS i L) (hi : i + 5 ≤ Ln) (hI : LI8 h) (kk : ∀ h2, LI8 h2 → P (1443, L, [], h2, 198, sl)) : P (1001, L, [], h, 198, sl) := op_run H (n := 3) (kx := 110) (km := 240) (pe := 1443) (by decide +kernel) hL (by omega) hI.1 cxw_alive rfl (by decide +kernel) (A := anInt) (fun _ q => q) (fun h1 hI1 => hm_alive hI1 _ _ _ (Nat.le_of_ble_eq_true rfl) (Nat.le_of_ble_eq_true rfl)) (fun h1 h2 v w pr => kk h2 ⟨pr.2.2.2.2, rel8_alive pr hI⟩)
theorem rd_feeds (H : lc_Cl 198 sl bS Ln xs P) (hL : lc_L bS i L) (hi : i + 5 ≤ Ln) (hI : LI8 h) (kk : ∀ h2, LI8 h2 → P (1443, L, [], h2, 198, sl)) : P (1050, L, [], h, 198, sl) := op_run H (n := 1) (kx := 111) (km := 242) (pe := 1443) (by decide +kernel) hL (by omega) hI.1 cxw_feeds rfl (by decide +kernel) (A := anInt) (fun _ q => q) (fun h1 hI1 => hm_feeds hI1 _ (Nat.le_of_ble_eq_true rfl) (Nat.le_of_ble_eq_true rfl)) (fun h1 h2 v w pr => kk h2 ⟨pr.2.2.2.2, rel8_feeds pr hI⟩)
theorem rd_starves (H : lc_Cl 198 sl bS Ln xs P) (hL : lc_L bS i L) (hi : i + 5 ≤ Ln) (hI : LI8 h) (kk : ∀ h2, LI8 h2 → P (1443, L, [], h2, 198, sl)) : P (1075, L, [], h, 198, sl) := op_run H (n := 2) (kx := 112) (km := 243) (pe := 1443) (by decide +kernel) hL (by omega) hI.1 cxw_starves rfl (by decide +kernel) (A := anInt) (fun _ q => q) (fun h1 hI1 => hm_starves hI1 _ _ (Nat.le_of_ble_eq_true rfl) (Nat.le_of_ble_eq_true rfl)) (fun h1 h2 v w pr => kk h2 ⟨pr.2.2.2.2, rel8_starves pr hI⟩)
theorem rd_net (H : lc_Cl 198 sl bS Ln xs P) (hL : lc_L bS i L) (hi : i + 5 ≤ Ln) (hI : LI8 h) (kk : ∀ h2, LI8 h2 → P (1443, L, [], h2, 198, sl)) : P (1112, L, [], h, 198, sl) := op_run H (n := 1) (kx := 113) (km := 244) (pe := 1443) (by decide +kernel) hL (by omega) hI.1 cxw_net rfl (by decide +kernel) (A := anInt) (fun _ q => q) (fun h1 hI1 => hm_net hI1 _ (Nat.le_of_ble_eq_true rfl) (Nat.le_of_ble_eq_true rfl)) (fun h1 h2 v w pr => kk h2 ⟨pr.2.2.2.2, rel8_net pr hI⟩)
theorem rd_settle (H : lc_Cl 198 sl bS Ln xs P) (hL : lc_L bS i L) (hi : i + 5 ≤ Ln) (hI : LI8 h) (kk : ∀ h2, LI8 h2 → P (1443, L, [], h2, 198, sl)) : P (1137, L, [], h, 198, sl) := op_run H (n := 0) (kx := 114) (km := 245) (pe := 1443) (by decide +kernel) hL (by omega) hI.1 cxw_settle rfl (by decide +kernel) (A := anInt) (fun _ q => q) (fun h1 hI1 => hm_settle hI1 (Nat.le_of_ble_eq_true rfl) (Nat.le_of_ble_eq_true rfl)) (fun h1 h2 v w pr => kk h2 ⟨pr.2.2.2.2, rel8_settle pr hI⟩)
theorem rd_ring (H : lc_Cl 198 sl bS Ln xs P) (hL : lc_L bS i L) (hi : i + 5 ≤ Ln) (hI : LI8 h) (kk : ∀ h2, LI8 h2 → P (1443, L, [], h2, 198, sl)) : P (1150, L, [], h, 198, sl) := op_run H (n := 0) (kx := 115) (km := 247) (pe := 1443) (by decide +kernel) hL (by omega) hI.1 cxw_ring rfl (by decide +kernel) (A := anInt) (fun _ q => q) (fun h1 hI1 => hm_ring hI1 (Nat.le_of_ble_eq_true rfl) (Nat.le_of_ble_eq_true rfl)) (fun h1 h2 v w pr => kk h2 ⟨pr.2.2.2.2, rel8_ring pr hI⟩)
theorem rd_ranks (H : lc_Cl 198 sl bS Ln xs P) (hL : lc_L bS i L) (hi : i + 5 ≤ Ln) (hI : LI8 h) (kk : ∀ h2, LI8 h2 → P (1443, L, [], h2, 198, sl)) : P (1163, L, [], h, 198, sl) := op_run H (n := 0) (kx := 116) (km := 249) (pe := 1443) (by decide +kernel) hL (by omega) hI.1 cxw_ranks rfl (by decide +kernel) (A := anInt) (fun _ q => q) (fun h1 hI1 => hm_ranks hI1 (Nat.le_of_ble_eq_true rfl) (Nat.le_of_ble_eq_true rfl)) (fun h1 h2 v w pr => kk h2 ⟨pr.2.2.2.2, rel8_ranks pr hI⟩)
theorem rd_league (H : lc_Cl 198 sl bS Ln xs P) (hL : lc_L bS i L) (hi : i + 5 ≤ Ln) (hI : LI8 h) (kk : ∀ h2, LI8 h2 → P (1443, L, [], h2, 198, sl)) : P (1176, L, [], h, 198, sl) := op_run H (n := 0) (kx := 117) (km := 250) (pe := 1443) (by decide +kernel) hL (by omega) hI.1 cxw_league rfl (by decide +kernel) (A := anInt) (fun _ q => q) (fun h1 hI1 => hm_league hI1 (Nat.le_of_ble_eq_true rfl) (Nat.le_of_ble_eq_true rfl)) (fun h1 h2 v w pr => kk h2 ⟨pr.2.2.2.2, rel8_league pr hI⟩)
theorem rd_heard (H : lc_Cl 198 sl bS Ln xs P) (hL : lc_L bS i L) (hi : i + 5 ≤ Ln) (hI : LI8 h) (kk : ∀ h2, LI8 h2 → P (1443, L, [], h2, 198, sl)) : P (1189, L, [], h, 198, sl) := op_run H (n := 2) (kx := 118) (km := 251) (pe := 1443) (by decide +kernel) hL (by omega) hI.1 cxw_heard rfl (by decide +kernel) (A := anInt) (fun _ q => q) (fun h1 hI1 => hm_heard hI1 _ _ (Nat.le_of_ble_eq_true rfl) (Nat.le_of_ble_eq_true rfl)) (fun h1 h2 v w pr => kk h2 ⟨pr.2.2.2.2, rel8_heard pr hI⟩)
theorem rd_forget (H : lc_Cl 198 sl bS Ln xs P) (hL : lc_L bS i L) (hi : i + 5 ≤ Ln) (hI : LI8 h) (kk : ∀ h2, LI8 h2 → P (1443, L, [], h2, 198, sl)) : P (1226, L, [], h, 198, sl) := op_run H (n := 0) (kx := 119) (km := 252) (pe := 1443) (by decide +kernel) hL (by omega) hI.1 cxw_forget rfl (by decide +kernel) (A := anInt) (fun _ q => q) (fun h1 hI1 => hm_forget hI1 (Nat.le_of_ble_eq_true rfl) (Nat.le_of_ble_eq_true rfl)) (fun h1 h2 v w pr => kk h2 ⟨pr.2.2.2.2, rel8_forget pr hI⟩)
theorem rd_fits (H : lc_Cl 198 sl bS Ln xs P) (hL : lc_L bS i L) (hi : i + 5 ≤ Ln) (hI : LI8 h) (kk : ∀ h2, LI8 h2 → P (1443, L, [], h2, 198, sl)) : P (1239, L, [], h, 198, sl) := op_run H (n := 0) (kx := 120) (km := 255) (pe := 1443) (by decide +kernel) hL (by omega) hI.1 cxw_fits rfl (by decide +kernel) (A := anInt) (fun _ q => q) (fun h1 hI1 => hm_fits hI1 (Nat.le_of_ble_eq_true rfl) (Nat.le_of_ble_eq_true rfl)) (fun h1 h2 v w pr => kk h2 ⟨pr.2.2.2.2, rel8_fits pr hI⟩)
theorem rd_ask (H : lc_Cl 198 sl bS Ln xs P) (hL : lc_L bS i L) (hi : i + 5 ≤ Ln) (hI : LI8 h) (kk : ∀ h2, LI8 h2 → P (1443, L, [], h2, 198, sl)) : P (1252, L, [], h, 198, sl) := op_run H (n := 0) (kx := 121) (km := 256) (pe := 1443) (by decide +kernel) hL (by omega) hI.1 cxw_ask rfl (by decide +kernel) (A := anInt) (fun _ q => q) (fun h1 hI1 => hm_ask hI1 (Nat.le_of_ble_eq_true rfl) (Nat.le_of_ble_eq_true rfl)) (fun h1 h2 v w pr => kk h2 ⟨pr.2.2.2.2, rel8_ask pr hI⟩)
theorem rd_law (H : lc_Cl 198 sl bS Ln xs P) (hL : lc_L bS i L) (hi : i + 5 ≤ Ln) (hI : LI8 h) (kk : ∀ h2, LI8 h2 → P (1443, L, [], h2, 198, sl)) : P (1265, L, [], h, 198, sl) := op_run H (n := 0) (kx := 122) (km := 258) (pe := 1443) (by decide +kernel) hL (by omega) hI.1 cxw_law rfl (by decide +kernel) (A := anInt) (fun _ q => q) (fun h1 hI1 => hm_law hI1 (Nat.le_of_ble_eq_true rfl) (Nat.le_of_ble_eq_true rfl)) (fun h1 h2 v w pr => kk h2 ⟨pr.2.2.2.2, rel8_law pr hI⟩)
theorem rd_rests (H : lc_Cl 198 sl bS Ln xs P) (hL : lc_L bS i L) (hi : i + 5 ≤ Ln) (hI : LI8 h) (kk : ∀ h2, LI8 h2 → P (1443, L, [], h2, 198, sl)) : P (1278, L, [], h, 198, sl) := op_run H (n := 1) (kx := 123) (km := 261) (pe := 1443) (by decide +kernel) hL (by omega) hI.1 cxw_rests rfl (by decide +kernel) (A := anInt) (fun _ q => q) (fun h1 hI1 => hm_rests hI1 _ (Nat.le_of_ble_eq_true rfl) (Nat.le_of_ble_eq_true rfl)) (fun h1 h2 v w pr => kk h2 ⟨pr.2.2.2.2, rel8_rests pr hI⟩)
theorem rd_years (H : lc_Cl 198 sl bS Ln xs P) (hL : lc_L bS i L) (hi : i + 5 ≤ Ln) (hI : LI8 h) (kk : ∀ h2, LI8 h2 → P (1443, L, [], h2, 198, sl)) : P (1303, L, [], h, 198, sl) := op_run H (n := 2) (kx := 124) (km := 263) (pe := 1443) (by decide +kernel) hL (by omega) hI.1 cxw_years rfl (by decide +kernel) (A := anInt) (fun _ q => q) (fun h1 hI1 => hm_years hI1 _ _ (Nat.le_of_ble_eq_true rfl) (Nat.le_of_ble_eq_true rfl)) (fun h1 h2 v w pr => kk h2 ⟨pr.2.2.2.2, rel8_years pr hI⟩)
theorem rd_keep (H : lc_Cl 198 sl bS Ln xs P) (hL : lc_L bS i L) (hi : i + 5 ≤ Ln) (hI : LI8 h) (kk : ∀ h2, LI8 h2 → P (1443, L, [], h2, 198, sl)) : P (1340, L, [], h, 198, sl) := op_run H (n := 1) (kx := 125) (km := 264) (pe := 1443) (by decide +kernel) hL (by omega) hI.1 cxw_keep rfl (by decide +kernel) (A := aBool) (fun _ q => q.elim (fun e => ⟨_, e⟩) (fun e => ⟨_, e⟩)) (fun h1 hI1 => wp_mono (hm_keep hI1 _ (Nat.le_of_ble_eq_true rfl) (Nat.le_of_ble_eq_true rfl)) (fun _ q => q.1)) (fun h1 h2 v w pr => kk h2 ⟨pr.2.2.2.2, rel8_keep pr hI⟩)
theorem rd_again (H : lc_Cl 198 sl bS Ln xs P) (hL : lc_L bS i L) (hi : i + 5 ≤ Ln) (hI : LI8 h) (kk : ∀ h2, LI8 h2 → P (1443, L, [], h2, 198, sl)) : P (1365, L, [], h, 198, sl) := op_run H (n := 1) (kx := 126) (km := 265) (pe := 1443) (by decide +kernel) hL (by omega) hI.1 cxw_again rfl (by decide +kernel) (A := aBool) (fun _ q => q.elim (fun e => ⟨_, e⟩) (fun e => ⟨_, e⟩)) (fun h1 hI1 => hm_again hI1 _ (Nat.le_of_ble_eq_true rfl) (Nat.le_of_ble_eq_true rfl)) (fun h1 h2 v w pr => kk h2 ⟨pr.2.2.2.2, (rel8_again pr hI).2⟩)
theorem rd_count (H : lc_Cl 198 sl bS Ln xs P) (hL : lc_L bS i L) (hi : i + 5 ≤ Ln) (hI : LI8 h) (kk : ∀ h2, LI8 h2 → P (1443, L, [], h2, 198, sl)) : P (1390, L, [], h, 198, sl) := op_run H (n := 1) (kx := 127) (km := 267) (pe := 1443) (by decide +kernel) hL (by omega) hI.1 cxw_count rfl (by decide +kernel) (A := anInt) (fun _ q => q) (fun h1 hI1 => hm_count hI1 _ (Nat.le_of_ble_eq_true rfl) (Nat.le_of_ble_eq_true rfl)) (fun h1 h2 v w pr => kk h2 ⟨pr.2.2.2.2, rel8_count pr hI⟩)
end RDT
end MG95zzzkx5
end MH95zzyvx6
