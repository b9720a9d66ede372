/-! cells that lead into themselves and are led to by fields alone that nobody reads: a closed set of methods leaves them -/
section NQQ
variable {fr lo k pc sz sl : Nat} {L : pm_L} {S : List Value} {h : pm_H} {st' : pm_St} {A : Nat → Bool} {G : Nat → Nat → Bool}
def nqH (A : Nat → Bool) (G : Nat → Nat → Bool) (h : pm_H) : Prop := (∀ i ci fs, i < 198 → A i = false → h i = .inr (ci, fs) → ∀ (f : Nat) (v : Value), fs[f]? = some v → G ci f = false → nrv A v) ∧ ∀ i kd n f, i < 198 → A i = false → h i = .inl (kd, n, .inr (.inr (.inr (.inr f)))) → ∀ j, j < n → nrv A (va_rf (f j))
def nq_st (A : Nat → Bool) (G : Nat → Nat → Bool) (L : pm_L) (S : List Value) (h : pm_H) : Prop := nrL A L ∧ nrS A S ∧ nqH A G h
theorem nqH_arr {a : Nat} {e : Nat × vp_A} (hH : nqH A G h) (he : ∀ kd n f, e = (kd, n, .inr (.inr (.inr (.inr f)))) → ∀ j, j < n → nrv A (va_rf (f j))) : nqH A G (va_up h a (.inl e)) := by
  refine ⟨fun i ci fs hb hA hi => ?_, fun i kd n f hb hA hi => ?_⟩
  · by_cases z : i = a
    · subst z; simp [va_up] at hi
    · simp [va_up, z] at hi; exact hH.1 i ci fs hb hA hi
  · by_cases z : i = a
    · subst z
      simp [va_up] at hi
      exact he kd n f hi
    · simp [va_up, z] at hi; exact hH.2 i kd n f hb hA hi
theorem nqH_fld {a ci f : Nat} {fs : List Value} {v : Value} (hH : nqH A G h) (e : h a = .inr (ci, fs)) (hv : nrv A v) : nqH A G (va_up h a (.inr (ci, fs.set f v))) := by
  refine ⟨fun i cj gs hb hA hi => ?_, fun i kd n g hb hA hi => ?_⟩
  · by_cases z : i = a
    · subst z
      simp [va_up] at hi
      obtain ⟨rfl, rfl⟩ := hi
      intro g w hw hG
      by_cases zf : f = g
      · subst zf
        rw [List.getElem?_set] at hw
        split at hw
        · split at hw
          · cases hw; exact hv
          · cases hw
        · exact absurd rfl ‹_›
      · rw [List.getElem?_set_ne zf] at hw
        exact hH.1 i ci fs hb hA e g w hw hG
    · simp [va_up, z] at hi; exact hH.1 i cj gs hb hA hi
  · by_cases z : i = a
    · subst z; simp [va_up] at hi
    · simp [va_up, z] at hi; exact hH.2 i kd n g hb hA hi
set_option maxHeartbeats 8000000 in
theorem nq_simple {i : Instr} (hB : sz ≤ 198) (hi : nr_i G k i = true) (q : nq_st A G L S h) (hh : pm_simple PT fr lo k i pc L S h sz sl = some st') : nq_st A G st'.2.1 st'.2.2.1 st'.2.2.2.1 ∧ ∀ a, A a = true → st'.2.2.2.1 a = h a := by
  obtain ⟨hL, hS, hH⟩ := q
  have lib : ∀ sp j, pm_libW PT sp fr lo k j pc L S h sz sl = some st' → nq_st A G st'.2.1 st'.2.2.1 st'.2.2.2.1 ∧ ∀ a, A a = true → st'.2.2.2.1 a = h a := by
    intro sp j hh
    unfold pm_libW at hh
    split at hh
    · split at hh
      · unfold pm_lib at hh
        split at hh
        · split at hh
          · cases hh
            exact ⟨⟨hL, (nrS_cons.mp hS).2, hH⟩, fun _ _ => rfl⟩
          · cases hh
        · split at hh
          · cases hh
            exact ⟨⟨hL, nrS_cons.mpr ⟨nrv_i _, (nrS_cons.mp (nrS_cons.mp hS).2).2⟩, hH⟩, fun _ _ => rfl⟩
          · cases hh
        · split at hh
          · cases hh
            exact ⟨⟨hL, nrS_cons.mpr ⟨nrv_i _, (nrS_cons.mp (nrS_cons.mp hS).2).2⟩, hH⟩, fun _ _ => rfl⟩
          · cases hh
        · split at hh
          · split at hh
            · cases hh
              simp only [nrS_cons] at hS
              exact ⟨⟨hL, hS.2.2.2.2.2, nqH_arr hH (fun kd n f e => by cases e)⟩, nr_up (hS.2.2.1 _ rfl)⟩
            · cases hh
          · cases hh
        · cases hh
      · cases hh
    · cases hh
  by_cases hq : (∃ j, i = .invokespecial j) ∨ ∃ j, i = .invokestatic j
  · rcases hq with ⟨j, rfl⟩ | ⟨j, rfl⟩
    · exact lib true j hh
    · exact lib false j hh
  · unfold pm_simple at hh
    split at hh
    all_goals (try (cases hi; done))
    all_goals (try (exact absurd (Or.inl ⟨_, rfl⟩) hq))
    all_goals (try (exact absurd (Or.inr ⟨_, rfl⟩) hq))
    all_goals (try simp only [pm_bi, pm_bd, pm_bl, pm_bdL, pm_ui, pm_lo, pm_so, pm_sL, pm_jp, pm_br, pm_ia, pm_la, pm_qa, pm_al, pm_gf, pm_pf, pm_iS, pm_lS, pm_qS, pm_libV] at hh)
    all_goals (repeat' split at hh)
    all_goals (try (cases hh; done))
    all_goals cases hh
    all_goals (try simp only [nrS_cons] at hS)
    all_goals first
      | exact ⟨⟨hL, hS, hH⟩, fun _ _ => rfl⟩
      | exact ⟨⟨hL, hS.2, hH⟩, fun _ _ => rfl⟩
      | exact ⟨⟨hL, hS.2.2, hH⟩, fun _ _ => rfl⟩
      | exact ⟨⟨hL, nrS_cons.mpr ⟨nrv_i _, hS⟩, hH⟩, fun _ _ => rfl⟩
      | exact ⟨⟨hL, nrS_cons.mpr ⟨nrv_l _, hS⟩, hH⟩, fun _ _ => rfl⟩
      | exact ⟨⟨hL, nrS_cons.mpr ⟨nrv_t _, hS⟩, hH⟩, fun _ _ => rfl⟩
      | exact ⟨⟨hL, nrS_cons.mpr ⟨nrv_i _, hS.2⟩, hH⟩, fun _ _ => rfl⟩
      | exact ⟨⟨hL, nrS_cons.mpr ⟨nrv_l _, hS.2⟩, hH⟩, fun _ _ => rfl⟩
      | exact ⟨⟨hL, nrS_cons.mpr ⟨nrv_i _, hS.2.2⟩, hH⟩, fun _ _ => rfl⟩
      | exact ⟨⟨hL, nrS_cons.mpr ⟨nrv_l _, hS.2.2⟩, hH⟩, fun _ _ => rfl⟩
      | exact ⟨⟨hL, nrS_cons.mpr ⟨nrL_ld hL ‹_›, hS⟩, hH⟩, fun _ _ => rfl⟩
      | exact ⟨⟨nrL_st1 hL hS.1, hS.2, hH⟩, fun _ _ => rfl⟩
      | exact ⟨⟨nrL_st2 hL hS.1, hS.2, hH⟩, fun _ _ => rfl⟩
      | exact ⟨⟨nrL_st1 hL (nrv_i _), hS, hH⟩, fun _ _ => rfl⟩
      | exact ⟨⟨hL, hS.2.2.2, nqH_arr hH (fun kd n f e => by cases e)⟩, nr_up (hS.2.2.1 _ rfl)⟩
      | exact ⟨⟨hL, nrS_cons.mpr ⟨hS.1, nrS_cons.mpr ⟨hS.1, hS.2⟩⟩, hH⟩, fun _ _ => rfl⟩
      | exact ⟨⟨hL, nrS_cons.mpr ⟨hS.1, nrS_cons.mpr ⟨hS.2.1, nrS_cons.mpr ⟨hS.1, hS.2.2⟩⟩⟩, hH⟩, fun _ _ => rfl⟩
      | exact ⟨⟨hL, nrS_cons.mpr ⟨hS.1, nrS_cons.mpr ⟨hS.2.1, nrS_cons.mpr ⟨hS.2.2.1, nrS_cons.mpr ⟨hS.1, hS.2.2.2⟩⟩⟩⟩, hH⟩, fun _ _ => rfl⟩
      | exact ⟨⟨hL, nrS_cons.mpr ⟨hS.1, nrS_cons.mpr ⟨hS.2.1, nrS_cons.mpr ⟨hS.1, nrS_cons.mpr ⟨hS.2.1, hS.2.2⟩⟩⟩⟩, hH⟩, fun _ _ => rfl⟩
      | skip
    · rename_i j a r x2 x1 ci fs cj f t e2 e1 hc x v e
      subst hc
      refine ⟨⟨hL, nrS_cons.mpr ⟨?_, hS.2⟩, hH⟩, fun _ _ => rfl⟩
      have hg : G cj f = false := by
        unfold nr_i at hi
        dsimp only at hi
        rw [e1] at hi
        simpa using hi
      exact hH.1 a cj fs (Nat.lt_of_lt_of_le (pm_obj_inv e2).1 hB) (hS.1 _ rfl) (pm_obj_inv e2).2 f v e hg
    · rename_i j v a r x1 x ci fs cj f t e1 e hc
      exact ⟨⟨hL, hS.2.2, nqH_fld hH (pm_obj_inv e1).2 hS.1⟩, nr_up (hS.2.1 _ rfl)⟩
    · rename_i i a r x kd n f e hc
      refine ⟨⟨hL, nrS_cons.mpr ⟨?_, hS.2.2⟩, hH⟩, fun _ _ => rfl⟩
      unfold pm_qar at e
      split at e
      · rename_i hlt
        split at e
        · rename_i kd' n' f' eh
          cases e
          exact hH.2 a _ _ _ (Nat.lt_of_lt_of_le hlt hB) (hS.2.1 _ rfl) eh _ (by
            have := of_decide_eq_true hc.1
            omega)
        · cases e
      · cases e
theorem nq_run {P : Nat → Nat → Bool} {K : Nat → Bool} (hK : nr_ok G K) (hS : sf_ok P K) : ∀ (n fr lo k : Nat) (st : pm_St) (r : pm_Rs), K k = true → st.2.2.2.2.1 ≤ 198 → nq_st A G st.2.1 st.2.2.1 st.2.2.2.1 → pm_run PT n fr lo k st = some r → ((∀ v, r.1 = some v → nrv A v) ∧ nqH A G r.2.1) ∧ ∀ a, A a = true → r.2.1 a = st.2.2.2.1 a
  | 0, _, _, _, _, _, _, _, _, h => by cases h
  | n + 1, fr, lo, k, st, r, hk, hB, q, h => by
    unfold pm_run at h
    split at h
    · rename_i r' e1
      cases h
      unfold pm_end at e1
      split at e1
      · cases e1
      · split at e1
        · split at e1
          · rename_i rv er
            cases e1
            refine ⟨⟨fun v ev => ?_, q.2.2⟩, fun _ _ => rfl⟩
            dsimp only at ev
            subst ev
            unfold pm_rets at er
            repeat' split at er
            all_goals first
              | (cases er; done)
              | (cases er; first | exact nrv_i _ | exact nrv_l _ | exact q.2.1 _ (by rw [‹st.2.2.1 = _›]; exact List.mem_cons_self))
          · cases e1
        · cases e1
    · split at h
      · rename_i st' e2
        unfold pm_step at e2
        split at e2
        · cases e2
        · rename_i i len ei
          obtain ⟨n1, n2⟩ := hK k _ i len hk ei
          split at e2
          · split at e2
            · rename_i w t ec
              split at e2
              · split at e2
                · rename_i rv h1 sz1 sl1 e3
                  cases e2
                  obtain ⟨⟨a1, a2⟩, a3⟩ := nq_run hK hS n _ _ t (0, pm_l0 (st.2.2.1.take (pm_na PT t)).reverse (pm_max PT t), [], st.2.2.2.1, st.2.2.2.2.1, st.2.2.2.2.2) (rv, h1, sz1, sl1) (n2 w t ec) hB ⟨nrL_l0 (nrS_take q.2.1), fun v hv => absurd hv (by simp), q.2.2⟩ e3
                  have hz := sz_run hS n _ _ t (0, pm_l0 (st.2.2.1.take (pm_na PT t)).reverse (pm_max PT t), [], st.2.2.2.1, st.2.2.2.2.1, st.2.2.2.2.2) (rv, h1, sz1, sl1) (n2 w t ec) e3
                  have hz1 : sz1 = st.2.2.2.2.1 := congrArg (fun q : Nat × Nat => q.1) hz
                  obtain ⟨b1, b3⟩ := nq_run hK hS n fr lo k (st.1 + 3, st.2.1, rv.toList ++ st.2.2.1.drop (pm_na PT t), h1, sz1, sl1) r hk (by show sz1 ≤ 198; omega) ⟨q.1, fun v hv => by
                    rcases List.mem_append.mp hv with hv | hv
                    · exact a1 v (by simpa using hv)
                    · exact nrS_drop q.2.1 v hv, a2⟩ h
                  exact ⟨b1, fun a ha => (b3 a ha).trans (a3 a ha)⟩
                · cases e2
              · cases e2
            · obtain ⟨a1, a2⟩ := nq_simple hB n1 q e2
              have hz := sz_simple ((hS k _ i len hk ei).1) e2
              have hz1 : st'.2.2.2.2.1 = st.2.2.2.2.1 := congrArg (fun q : Nat × Nat => q.1) hz
              obtain ⟨b1, b3⟩ := nq_run hK hS n fr lo k st' r hk (by omega) a1 h
              exact ⟨b1, fun a ha => (b3 a ha).trans (a2 a ha)⟩
          · cases e2
      · cases h
/-- by the typing: what the fields outside of G lead to -/
def nq_tc (A : Nat → Bool) (G : Nat → Nat → Bool) (c : ac) : Bool := match c with
  | .inr (ci, as) => (List.range as.length).all (fun f => G ci f || (match as[f]? with
    | some a => (Nat.beq a.1 2 && (av_ids a).all (fun p => !(A p))) || !(Nat.beq a.1 2)
    | none => true))
  | .inl (_, n, a) => (List.range n).all (fun j => (Nat.beq (aq a j).1 2 && (av_ids (aq a j)).all (fun p => !(A p))) || !(Nat.beq (aq a j).1 2))
theorem nq_av {v : Value} {a : av} (hv : av_ok v a) (ha : ((Nat.beq a.1 2 && (av_ids a).all (fun p => !(A p))) || !(Nat.beq a.1 2)) = true) : nrv A v := by
  intro p e
  subst e
  obtain ⟨h1, h2⟩ := hv
  rw [h1] at ha
  have ha : (((av_ids a).all (fun p => !(A p))) || false) = true := ha
  rw [Bool.or_false] at ha
  have := List.all_eq_true.mp ha p h2
  simpa using this
theorem nq_ty (tb : (List.range 198).all (fun i => A i || nq_tc A G (bB i)) = true) (hh : ah_ok bB 198 [] h) : nqH A G h := by
  refine ⟨fun i ci fs hi hA e f v hv hG => ?_, fun i kd n f hi hA e j hj => ?_⟩
  · have h0 := hh i hi
    have hb := List.all_eq_true.mp tb i (List.mem_range.mpr hi)
    rw [hA, Bool.false_or] at hb
    rw [show ah_get bB [] i = bB i from rfl, e] at h0
    cases hB : bB i with
    | inl q =>
      rw [hB] at h0
      exact h0.elim
    | inr q =>
      obtain ⟨ci', as⟩ := q
      rw [hB] at h0 hb
      obtain ⟨⟨h1, -⟩, h2, h3⟩ := h0
      subst h1
      have hf : f < as.length := by rw [← h2]; exact (List.getElem?_eq_some_iff.mp hv).1
      have hq := List.all_eq_true.mp hb f (List.mem_range.mpr hf)
      rw [hG, Bool.false_or, List.getElem?_eq_getElem hf] at hq
      exact nq_av (h3 f v _ hv (List.getElem?_eq_getElem hf)) hq
  · have h0 := hh i hi
    have hb := List.all_eq_true.mp tb i (List.mem_range.mpr hi)
    rw [hA, Bool.false_or] at hb
    rw [show ah_get bB [] i = bB i from rfl, e] at h0
    cases hB : bB i with
    | inl q =>
      obtain ⟨kd', n', a⟩ := q
      rw [hB] at h0 hb
      obtain ⟨h1, h2, h3⟩ := h0
      subst h2
      exact nq_av (h3 j hj) (List.all_eq_true.mp hb j (List.mem_range.mpr hj))
    | inr q =>
      rw [hB] at h0
      exact h0.elim
/-- the ruling rule's cells -/
def ruA (o a : Nat) : Bool := Nat.beq a o || (Nat.beq a (o + 1) || Nat.beq a (o + 2))
def ruG2 (ci f : Nat) : Bool := Nat.beq ci 10 && (Nat.beq f 8 || Nat.beq f 9)
def rdN : List Nat := [58, 59, 60, 61, 62, 63, 64, 65, 66, 67, 80, 81]
def rdK (k : Nat) : Bool := rdN.any (fun x => Nat.beq x k)
theorem rdK_in (k : Nat) (h : rdK k = true) : k ∈ rdN := by
  obtain ⟨x, hx, e⟩ := List.any_eq_true.mp h
  rw [← Nat.eq_of_beq_eq_true e]
  exact hx
def rdP (ci f : Nat) : Bool := Nat.beq ci 10 || (Nat.beq ci 8 || (Nat.beq ci 3 && Nat.beq f 0))
theorem rd_sf : sf_ok rdP rdK := sf_of rdK_in (by decide +kernel)
theorem rd_nr : nr_ok ruG2 rdK := nr_of rdK_in (by decide +kernel)
theorem ruT_a : (List.range 198).all (fun i => ruA 142 i || nq_tc (ruA 142) ruG2 (bB i)) = true := by decide +kernel
theorem ruT_b : (List.range 198).all (fun i => ruA 145 i || nq_tc (ruA 145) ruG2 (bB i)) = true := by decide +kernel
/-- the reader of rules leaves the other rule -/
theorem rdc_keep {n fr lo sl o o8 : Nat} {h : pm_H} {R : pm_Rs} (ho : (o = 142 ∧ o8 = 145) ∨ (o = 145 ∧ o8 = 142)) (hh : ah_ok bB 198 [] h) (hr : pm_run PT n fr lo 58 (0, pm_l0 [.ref o] 2, [], h, 198, sl) = some R) : ∀ a, ruA o8 a = true → R.2.1 a = h a := by
  have hb : (List.range 198).all (fun i => ruA o8 i || nq_tc (ruA o8) ruG2 (bB i)) = true := by
    rcases ho with ⟨-, rfl⟩ | ⟨-, rfl⟩
    · exact ruT_b
    · exact ruT_a
  have hA : ruA o8 o = false := by
    rcases ho with ⟨rfl, rfl⟩ | ⟨rfl, rfl⟩ <;> rfl
  refine (nq_run rd_nr rd_sf n fr lo 58 _ R rfl (Nat.le_refl _) ⟨nrL_l0 ?_, fun v hv => absurd hv (by simp), nq_ty hb hh⟩ hr).2
  exact nrS_cons.mpr ⟨fun p e => by cases e; exact hA, fun v hv => absurd hv (by simp)⟩
end NQQ
/-! the codes look at the text alone -/
section PRC
variable {f g : Nat → Int32} {t : Nat}
theorem nbr_cg (hf : ∀ j, j < t → f j = g j) : ∀ (k p : Nat) (v : Int32), nbr f t k p v = nbr g t k p v
  | 0, _, _ => rfl
  | k + 1, p, v => by
    show cond (dg f p t) (nbr f t k (p + 1) (10 * v + f p - 48)) (p, v) = cond (dg g p t) (nbr g t k (p + 1) (10 * v + g p - 48)) (p, v)
    rw [dg_cg hf, nbr_cg hf k]
    by_cases z : p < t
    · rw [hf p z]
    · have e : dg g p t = false := by
        unfold dg
        rw [decide_eq_false z, Bool.false_and]
      rw [e]
      rfl
theorem rth_cg {sc : Nat → List Int32} (hf : ∀ j, j < t → f j = g j) (q : Nat) : rth sc f t q = rth sc g t q := by
  unfold rth
  rw [dg_cg hf, nbr_cg hf, an_cg (b := zlet) hf]
  by_cases z : q < t
  · rw [hf q z]
  · rw [decide_eq_false z, Bool.false_and]
    rfl
theorem rlp_cg {sc : Nat → List Int32} {st : Nat → Bool × Nat} {o : Nat} (hf : ∀ j, j < t → f j = g j) : ∀ (k p : Nat), rlp sc st f t o k p = rlp sc st g t o k p
  | 0, _ => rfl
  | k + 1, p => by
    show cond (decide (p < t) && zlev o (f p)) (sc (p + 1) ++ rop o (f p) :: rlp sc st f t o k (st (p + 1)).2) [] = cond (decide (p < t) && zlev o (g p)) (sc (p + 1) ++ rop o (g p) :: rlp sc st g t o k (st (p + 1)).2) []
    rw [an_cg (b := zlev o) hf, rlp_cg hf k]
    by_cases z : p < t
    · rw [hf p z]
    · rw [decide_eq_false z, Bool.false_and]
      rfl
theorem pr_cg (hf : ∀ j, j < t → f j = g j) : ∀ (m o ns : Nat), pr f t m o ns = pr g t m o ns
  | 0, _, _ => rfl
  | m + 1, o, ns => by
    funext p
    show cond (Nat.ble 3 o) (rth (pr f t m 0 (ns + 1)) f t (zmi f t 40 p) ++ List.replicate (zmi f t 40 p - p) (nI 3000)) (pr f t m (o + 1) ns p ++ rlp (pr f t m (o + 1) ns) (pz f t m (o + 1) ns) f t o (cond (Nat.beq o 0) 1 40) (pz f t m (o + 1) ns p).2) = cond (Nat.ble 3 o) (rth (pr g t m 0 (ns + 1)) g t (zmi g t 40 p) ++ List.replicate (zmi g t 40 p - p) (nI 3000)) (pr g t m (o + 1) ns p ++ rlp (pr g t m (o + 1) ns) (pz g t m (o + 1) ns) g t o (cond (Nat.beq o 0) 1 40) (pz g t m (o + 1) ns p).2)
    rw [pr_cg hf m 0 (ns + 1), pr_cg hf m (o + 1) ns, pz_cg hf m (o + 1) ns, rth_cg hf, zmi_cg hf, rlp_cg hf]
end PRC
/-! rule of both sides with the codes -/
section RUC
variable {n fr lo sl n0 cc o o8 p : Nat} {h h1 h2 : pm_H} {R : pm_Rs} {f g tp : Nat → Int32} {v w : Int32} {cs : List Int32}
/-- the code of no text -/
def ds0 : List Int32 := [Int32.ofInt (-119), Int32.ofInt (-107), Int32.ofInt (-42), nI 5, Int32.ofInt (-47)]
def dsX (f : Nat → Int32) (n0 : Nat) : List Int32 := if n0 = 0 then ds0 else pc f (min n0 40) 20 0 0 0
def esM (f : Nat → Int32) (n0 : Nat) : List Int32 := if n0 = 0 then [] else pr f (min n0 40) 20 0 0 0
/-- the text is a rule -/
def zK (f : Nat → Int32) (n0 : Nat) : Bool := decide (n0 = 0) || ((pz f (min n0 40) 20 0 0 0).1 && decide ((pz f (min n0 40) 20 0 0 0).2 = n0))
theorem zK_F (z : zK f n0 = true) : zF f n0 = Int32.ofInt (-1) := by
  unfold zK at z
  unfold zF
  by_cases y : n0 = 0
  · rw [if_pos y]
  · rw [if_neg y]
    rw [decide_eq_false y, Bool.false_or] at z
    rw [z]
    rfl
theorem zK_A (z : zK f n0 = true) : zA f n0 = Int32.ofInt 0 := by
  unfold zK at z
  unfold zA
  by_cases y : n0 = 0
  · rw [if_pos y]
  · rw [if_neg y]
    rw [decide_eq_false y, Bool.false_or] at z
    rw [z]
    rfl
theorem zK_nF (z : zK f n0 = false) : ∃ p, p ≤ 40 ∧ zF f n0 = nI p ∧ zA f n0 = Int32.ofInt (-1) - nI p := by
  unfold zK at z
  unfold zA zF
  rw [Bool.or_eq_false_iff] at z
  have y : ¬ n0 = 0 := of_decide_eq_false z.1
  rw [if_neg y, if_neg y, z.2]
  have hle := pz_le (f := f) (t := min n0 40) 20 0 0 0 (by omega)
  exact ⟨_, by omega, rfl, rfl⟩
theorem em_k (ho : oOk2 o) (hl0 : cs.length < 40) (q : kX h o cs) (hh : pm_run PT n fr lo 60 (0, pm_l0 [.ref o, .int v] 2, [], h, 198, sl) = some R) : R.1 = none ∧ kX R.2.1 o (cs ++ [v]) ∧ R.2.2 = (198, sl) := by
  refine ⟨vd_run rfl hh, ?_, sz_run rd_sf _ _ _ 60 _ R rfl hh⟩
  obtain ⟨rs, C, k1, k2, k3, k4, k5⟩ := q
  obtain ⟨n, hh⟩ := rn_i rfl rfl rfl rfl hh
  obtain ⟨n, hh⟩ := rn_gfo (g := 1) rfl rfl ho.1.1 k1 k3 hh
  obtain ⟨n, hh⟩ := rn_i rfl rfl rfl rfl hh
  have hh : pm_run PT n fr lo 60 (6, [some (.ref o), some (.int v)], [.int (nI 40), .int (nI cs.length)], h, 198, sl) = some R := hh
  obtain ⟨n, hh⟩ := rn_icmp (cc := .ge) (off := 23) (t := 29) rfl rfl hh
  rw [hI_ge (by omega) (by omega), decide_eq_false (by omega)] at hh
  have hh : pm_run PT n fr lo 60 (9, [some (.ref o), some (.int v)], [], h, 198, sl) = some R := hh
  obtain ⟨n, hh⟩ := rn_i rfl rfl rfl rfl hh
  obtain ⟨n, hh⟩ := rn_gfo (g := 0) rfl rfl ho.1.1 k1 k2 hh
  obtain ⟨n, hh⟩ := rn_i rfl rfl rfl rfl hh
  obtain ⟨n, hh⟩ := rn_gfo (g := 1) rfl rfl ho.1.1 k1 k3 hh
  obtain ⟨n, hh⟩ := rn_i rfl rfl rfl rfl hh
  have hh : pm_run PT n fr lo 60 (18, [some (.ref o), some (.int v)], [.int v, .int (nI cs.length), .ref (o + 1)], h, 198, sl) = some R := hh
  obtain ⟨n, hh⟩ := rn_ism rfl k4 (hI_in (by omega) (by decide)) ho.2.1 hh
  rw [nI_clamp (by omega)] at hh
  have j1 : aset h (o + 1) 40 (upd C cs.length v) o = .inr (6, rs) := (asR_ne (by omega)).trans k1
  have hh : pm_run PT n fr lo 60 (19, [some (.ref o), some (.int v)], [], aset h (o + 1) 40 (upd C cs.length v), 198, sl) = some R := hh
  obtain ⟨n, hh⟩ := rn_i rfl rfl rfl rfl hh
  obtain ⟨n, hh⟩ := rn_i rfl rfl rfl rfl hh
  obtain ⟨n, hh⟩ := rn_gfo (g := 1) rfl rfl ho.1.1 j1 k3 hh
  obtain ⟨n, hh⟩ := rn_i rfl rfl rfl rfl hh
  obtain ⟨n, hh⟩ := rn_i rfl rfl rfl rfl hh
  have hh : pm_run PT n fr lo 60 (26, [some (.ref o), some (.int v)], [.int (nI cs.length + nI 1), .ref o], aset h (o + 1) 40 (upd C cs.length v), 198, sl) = some R := hh
  rw [nI_add] at hh
  obtain ⟨n, hh⟩ := rn_i rfl rfl rfl (pf_eq (f := 1) rfl rfl (by decide) ho.1.1 j1 k3) hh
  have e := rn_vret rfl rfl hh
  rw [e]
  dsimp only
  refine ⟨rs.set 1 (.int (nI (cs.length + 1))), upd C cs.length v, by simp [va_up], ?_, ?_, ?_, fun j hj => ?_⟩
  · rw [List.getElem?_set_ne (by decide)]
    exact k2
  · rw [List.getElem?_set_self (List.getElem?_eq_some_iff.mp k3).1, List.length_append]
    rfl
  · rw [show va_up (aset h (o + 1) 40 (upd C cs.length v)) o (.inr (6, rs.set 1 (.int (nI (cs.length + 1))))) (o + 1) = aset h (o + 1) 40 (upd C cs.length v) (o + 1) from if_neg (by omega)]
    exact asR_self
  · rw [List.length_append] at hj
    have hj : j < cs.length + 1 := hj
    unfold upd
    by_cases z : j = cs.length
    · subst z
      rw [if_pos rfl, List.getElem?_append_right (Nat.le_refl _), Nat.sub_self]
      rfl
    · rw [if_neg z, List.getElem?_append_left (by omega)]
      exact k5 j (by omega)
/-- the rule of no text -/
theorem bf_run (ho : oOk2 o) {rs : List Value} {C0 : Nat → Int32} {s1 : Int32} (e0 : h o = .inr (6, rs)) (er : rs[0]? = some (.ref (o + 1))) (es : rs[1]? = some (.int s1)) (eC : h (o + 1) = .inl (0, 40, .inl C0)) (hh : pm_run PT n fr lo 59 (0, pm_l0 [.ref o] 1, [], h, 198, sl) = some R) : R.1 = none ∧ kX R.2.1 o ds0 ∧ R.2.2 = (198, sl) := by
  have hz := sz_run rd_sf _ _ _ 59 _ R rfl hh
  refine ⟨vd_run rfl hh, ?_, hz⟩
  obtain ⟨n, hh⟩ := rn_i rfl rfl rfl rfl hh
  obtain ⟨n, hh⟩ := rn_i rfl rfl rfl rfl hh
  obtain ⟨n, hh⟩ := rn_i rfl rfl rfl (pf_eq (f := 1) rfl rfl (by decide) ho.1.1 e0 es) hh
  have hh : pm_run PT n fr lo 59 (5, [some (.ref o)], [], va_up h o (.inr (6, rs.set 1 (.int (nI 0)))), 198, sl) = some R := hh
  have k0 : kX (va_up h o (.inr (6, rs.set 1 (.int (nI 0))))) o [] := by
    refine ⟨rs.set 1 (.int (nI 0)), C0, by simp [va_up], ?_, ?_, ?_, fun j hj => absurd hj (by simp)⟩
    · rw [List.getElem?_set_ne (by decide)]
      exact er
    · rw [List.getElem?_set_self (List.getElem?_eq_some_iff.mp es).1]
      rfl
    · rw [show va_up h o (.inr (6, rs.set 1 (.int (nI 0)))) (o + 1) = h (o + 1) from if_neg (by omega)]
      exact eC
  generalize va_up h o (.inr (6, rs.set 1 (.int (nI 0)))) = g0 at hh k0
  have hh : pm_run PT n fr lo 59 (5, [some (.ref o)], [], g0, 198, sl) = some R := hh
  obtain ⟨n, hh⟩ := rn_i rfl rfl rfl rfl hh
  obtain ⟨n, hh⟩ := rn_i rfl rfl rfl rfl hh
  have hh : pm_run PT n fr lo 59 (8, [some (.ref o)], [.int (Int32.ofInt (-119)), .ref o], g0, 198, sl) = some R := hh
  obtain ⟨n, fr', lo', r1, hr1, hh⟩ := rn_call (w := 0) (t := 60) rfl rfl hh
  obtain ⟨a1, k1, a3⟩ := em_k (v := Int32.ofInt (-119)) ho (by decide) k0 hr1
  obtain ⟨rv, g1, s2⟩ := r1
  dsimp only at a1 k1 a3
  subst a1
  subst a3
  have hh : pm_run PT n fr lo 59 (11, [some (.ref o)], [], g1, 198, sl) = some R := hh
  obtain ⟨n, hh⟩ := rn_i rfl rfl rfl rfl hh
  obtain ⟨n, hh⟩ := rn_i rfl rfl rfl rfl hh
  have hh : pm_run PT n fr lo 59 (14, [some (.ref o)], [.int (Int32.ofInt (-107)), .ref o], g1, 198, sl) = some R := hh
  obtain ⟨n, fr', lo', r1, hr1, hh⟩ := rn_call (w := 0) (t := 60) rfl rfl hh
  obtain ⟨a1, k2, a3⟩ := em_k (v := Int32.ofInt (-107)) ho (by decide) k1 hr1
  obtain ⟨rv, g2, s2⟩ := r1
  dsimp only at a1 k2 a3
  subst a1
  subst a3
  have hh : pm_run PT n fr lo 59 (17, [some (.ref o)], [], g2, 198, sl) = some R := hh
  obtain ⟨n, hh⟩ := rn_i rfl rfl rfl rfl hh
  obtain ⟨n, hh⟩ := rn_i rfl rfl rfl rfl hh
  have hh : pm_run PT n fr lo 59 (20, [some (.ref o)], [.int (Int32.ofInt (-42)), .ref o], g2, 198, sl) = some R := hh
  obtain ⟨n, fr', lo', r1, hr1, hh⟩ := rn_call (w := 0) (t := 60) rfl rfl hh
  obtain ⟨a1, k3, a3⟩ := em_k (v := Int32.ofInt (-42)) ho (by decide) k2 hr1
  obtain ⟨rv, g3, s2⟩ := r1
  dsimp only at a1 k3 a3
  subst a1
  subst a3
  have hh : pm_run PT n fr lo 59 (23, [some (.ref o)], [], g3, 198, sl) = some R := hh
  obtain ⟨n, hh⟩ := rn_i rfl rfl rfl rfl hh
  obtain ⟨n, hh⟩ := rn_i rfl rfl rfl rfl hh
  have hh : pm_run PT n fr lo 59 (25, [some (.ref o)], [.int (nI 5), .ref o], g3, 198, sl) = some R := hh
  obtain ⟨n, fr', lo', r1, hr1, hh⟩ := rn_call (w := 0) (t := 60) rfl rfl hh
  obtain ⟨a1, k4, a3⟩ := em_k (v := nI 5) ho (by decide) k3 hr1
  obtain ⟨rv, g4, s2⟩ := r1
  dsimp only at a1 k4 a3
  subst a1
  subst a3
  have hh : pm_run PT n fr lo 59 (28, [some (.ref o)], [], g4, 198, sl) = some R := hh
  obtain ⟨n, hh⟩ := rn_i rfl rfl rfl rfl hh
  obtain ⟨n, hh⟩ := rn_i rfl rfl rfl rfl hh
  have hh : pm_run PT n fr lo 59 (31, [some (.ref o)], [.int (Int32.ofInt (-47)), .ref o], g4, 198, sl) = some R := hh
  obtain ⟨n, fr', lo', r1, hr1, hh⟩ := rn_call (w := 0) (t := 60) rfl rfl hh
  obtain ⟨a1, k5, a3⟩ := em_k (v := Int32.ofInt (-47)) ho (by decide) k4 hr1
  obtain ⟨rv, g5, s2⟩ := r1
  dsimp only at a1 k5 a3
  subst a1
  subst a3
  have hh : pm_run PT n fr lo 59 (34, [some (.ref o)], [], g5, 198, sl) = some R := hh
  have e := rn_vret rfl rfl hh
  rw [e]
  exact k5
theorem rdc_run {w5 : Value} (ho : oOk2 o) (hn : n0 ≤ 80) (px : pX h n0 cc f) {rs : List Value} {C0 : Nat → Int32} (er : rs[0]? = some (.ref (o + 1))) (eC : h (o + 1) = .inl (0, 40, .inl C0)) (e0 : h o = .inr (6, rs)) (e4 : rs[4]? = some (.ref 1)) (e5 : rs[5]? = some w5) {s1 : Int32} (es : rs[1]? = some (.int s1)) (hh : pm_run PT n fr lo 58 (0, pm_l0 [.ref o] 2, [], h, 198, sl) = some R) : R.1 = some (.int (zF f n0)) ∧ R.2.2 = (198, sl) ∧ (zK f n0 = true → kX R.2.1 o (dsX f n0)) := by
  obtain ⟨px0, ⟨gs, b1, b2, b3⟩, px2⟩ := id px
  obtain ⟨n, hh⟩ := rn_i rfl rfl rfl rfl hh
  obtain ⟨n, hh⟩ := rn_gfo (g := 4) rfl rfl ho.1.1 e0 e4 hh
  obtain ⟨n, hh⟩ := rn_gfo (g := 1) rfl rfl (by decide) b1 b3 hh
  have hh : pm_run PT n fr lo 58 (7, [some (.ref o), none], [.int (nI n0)], h, 198, sl) = some R := hh
  obtain ⟨n, hh⟩ := rn_if (cc := .ne) (off := 9) (t := 16) rfl rfl hh
  unfold zF zK dsX
  by_cases z : n0 = 0
  · rw [if_pos z, if_pos z]
    have ec : pm_cmp .ne (nI n0) 0 = false := by rw [z]; decide
    rw [ec] at hh
    have hh : pm_run PT n fr lo 58 (10, [some (.ref o), none], [], h, 198, sl) = some R := hh
    obtain ⟨n, hh⟩ := rn_i rfl rfl rfl rfl hh
    obtain ⟨n, fr', lo', r1, hr1, hh⟩ := rn_call (w := 0) (t := 59) rfl rfl hh
    obtain ⟨hv, kk, hz⟩ := bf_run ho e0 er es eC hr1
    obtain ⟨rv, h2, s2⟩ := r1
    dsimp only at hz hv kk
    subst hz
    subst hv
    have hh : pm_run PT n fr lo 58 (14, [some (.ref o), none], [], h2, 198, sl) = some R := hh
    obtain ⟨n, hh⟩ := rn_i rfl rfl rfl rfl hh
    have e := (rn_ret rfl (Or.inl rfl) hh).2
    rw [e]
    exact ⟨rfl, rfl, fun _ => kk⟩
  · rw [if_neg z, if_neg z, decide_eq_false z, Bool.false_or]
    have ec : pm_cmp .ne (nI n0) 0 = true := decide_eq_true (fun e => by
      have e := congrArg Int32.toInt e
      rw [nI_toInt (by omega), show (0 : Int32).toInt = 0 by decide] at e
      omega)
    rw [ec] at hh
    have hh : pm_run PT n fr lo 58 (16, [some (.ref o), none], [], h, 198, sl) = some R := hh
    obtain ⟨n, hh⟩ := rn_i rfl rfl rfl rfl hh
    obtain ⟨n, hh⟩ := rn_i rfl rfl rfl rfl hh
    obtain ⟨n, hh⟩ := rn_i rfl rfl rfl (pf_eq (f := 5) rfl rfl (by decide) ho.1.1 e0 e5) hh
    have hh : pm_run PT n fr lo 58 (21, [some (.ref o), none], [], (va_up h o (.inr (6, rs.set 5 (.int (nI 0))))), 198, sl) = some R := hh
    have q2 := qX_mk (p' := 0) ho.1 e0 e4 e5 px
    have f0 : va_up h o (.inr (6, rs.set 5 (.int (nI 0)))) o = .inr (6, rs.set 5 (.int (nI 0))) := by simp [va_up]
    have fs1 : (rs.set 5 (.int (nI 0)))[1]? = some (.int s1) := by
      rw [List.getElem?_set_ne (by decide)]
      exact es
    have fr0 : (rs.set 5 (.int (nI 0)))[0]? = some (.ref (o + 1)) := by
      rw [List.getElem?_set_ne (by decide)]
      exact er
    have fC : va_up h o (.inr (6, rs.set 5 (.int (nI 0)))) (o + 1) = .inl (0, 40, .inl C0) := by
      rw [show va_up h o (.inr (6, rs.set 5 (.int (nI 0)))) (o + 1) = h (o + 1) from if_neg (by omega)]
      exact eC
    generalize va_up h o (.inr (6, rs.set 5 (.int (nI 0)))) = h2 at hh q2 f0 fC
    generalize rs.set 5 (.int (nI 0)) = r2 at f0 fs1 fr0
    have hh : pm_run PT n fr lo 58 (21, [some (.ref o), none], [], h2, 198, sl) = some R := hh
    obtain ⟨n, hh⟩ := rn_i rfl rfl rfl rfl hh
    obtain ⟨n, hh⟩ := rn_i rfl rfl rfl rfl hh
    obtain ⟨n, hh⟩ := rn_i rfl rfl rfl (pf_eq (f := 1) rfl rfl (by decide) ho.1.1 f0 fs1) hh
    have hh : pm_run PT n fr lo 58 (26, [some (.ref o), none], [], (va_up h2 o (.inr (6, r2.set 1 (.int (Int32.ofInt 0))))), 198, sl) = some R := hh
    have q3 := qX_sz (w := .int (Int32.ofInt 0)) ho.1 f0 q2
    have k3 : kX (va_up h2 o (.inr (6, r2.set 1 (.int (Int32.ofInt 0))))) o [] := by
      refine ⟨r2.set 1 (.int (Int32.ofInt 0)), C0, by simp [va_up], ?_, ?_, ?_, fun j hj => absurd hj (by simp)⟩
      · rw [List.getElem?_set_ne (by decide)]
        exact fr0
      · rw [List.getElem?_set_self (List.getElem?_eq_some_iff.mp fs1).1]
        rfl
      · rw [show va_up h2 o (.inr (6, r2.set 1 (.int (Int32.ofInt 0)))) (o + 1) = h2 (o + 1) from if_neg (by omega)]
        exact fC
    generalize va_up h2 o (.inr (6, r2.set 1 (.int (Int32.ofInt 0)))) = h3 at hh q3 k3
    have hh : pm_run PT n fr lo 58 (26, [some (.ref o), none], [], h3, 198, sl) = some R := hh
    obtain ⟨n, hh⟩ := rn_i rfl rfl rfl rfl hh
    obtain ⟨n, hh⟩ := rn_i rfl rfl rfl rfl hh
    obtain ⟨n, hh⟩ := rn_i rfl rfl rfl rfl hh
    have hh : pm_run PT n fr lo 58 (29, [some (.ref o), none], [.int (nI 0), .int (nI 0), .ref o], h3, 198, sl) = some R := hh
    obtain ⟨n, fr', lo', r1, hr1, hh⟩ := rn_call (w := 0) (t := 62) rfl rfl hh
    obtain ⟨c1, c2, c3, c4⟩ := cC_all ho hn 20 0 0 0 _ _ _ _ h3 _ [] (by omega) (by omega) (by omega) (by omega) (by simp) ⟨q3, k3⟩ hr1
    obtain ⟨rv, h4, s4⟩ := r1
    dsimp only at c1 c2 c3 c4
    subst c1
    subst c3
    have hh : pm_run PT n fr lo 58 (32, [some (.ref o), none], [.int (cond (pz f (min n0 40) 20 0 0 0).1 1 0)], h4, 198, sl) = some R := hh
    have hle := pz_le (f := f) (t := min n0 40) 20 0 0 0 (by omega)
    generalize pz f (min n0 40) 20 0 0 0 = r at *
    generalize pc f (min n0 40) 20 0 0 0 = dd at *
    obtain ⟨rb, rp⟩ := r
    dsimp only at c2 c4 hle hh ⊢
    have hh : pm_run PT n fr lo 58 (32, [some (.ref o), none], [.int (cond rb 1 0)], h4, 198, sl) = some R := hh
    obtain ⟨n, hh⟩ := rn_if (cc := .eq) (off := 21) (t := 53) rfl rfl hh
    obtain ⟨⟨rs4, m0, m4, m5⟩, ⟨-, ⟨gs4, d1, d2, d3⟩, -⟩⟩ := id c2
    have bad : ∀ n : Nat, pm_run PT n fr lo 58 (53, [some (.ref o), none], [], h4, 198, sl) = some R → R.1 = some (.int (nI rp)) ∧ R.2.2 = (198, sl) := by
      intro n hh
      obtain ⟨n, hh⟩ := rn_i rfl rfl rfl rfl hh
      obtain ⟨n, hh⟩ := rn_i rfl rfl rfl rfl hh
      obtain ⟨n, hh⟩ := rn_i rfl rfl rfl rfl hh
      have hh : pm_run PT n fr lo 58 (56, [some (.ref o), some (.int 0)], [.int 0], h4, 198, sl) = some R := hh
      obtain ⟨n, hh⟩ := rn_if (cc := .eq) (off := 7) (t := 63) rfl rfl hh
      have hh : pm_run PT n fr lo 58 (63, [some (.ref o), some (.int 0)], [], h4, 198, sl) = some R := hh
      obtain ⟨n, hh⟩ := rn_i rfl rfl rfl rfl hh
      obtain ⟨n, hh⟩ := rn_gfo (g := 5) rfl rfl ho.1.1 m0 m5 hh
      have e := (rn_ret rfl (Or.inl rfl) hh).2
      rw [e]
      exact ⟨rfl, rfl⟩
    cases rb with
    | false => exact ⟨(bad n hh).1, (bad n hh).2, fun y => by cases y⟩
    | true =>
      have hh : pm_run PT n fr lo 58 (35, [some (.ref o), none], [], h4, 198, sl) = some R := hh
      obtain ⟨n, hh⟩ := rn_i rfl rfl rfl rfl hh
      obtain ⟨n, hh⟩ := rn_gfo (g := 5) rfl rfl ho.1.1 m0 m5 hh
      obtain ⟨n, hh⟩ := rn_i rfl rfl rfl rfl hh
      obtain ⟨n, hh⟩ := rn_gfo (g := 4) rfl rfl ho.1.1 m0 m4 hh
      obtain ⟨n, hh⟩ := rn_gfo (g := 1) rfl rfl (by decide) d1 d3 hh
      have hh : pm_run PT n fr lo 58 (46, [some (.ref o), none], [.int (nI n0), .int (nI rp)], h4, 198, sl) = some R := hh
      obtain ⟨n, hh⟩ := rn_icmp (cc := .ne) (off := 7) (t := 53) rfl rfl hh
      rw [hI_ne2 (by omega) (by omega)] at hh
      by_cases y : rp = n0
      · rw [decide_eq_true y]
        rw [decide_eq_false (fun q => q y)] at hh
        have hh : pm_run PT n fr lo 58 (49, [some (.ref o), none], [], h4, 198, sl) = some R := hh
        obtain ⟨n, hh⟩ := rn_i rfl rfl rfl rfl hh
        obtain ⟨n, hh⟩ := rn_i rfl rfl rfl rfl hh
        obtain ⟨n, hh⟩ := rn_i rfl rfl rfl rfl hh
        obtain ⟨n, hh⟩ := rn_i rfl rfl rfl rfl hh
        have hh : pm_run PT n fr lo 58 (56, [some (.ref o), some (.int 1)], [.int 1], h4, 198, sl) = some R := hh
        obtain ⟨n, hh⟩ := rn_if (cc := .eq) (off := 7) (t := 63) rfl rfl hh
        have hh : pm_run PT n fr lo 58 (59, [some (.ref o), some (.int 1)], [], h4, 198, sl) = some R := hh
        obtain ⟨n, hh⟩ := rn_i rfl rfl rfl rfl hh
        obtain ⟨n, hh⟩ := rn_i rfl rfl rfl rfl hh
        have e := (rn_ret rfl (Or.inl rfl) hh).2
        rw [e]
        exact ⟨rfl, rfl, fun _ => (c4 rfl).2⟩
      · rw [decide_eq_false y]
        rw [decide_eq_true y] at hh
        exact ⟨(bad n hh).1, (bad n hh).2, fun y => by cases y⟩
theorem kX_ne {h' : pm_H} (e1 : h' o = h o) (e2 : h' (o + 1) = h (o + 1)) (k : kX h o cs) : kX h' o cs := by
  obtain ⟨rs, C, k1, k2, k3, k4, k5⟩ := k
  exact ⟨rs, C, e1.trans k1, k2, k3, e2.trans k4, k5⟩
/-- rule of the class -/
theorem rlc_run (ho : (o = 142 ∧ o8 = 145) ∨ (o = 145 ∧ o8 = 142)) (hI : ah_ok bB 198 [] h) (hn : n0 ≤ 80) {fs rs : List Value} {w5 : Value} {C0 : Nat → Int32} {s1 : Int32} (k0 : h 0 = .inr (10, fs)) (k9 : fs[9]? = some (.ref o)) (k8 : fs[8]? = some (.ref o8)) (px : pX h n0 cc f) (er : rs[0]? = some (.ref (o + 1))) (eC : h (o + 1) = .inl (0, 40, .inl C0)) (e0 : h o = .inr (6, rs)) (e4 : rs[4]? = some (.ref 1)) (e5 : rs[5]? = some w5) (es : rs[1]? = some (.int s1)) (hh : pm_run PT n fr lo 90 (0, pm_l0 [.ref 0] 3, [], h, 198, sl) = some R) : (zK f n0 = true ∧ kX R.2.1 o (dsX f n0) ∧ ∃ fs', R.2.1 0 = .inr (10, fs') ∧ fs'[8]? = some (.ref o) ∧ fs'[9]? = some (.ref o8)) ∨ (zK f n0 = false ∧ (∃ fs', R.2.1 0 = .inr (10, fs') ∧ fs'[8]? = some (.ref o8) ∧ fs'[9]? = some (.ref o)) ∧ ∀ a, ruA o8 a = true → R.2.1 a = h a) := by
  have hok : oOk2 o := by
    rcases ho with ⟨rfl, -⟩ | ⟨rfl, -⟩
    · exact ⟨⟨by decide, by decide, by decide, by decide, by decide⟩, by decide, by decide, by decide, by decide, by decide⟩
    · exact ⟨⟨by decide, by decide, by decide, by decide, by decide⟩, by decide, by decide, by decide, by decide, by decide⟩
  have n8 : ∀ a, ruA o8 a = true → a ≠ 0 ∧ a ≠ 1 := by
    intro a e
    rcases ho with ⟨-, rfl⟩ | ⟨-, rfl⟩
    · refine ⟨fun y => ?_, fun y => ?_⟩ <;> (subst y; cases e)
    · refine ⟨fun y => ?_, fun y => ?_⟩ <;> (subst y; cases e)
  have no1 : o ≠ 0 ∧ o ≠ 1 ∧ o + 1 ≠ 0 ∧ o + 1 ≠ 1 := by
    rcases ho with ⟨rfl, -⟩ | ⟨rfl, -⟩ <;> decide
  obtain ⟨⟨fx, x0, x1, -⟩, ⟨gs, b1, b2, b3⟩, -⟩ := id px
  rw [k0] at x0
  cases x0
  obtain ⟨n, hh⟩ := rn_i rfl rfl rfl rfl hh
  obtain ⟨n, hh⟩ := rn_gfo (g := 9) rfl rfl (by decide) k0 k9 hh
  obtain ⟨n, fr', lo', r1, hr1, hh⟩ := rn_call (w := 0) (t := 58) rfl rfl hh
  obtain ⟨c1, c2, c3⟩ := rdc_run hok hn px er eC e0 e4 e5 es hr1
  have c4 := rdc_keep ho hI hr1
  have c5 : fm (sfF rdP) h r1.2.1 := sf_run rd_sf _ _ _ 58 _ r1 rfl hr1
  obtain ⟨rv, h2, s2⟩ := r1
  dsimp only at c1 c2 c3 c4 c5
  subst c1
  subst c2
  obtain ⟨f2, u0, -, u1⟩ := c5.2 0 10 fs k0
  obtain ⟨g2, y0, -, y1⟩ := c5.2 1 8 gs b1
  have u8 : f2[8]? = some (.ref o8) := (u1 8 rfl).trans k8
  have u9 : f2[9]? = some (.ref o) := (u1 9 rfl).trans k9
  have ux : f2[0]? = some (.ref 1) := (u1 0 rfl).trans x1
  have y3 : g2[1]? = some (.int (nI n0)) := (y1 1 rfl).trans b3
  have hh : pm_run PT n fr lo 90 (7, [some (.ref 0), none, none], [.int (zF f n0)], h2, 198, sl) = some R := hh
  generalize ez : zF f n0 = zz at hh
  have hh : pm_run PT n fr lo 90 (7, [some (.ref 0), none, none], [.int zz], h2, 198, sl) = some R := hh
  obtain ⟨n, hh⟩ := rn_i rfl rfl rfl rfl hh
  obtain ⟨n, hh⟩ := rn_i rfl rfl rfl rfl hh
  obtain ⟨n, hh⟩ := rn_gfo (g := 0) rfl rfl (by decide) u0 ux hh
  obtain ⟨n, hh⟩ := rn_i rfl rfl rfl rfl hh
  obtain ⟨n, hh⟩ := rn_i rfl rfl rfl (pf_eq (f := 1) rfl rfl (by decide) (by decide) y0 y3) hh
  have hh : pm_run PT n fr lo 90 (16, [some (.ref 0), some (.int zz), none], [], va_up h2 1 (.inr (8, g2.set 1 (.int (Int32.ofInt 0)))), 198, sl) = some R := hh
  have v0 : va_up h2 1 (.inr (8, g2.set 1 (.int (Int32.ofInt 0)))) 0 = .inr (10, f2) := by
    rw [show va_up h2 1 (.inr (8, g2.set 1 (.int (Int32.ofInt 0)))) 0 = h2 0 from if_neg (by decide)]
    exact u0
  have vne : ∀ a, a ≠ 1 → va_up h2 1 (.inr (8, g2.set 1 (.int (Int32.ofInt 0)))) a = h2 a := fun a ha => if_neg ha
  generalize va_up h2 1 (.inr (8, g2.set 1 (.int (Int32.ofInt 0)))) = h3 at hh v0 vne
  have hh : pm_run PT n fr lo 90 (16, [some (.ref 0), some (.int zz), none], [], h3, 198, sl) = some R := hh
  obtain ⟨n, hh⟩ := rn_i rfl rfl rfl rfl hh
  obtain ⟨n, hh⟩ := rn_if (cc := .lt) (off := 7) (t := 24) rfl rfl hh
  cases z : zK f n0 with
  | false =>
    right
    obtain ⟨p, p1, p2, -⟩ := zK_nF z
    have ez2 : zz = nI p := ez.symm.trans p2
    rw [ez2] at hh
    rw [lt0_val (by rw [nI_toInt (by omega)]; omega)] at hh
    have hh : pm_run PT n fr lo 90 (20, [some (.ref 0), some (.int (nI p)), none], [], h3, 198, sl) = some R := hh
    obtain ⟨n, hh⟩ := rn_i rfl rfl rfl rfl hh
    obtain ⟨n, hh⟩ := rn_i rfl rfl rfl rfl hh
    obtain ⟨n, hh⟩ := rn_i rfl rfl rfl rfl hh
    have e := (rn_ret rfl (Or.inl rfl) hh).2
    rw [e]
    exact ⟨rfl, ⟨f2, v0, u8, u9⟩, fun a ha => (vne a (n8 a ha).2).trans (c4 a ha)⟩
  | true =>
    left
    have ez2 : zz = Int32.ofInt (-1) := ez.symm.trans (zK_F z)
    rw [ez2] at hh
    rw [show pm_cmp .lt (Int32.ofInt (-1)) 0 = true by decide] at hh
    have hh : pm_run PT n fr lo 90 (24, [some (.ref 0), some (.int (Int32.ofInt (-1))), none], [], h3, 198, sl) = some R := hh
    obtain ⟨n, hh⟩ := rn_i rfl rfl rfl rfl hh
    obtain ⟨n, hh⟩ := rn_gfo (g := 8) rfl rfl (by decide) v0 u8 hh
    obtain ⟨n, hh⟩ := rn_i rfl rfl rfl rfl hh
    have hh : pm_run PT n fr lo 90 (29, [some (.ref 0), some (.int (Int32.ofInt (-1))), some (.ref o8)], [], h3, 198, sl) = some R := hh
    obtain ⟨n, hh⟩ := rn_i rfl rfl rfl rfl hh
    obtain ⟨n, hh⟩ := rn_i rfl rfl rfl rfl hh
    obtain ⟨n, hh⟩ := rn_gfo (g := 9) rfl rfl (by decide) v0 u9 hh
    obtain ⟨n, hh⟩ := rn_i rfl rfl rfl (pf_eq (f := 8) rfl rfl (by decide) (by decide) v0 u8) hh
    have hh : pm_run PT n fr lo 90 (37, [some (.ref 0), some (.int (Int32.ofInt (-1))), some (.ref o8)], [], va_up h3 0 (.inr (10, f2.set 8 (.ref o))), 198, sl) = some R := hh
    have w0 : va_up h3 0 (.inr (10, f2.set 8 (.ref o))) 0 = .inr (10, f2.set 8 (.ref o)) := if_pos rfl
    have w8 : (f2.set 8 (.ref o))[8]? = some (.ref o) := List.getElem?_set_self (List.getElem?_eq_some_iff.mp u8).1
    have w9 : (f2.set 8 (.ref o))[9]? = some (.ref o) := by
      rw [List.getElem?_set_ne (by decide)]
      exact u9
    have wne : ∀ a, a ≠ 0 → va_up h3 0 (.inr (10, f2.set 8 (.ref o))) a = h3 a := fun a ha => if_neg ha
    generalize va_up h3 0 (.inr (10, f2.set 8 (.ref o))) = h4 at hh w0 wne
    generalize f2.set 8 (.ref o) = f3 at w0 w8 w9
    have hh : pm_run PT n fr lo 90 (37, [some (.ref 0), some (.int (Int32.ofInt (-1))), some (.ref o8)], [], h4, 198, sl) = some R := hh
    obtain ⟨n, hh⟩ := rn_i rfl rfl rfl rfl hh
    obtain ⟨n, hh⟩ := rn_i rfl rfl rfl rfl hh
    obtain ⟨n, hh⟩ := rn_i rfl rfl rfl (pf_eq (f := 9) rfl rfl (by decide) (by decide) w0 w9) hh
    have hh : pm_run PT n fr lo 90 (42, [some (.ref 0), some (.int (Int32.ofInt (-1))), some (.ref o8)], [], va_up h4 0 (.inr (10, f3.set 9 (.ref o8))), 198, sl) = some R := hh
    obtain ⟨n, hh⟩ := rn_i rfl rfl rfl rfl hh
    have e := (rn_ret rfl (Or.inl rfl) hh).2
    rw [e]
    have e0 : va_up h4 0 (.inr (10, f3.set 9 (.ref o8))) 0 = .inr (10, f3.set 9 (.ref o8)) := if_pos rfl
    refine ⟨rfl, ?_, f3.set 9 (.ref o8), e0, ?_, List.getElem?_set_self (List.getElem?_eq_some_iff.mp w9).1⟩
    · refine kX_ne ?_ ?_ (c3 z)
      · show va_up h4 0 (.inr (10, f3.set 9 (.ref o8))) o = h2 o
        rw [show va_up h4 0 (.inr (10, f3.set 9 (.ref o8))) o = h4 o from if_neg no1.1, wne o no1.1, vne o no1.2.1]
      · show va_up h4 0 (.inr (10, f3.set 9 (.ref o8))) (o + 1) = h2 (o + 1)
        rw [show va_up h4 0 (.inr (10, f3.set 9 (.ref o8))) (o + 1) = h4 (o + 1) from if_neg no1.2.2.1, wne _ no1.2.2.1, vne _ no1.2.2.2]
    · rw [List.getElem?_set_ne (by decide)]
      exact w8
theorem rdn_run {x16 x17 x18 : Value} {c24 : Int32} {D0 : Nat → Int32} (h175 : h 175 = .inl (0, 80, .inl D0)) (hn : n0 ≤ 80) (h15 : mF h 15 (.int (nI n0))) (h16 : mF h 16 x16) (h17 : mF h 17 x17) (h18 : mF h 18 x18) (h24 : mF h 24 (.int c24)) (h14 : mF h 14 (.ref 172)) (hA : h 172 = .inl (0, 80, .inl tp)) (h22 : mF h 22 (.ref 175)) (hh : pm_run PT n fr lo 196 (0, pm_l0 [.ref 162] 3, [], h, 198, sl) = some R) : R.1 = some (.int (zA tp n0)) ∧ R.2.2 = (198, sl) ∧ (zK tp n0 = true → kN R.2.1 (esM tp n0)) := by
  obtain ⟨n, hh⟩ := rn_i rfl rfl rfl rfl hh
  obtain ⟨n, hh⟩ := rn_i rfl rfl rfl rfl hh
  have hh : pm_run PT n fr lo 196 (3, [some (.ref 162), none, none], [.int (nI 40), .ref 162], h, 198, sl) = some R := hh
  obtain ⟨n, fr', lo', r1, hr1, hh⟩ := rn_call (w := 0) (t := 180) rfl rfl hh
  have er := rn_dt (F := 10) (Lo := 1000) (hd_begins (fr := 10) (lo := 1000) (sl := sl) (m := 40) h15 h16 h17 h18 hn (by decide) (by decide) (by decide)) hr1
  subst er
  have mm : ∀ (g : Nat) (v : Value), g ≠ 15 → g ≠ 16 → g ≠ 18 → g ≠ 17 → mF h g v → mF (hbeg h n0 40) g v := fun g v a1 a2 a3 a4 q => mF_ne (Ne.symm a4) (mF_ne (Ne.symm a3) (mF_ne (Ne.symm a2) (mF_ne (Ne.symm a1) q)))
  have b24 := mm 24 _ (by decide) (by decide) (by decide) (by decide) h24
  have b22 := mm 22 _ (by decide) (by decide) (by decide) (by decide) h22
  have b14 := mm 14 _ (by decide) (by decide) (by decide) (by decide) h14
  have b16 : mF (hbeg h n0 40) 16 (.int (nI 0)) := mF_ne (by decide) (mF_ne (by decide) (mF_self (w := x16) (mF_ne (by decide) h16)))
  have b18 : mF (hbeg h n0 40) 18 (.int (nI 0)) := mF_ne (by decide) (mF_self (w := x18) (mF_ne (by decide) (mF_ne (by decide) h18)))
  have b17 : mF (hbeg h n0 40) 17 (.int (nI (min n0 40))) := mF_self (w := x17) (mF_ne (by decide) (mF_ne (by decide) (mF_ne (by decide) h17)))
  have b175 : hbeg h n0 40 175 = .inl (0, 80, .inl D0) := mset_arr (by decide) (mset_arr (by decide) (mset_arr (by decide) (mset_arr (by decide) h175)))
  have bA : hbeg h n0 40 172 = .inl (0, 80, .inl tp) := mset_arr (by decide) (mset_arr (by decide) (mset_arr (by decide) (mset_arr (by decide) hA)))
  have hh : pm_run PT n fr lo 196 (6, [some (.ref 162), none, none], [.int (nI n0)], (hbeg h n0 40), 198, sl) = some R := hh
  generalize hbeg h n0 40 = hb at hh b24 b22 b14 b16 b18 b17 bA b175
  have hh : pm_run PT n fr lo 196 (6, [some (.ref 162), none, none], [.int (nI n0)], hb, 198, sl) = some R := hh
  obtain ⟨n, hh⟩ := rn_i rfl rfl rfl rfl hh
  obtain ⟨n, hh⟩ := rn_i rfl rfl rfl rfl hh
  obtain ⟨n, hh⟩ := rn_i rfl rfl rfl rfl hh
  have hh : pm_run PT n fr lo 196 (9, [some (.ref 162), some (.int (nI n0)), none], [.int 0, .ref 162], hb, 198, sl) = some R := hh
  obtain ⟨n, hh⟩ := rn_pfm (w := .int c24) rfl rfl rfl (by decide) b24 hh
  have hh : pm_run PT n fr lo 196 (12, [some (.ref 162), some (.int (nI n0)), none], [], (mset hb 24 (.int (Int32.ofInt 0))), 198, sl) = some R := hh
  have q0 : qM (mset hb 24 (.int (Int32.ofInt 0))) 0 (min n0 40) tp := ⟨⟨mF_ne (by decide) b16, mF_ne (by decide) b17, mF_ne (by decide) b14, mset_arr (by decide) bA⟩, mF_ne (by decide) b22, _, mF_self b24⟩
  have k0 : kN (mset hb 24 (.int (Int32.ofInt 0))) [] := ⟨mF_self b24, D0, mset_arr (by decide) b175, fun j hj => absurd hj (by simp)⟩
  have g18 : mF (mset hb 24 (.int (Int32.ofInt 0))) 18 (.int (nI 0)) := mF_ne (by decide) b18
  generalize mset hb 24 (.int (Int32.ofInt 0)) = h2 at hh q0 g18 k0
  have hh : pm_run PT n fr lo 196 (12, [some (.ref 162), some (.int (nI n0)), none], [], h2, 198, sl) = some R := hh
  have fin : ∀ (n : Nat) (b : Bool) (p : Nat) (h3 : pm_H), p ≤ min n0 40 → qM h3 p (min n0 40) tp → pm_run PT n fr lo 196 (29, [some (.ref 162), some (.int (nI n0)), none], [.int (cond b 1 0)], h3, 198, sl) = some R → R.1 = some (.int (fO n0 40 (min n0 40) p b)) ∧ R.2.2 = (198, sl) ∧ R.2.1 = h3 := by
    intro n b p h3 hp q3 hh
    obtain ⟨n, hh⟩ := rn_i rfl rfl rfl rfl hh
    obtain ⟨n, hh⟩ := rn_i rfl rfl rfl rfl hh
    obtain ⟨n, hh⟩ := rn_i rfl rfl rfl rfl hh
    obtain ⟨n, hh⟩ := rn_i rfl rfl rfl rfl hh
    obtain ⟨n, hh⟩ := rn_i rfl rfl rfl rfl hh
    have hh : pm_run PT n fr lo 196 (35, [some (.ref 162), some (.int (nI n0)), some (.int (cond b 1 0))], [.int (cond b 1 0), .int (nI 40), .int (nI n0), .ref 162], h3, 198, sl) = some R := hh
    obtain ⟨n, fr', lo', r1, hr1, hh⟩ := rn_call (w := 0) (t := 186) rfl rfl hh
    have er := fo_run (m := 40) hn (by decide) (by omega) (by omega) q3.1.1 q3.1.2.1 hr1
    subst er
    have e := (rn_ret rfl (Or.inl rfl) hh).2
    rw [e]
    exact ⟨rfl, rfl, rfl⟩
  obtain ⟨n, hh⟩ := rn_i rfl rfl rfl rfl hh
  obtain ⟨n, hh⟩ := rn_if (cc := .eq) (off := 11) (t := 24) rfl rfl hh
  unfold zA zK esM
  by_cases z : n0 = 0
  · rw [if_pos z, if_pos z]
    have ec : pm_cmp .eq (nI n0) 0 = true := by rw [z]; decide
    rw [ec] at hh
    have hh : pm_run PT n fr lo 196 (24, [some (.ref 162), some (.int (nI n0)), none], [], h2, 198, sl) = some R := hh
    obtain ⟨n, hh⟩ := rn_i rfl rfl rfl rfl hh
    obtain ⟨n, hh⟩ := rn_i rfl rfl rfl rfl hh
    have e := fin n true 0 h2 (by omega) q0 hh
    have ef : fO n0 40 (min n0 40) 0 true = Int32.ofInt 0 := by
      rw [z]
      decide +kernel
    rw [ef] at e
    exact ⟨e.1, e.2.1, fun _ => by rw [e.2.2]; exact k0⟩
  · rw [if_neg z, if_neg z, decide_eq_false z, Bool.false_or]
    have ec : pm_cmp .eq (nI n0) 0 = false := decide_eq_false (fun e => by
      have e := congrArg Int32.toInt e
      rw [nI_toInt (by omega), show (0 : Int32).toInt = 0 by decide] at e
      omega)
    rw [ec] at hh
    have hh : pm_run PT n fr lo 196 (16, [some (.ref 162), some (.int (nI n0)), none], [], h2, 198, sl) = some R := hh
    obtain ⟨n, hh⟩ := rn_i rfl rfl rfl rfl hh
    obtain ⟨n, hh⟩ := rn_i rfl rfl rfl rfl hh
    have hh : pm_run PT n fr lo 196 (18, [some (.ref 162), some (.int (nI n0)), none], [.int (nI 0), .ref 162], h2, 198, sl) = some R := hh
    obtain ⟨n, fr', lo', r1, hr1, hh⟩ := rn_call (w := 0) (t := 195) rfl rfl hh
    obtain ⟨c1, c2, c3, c4⟩ := rN_all (t := min n0 40) (by omega) 20 0 0 0 _ _ _ _ h2 _ [] (by omega) (by omega) (by omega) (by omega) (by simp) ⟨q0, k0⟩ g18 hr1
    obtain ⟨rv, h4, s4⟩ := r1
    dsimp only at c1 c2 c3 c4
    subst c1
    subst c4
    have hle := pz_le (f := tp) (t := min n0 40) 20 0 0 0 (by omega)
    have hh : pm_run PT n fr lo 196 (21, [some (.ref 162), some (.int (nI n0)), none], [.int (cond (pz tp (min n0 40) 20 0 0 0).1 1 0)], h4, 198, sl) = some R := hh
    generalize pz tp (min n0 40) 20 0 0 0 = r at *
    generalize pr tp (min n0 40) 20 0 0 0 = dd at *
    obtain ⟨rb, rp⟩ := r
    dsimp only at c2 c3 hle hh ⊢
    have hh : pm_run PT n fr lo 196 (21, [some (.ref 162), some (.int (nI n0)), none], [.int (cond rb 1 0)], h4, 198, sl) = some R := hh
    obtain ⟨n, hh⟩ := rn_if (cc := .eq) (off := 7) (t := 28) rfl rfl hh
    have ef : fO n0 40 (min n0 40) rp rb = cond (rb && decide (rp = n0)) (Int32.ofInt 0) (Int32.ofInt (-1) - nI rp) := by
      unfold fO fO2
      generalize Int32.ofInt (-1) = m1
      cases rb with
      | false =>
        rw [Bool.false_and, Bool.false_and]
        by_cases y : 40 < n0 ∧ (false = true ∨ 40 ≤ rp)
        · rw [if_pos y]
          have : rp = 40 := by
            rcases y.2 with q | q
            · cases q
            · omega
          rw [this]
          rfl
        · rw [if_neg y]
      | true =>
        rw [Bool.true_and, Bool.true_and]
        by_cases y : 40 < n0
        · rw [decide_eq_false (show ¬ rp = n0 by omega)]
          by_cases x : rp = min n0 40
          · rw [decide_eq_true x, if_pos ⟨y, Or.inl rfl⟩]
            have : rp = 40 := by omega
            rw [this]
            rfl
          · rw [decide_eq_false x, if_neg (fun q => by
              rcases q.2 with q | q
              · cases q
              · omega)]
        · have ed : decide (rp = min n0 40) = decide (rp = n0) := by rw [show min n0 40 = n0 by omega]
          rw [ed, if_neg (fun q => y q.1)]
    rw [← ef]
    cases rb with
    | true =>
      have hh : pm_run PT n fr lo 196 (24, [some (.ref 162), some (.int (nI n0)), none], [], h4, 198, sl) = some R := hh
      obtain ⟨n, hh⟩ := rn_i rfl rfl rfl rfl hh
      obtain ⟨n, hh⟩ := rn_i rfl rfl rfl rfl hh
      have e := fin n true rp h4 hle c2 hh
      exact ⟨e.1, e.2.1, fun _ => by rw [e.2.2]; exact (c3 rfl).2.2⟩
    | false =>
      have hh : pm_run PT n fr lo 196 (28, [some (.ref 162), some (.int (nI n0)), none], [], h4, 198, sl) = some R := hh
      obtain ⟨n, hh⟩ := rn_i rfl rfl rfl rfl hh
      have e := fin n false rp h4 hle c2 hh
      exact ⟨e.1, e.2.1, fun y => by cases y⟩
/-- a code is laid -/
theorem lay_loop {m : Nat} {fr lo sl : Nat} {S : Nat → Int32} {w23 : Value} {R : pm_Rs} (hm : m ≤ 80) : ∀ (k i n : Nat) (D : Nat → Int32) (h : pm_H), i + k = m → h 174 = .inl (0, 80, .inl D) → h 175 = .inl (0, 80, .inl S) → mF h 21 (.ref 174) → mF h 23 w23 → (∀ j, j < i → D j = S j) → pm_run PT n fr lo 197 (7, [some (.ref 162), some (.ref 175), some (.int (nI m)), some (.int (nI i))], [], h, 198, sl) = some R → R.1 = none ∧ R.2.2 = (198, sl) ∧ mF R.2.1 23 w23 ∧ ∃ D', R.2.1 174 = .inl (0, 80, .inl D') ∧ ∀ j, j < m → D' j = S j
  | 0, i, n, D, h, hi, hD, hS, h21, h23, hj, hh => by
    have hi : i = m := hi
    subst hi
    obtain ⟨n, hh⟩ := rn_i rfl rfl rfl rfl hh
    obtain ⟨n, hh⟩ := rn_i rfl rfl rfl rfl hh
    obtain ⟨n, hh⟩ := rn_icmp (cc := .ge) (off := 18) (t := 27) rfl rfl hh
    rw [hI_ge (by omega) (by omega), decide_eq_true (Nat.le_refl _)] at hh
    have hh : pm_run PT n fr lo 197 (27, [some (.ref 162), some (.ref 175), some (.int (nI i)), some (.int (nI i))], [], h, 198, sl) = some R := hh
    have e := rn_vret rfl rfl hh
    rw [e]
    exact ⟨rfl, rfl, h23, D, hD, hj⟩
  | k + 1, i, n, D, h, hi, hD, hS, h21, h23, hj, hh => by
    obtain ⟨n, hh⟩ := rn_i rfl rfl rfl rfl hh
    obtain ⟨n, hh⟩ := rn_i rfl rfl rfl rfl hh
    obtain ⟨n, hh⟩ := rn_icmp (cc := .ge) (off := 18) (t := 27) rfl rfl hh
    rw [hI_ge (by omega) (by omega), decide_eq_false (by omega)] at hh
    have hh : pm_run PT n fr lo 197 (12, [some (.ref 162), some (.ref 175), some (.int (nI m)), some (.int (nI i))], [], h, 198, sl) = some R := hh
    obtain ⟨n, hh⟩ := rn_i rfl rfl rfl rfl hh
    obtain ⟨n, hh⟩ := rn_gfm rfl rfl h21 hh
    obtain ⟨n, hh⟩ := rn_i rfl rfl rfl rfl hh
    obtain ⟨n, hh⟩ := rn_i rfl rfl rfl rfl hh
    obtain ⟨n, hh⟩ := rn_i rfl rfl rfl rfl hh
    have hh : pm_run PT n fr lo 197 (19, [some (.ref 162), some (.ref 175), some (.int (nI m)), some (.int (nI i))], [.int (nI i), .ref 175, .int (nI i), .ref 174], h, 198, sl) = some R := hh
    obtain ⟨n, hh⟩ := rn_iam rfl hS (hI_in (by omega) (by decide)) (by decide) hh
    rw [nI_clamp (by omega)] at hh
    obtain ⟨n, hh⟩ := rn_ism rfl hD (hI_in (by omega) (by decide)) (by decide) hh
    rw [nI_clamp (by omega)] at hh
    have hh : pm_run PT n fr lo 197 (21, [some (.ref 162), some (.ref 175), some (.int (nI m)), some (.int (nI i))], [], aset h 174 80 (upd D i (S i)), 198, sl) = some R := hh
    have g174 : aset h 174 80 (upd D i (S i)) 174 = .inl (0, 80, .inl (upd D i (S i))) := asR_self
    have g175 : aset h 174 80 (upd D i (S i)) 175 = .inl (0, 80, .inl S) := (asR_ne (by decide)).trans hS
    have g162 : aset h 174 80 (upd D i (S i)) 162 = h 162 := asR_ne (by decide)
    have g21 : mF (aset h 174 80 (upd D i (S i))) 21 (.ref 174) := by
      obtain ⟨fs, a, b⟩ := h21
      exact ⟨fs, g162.trans a, b⟩
    have g23 : mF (aset h 174 80 (upd D i (S i))) 23 w23 := by
      obtain ⟨fs, a, b⟩ := h23
      exact ⟨fs, g162.trans a, b⟩
    generalize aset h 174 80 (upd D i (S i)) = g at hh g174 g175 g21 g23
    have hh : pm_run PT n fr lo 197 (21, [some (.ref 162), some (.ref 175), some (.int (nI m)), some (.int (nI i))], [], g, 198, sl) = some R := hh
    obtain ⟨n, hh⟩ := rn_i rfl rfl rfl rfl hh
    obtain ⟨n, hh⟩ := rn_i rfl rfl rfl rfl hh
    have hh : pm_run PT n fr lo 197 (7, [some (.ref 162), some (.ref 175), some (.int (nI m)), some (.int (nI i + Int32.ofInt 1))], [], g, 198, sl) = some R := hh
    rw [show nI i + Int32.ofInt 1 = nI (i + 1) from (Int32.ofNat_add i 1).symm] at hh
    refine lay_loop hm k (i + 1) n _ g (by omega) g174 g175 g21 g23 (fun j hjl => ?_) hh
    unfold upd
    by_cases y : j = i
    · rw [if_pos y, y]
    · rw [if_neg y]
      exact hj j (by omega)
theorem lay_run {m : Nat} {S D : Nat → Int32} {w23 : Value} (hm : m ≤ 80) (h23 : mF h 23 w23) (h21 : mF h 21 (.ref 174)) (hS : h 175 = .inl (0, 80, .inl S)) (hD : h 174 = .inl (0, 80, .inl D)) (hh : pm_run PT n fr lo 197 (0, pm_l0 [.ref 162, .ref 175, .int (nI m)] 4, [], h, 198, sl) = some R) : R.1 = none ∧ R.2.2 = (198, sl) ∧ mF R.2.1 23 (.int (nI m)) ∧ ∃ D', R.2.1 174 = .inl (0, 80, .inl D') ∧ ∀ j, j < m → D' j = S j := by
  obtain ⟨n, hh⟩ := rn_i rfl rfl rfl rfl hh
  obtain ⟨n, hh⟩ := rn_i rfl rfl rfl rfl hh
  have hh : pm_run PT n fr lo 197 (2, [some (.ref 162), some (.ref 175), some (.int (nI m)), none], [.int (nI m), .ref 162], h, 198, sl) = some R := hh
  obtain ⟨n, hh⟩ := rn_pfm (w := w23) rfl rfl rfl (by decide) h23 hh
  obtain ⟨n, hh⟩ := rn_i rfl rfl rfl rfl hh
  obtain ⟨n, hh⟩ := rn_i rfl rfl rfl rfl hh
  have hh : pm_run PT n fr lo 197 (7, [some (.ref 162), some (.ref 175), some (.int (nI m)), some (.int (nI 0))], [], mset h 23 (.int (nI m)), 198, sl) = some R := hh
  exact lay_loop hm m 0 n D _ (by omega) (mset_arr (by decide) hD) (mset_arr (by decide) hS) (mF_ne (by decide) h21) (mF_self h23) (fun j hj => absurd hj (by omega)) hh
def rmN : List Nat := [163, 165, 180, 181, 182, 183, 184, 186, 193, 194, 195, 196]
def rmK (k : Nat) : Bool := rmN.any (fun x => Nat.beq x k)
theorem rmK_in (k : Nat) (h : rmK k = true) : k ∈ rmN := by
  obtain ⟨x, hx, e⟩ := List.any_eq_true.mp h
  rw [← Nat.eq_of_beq_eq_true e]
  exact hx
def rmP (ci f : Nat) : Bool := Nat.beq ci 11 && (Nat.beq f 21 || (Nat.beq f 22 || Nat.beq f 23))
theorem rm_sf : sf_ok rmP rmK := sf_of rmK_in (by decide +kernel)
theorem mF_fm {F : fr_F} {g : Nat} {v : Value} (q : fm F h h1) (hg : F.2 11 g = true) (x : mF h g v) : mF h1 g v := by
  obtain ⟨fs, a, b⟩ := x
  obtain ⟨fs', e, -, k⟩ := q.2 162 11 fs a
  exact ⟨fs', e, (k g hg).trans b⟩
theorem m1p_nz : ∀ p, p < 41 → pm_cmp .ne (Int32.ofInt (-1) - nI p) 0 = true := by decide +kernel
theorem m1p_ne (hp : p ≤ 40) : pm_cmp .ne (Int32.ofInt (-1) - nI p) 0 = true := m1p_nz p (by omega)
theorem esM_len (z : zK f n0 = true) : (esM f n0).length ≤ 40 := by
  unfold zK at z
  unfold esM
  by_cases y : n0 = 0
  · rw [if_pos y]
    exact Nat.zero_le _
  · rw [if_neg y]
    rw [decide_eq_false y, Bool.false_or, Bool.and_eq_true] at z
    have a := pr_len (f := f) (t := min n0 40) 20 0 0 0 z.1
    have b := pz_le (f := f) (t := min n0 40) 20 0 0 0 (by omega)
    omega
theorem dsX_len (z : zK f n0 = true) : (dsX f n0).length ≤ 40 := by
  unfold zK at z
  unfold dsX
  by_cases y : n0 = 0
  · rw [if_pos y]
    decide
  · rw [if_neg y]
    rw [decide_eq_false y, Bool.false_or, Bool.and_eq_true] at z
    have a := pc_len (f := f) (t := min n0 40) 20 0 0 0 z.1
    have b := pz_le (f := f) (t := min n0 40) 20 0 0 0 (by omega)
    omega
/-- rule of the reference -/
theorem rln_run {x16 x17 x18 : Value} {w0 c23 c24 : Int32} {D0 D1 : Nat → Int32} (hI : ah_ok bB 198 [] h) (hn : n0 ≤ 80) (h175 : h 175 = .inl (0, 80, .inl D0)) (h174 : h 174 = .inl (0, 80, .inl D1)) (h21 : mF h 21 (.ref 174)) (h23 : mF h 23 (.int c23)) (h0 : mF h 0 (.int w0)) (h15 : mF h 15 (.int (nI n0))) (h16 : mF h 16 x16) (h17 : mF h 17 x17) (h18 : mF h 18 x18) (h24 : mF h 24 (.int c24)) (h14 : mF h 14 (.ref 172)) (hA : h 172 = .inl (0, 80, .inl tp)) (h22 : mF h 22 (.ref 175)) (hh : pm_run PT n fr lo 198 (0, pm_l0 [.ref 162] 2, [], h, 198, sl) = some R) : (zK tp n0 = true ∧ mF R.2.1 23 (.int (nI (esM tp n0).length)) ∧ ∃ D, R.2.1 174 = .inl (0, 80, .inl D) ∧ ∀ j, j < (esM tp n0).length → (esM tp n0)[j]? = some (D j)) ∨ (zK tp n0 = false ∧ mF R.2.1 23 (.int c23) ∧ R.2.1 174 = h 174) := by
  obtain ⟨n, hh⟩ := rn_i rfl rfl rfl rfl hh
  obtain ⟨n, hh⟩ := rn_i rfl rfl rfl rfl hh
  obtain ⟨n, hh⟩ := rn_pfm (w := .int w0) rfl rfl rfl (by decide) h0 hh
  have hh : pm_run PT n fr lo 198 (5, [some (.ref 162), none], [], (mset h 0 (.int (Int32.ofInt 0))), 198, sl) = some R := hh
  have nr0 : nrH (tnA wMCA) wMCG (mset h 0 (.int (Int32.ofInt 0))) := by
    obtain ⟨fs, a, b⟩ := h0
    have e : mset h 0 (.int (Int32.ofInt 0)) = va_up h 162 (.inr (11, fs.set 0 (.int (Int32.ofInt 0)))) := by
      unfold mset
      rw [a]
    rw [e]
    exact nrH_fld (tn_ty wMC_tb hI) a (nrv_i _)
  have m174 : mset h 0 (.int (Int32.ofInt 0)) 174 = h 174 := (mset_arr (by decide) h174).trans h174.symm
  have m23 : mF (mset h 0 (.int (Int32.ofInt 0))) 23 (.int c23) := mF_ne (by decide) h23
  have m21 : mF (mset h 0 (.int (Int32.ofInt 0))) 21 (.ref 174) := mF_ne (by decide) h21
  have m22 : mF (mset h 0 (.int (Int32.ofInt 0))) 22 (.ref 175) := mF_ne (by decide) h22
  have rr := fun (n fr lo : Nat) (R : pm_Rs) => rdn_run (n := n) (fr := fr) (lo := lo) (sl := sl) (R := R) (h := mset h 0 (.int (Int32.ofInt 0))) (mset_arr (by decide) h175) hn (mF_ne (by decide) h15) (mF_ne (by decide) h16) (mF_ne (by decide) h17) (mF_ne (by decide) h18) (mF_ne (by decide) h24) (mF_ne (by decide) h14) (mset_arr (by decide) hA) m22
  generalize mset h 0 (.int (Int32.ofInt 0)) = g at hh nr0 m174 m23 m21 m22 rr
  have hh : pm_run PT n fr lo 198 (5, [some (.ref 162), none], [], g, 198, sl) = some R := hh
  obtain ⟨n, hh⟩ := rn_i rfl rfl rfl rfl hh
  obtain ⟨n, fr', lo', r1, hr1, hh⟩ := rn_call (w := 0) (t := 196) rfl rfl hh
  obtain ⟨c1, c2, c3⟩ := rr _ _ _ _ hr1
  have c4 : fm (sfF rmP) g r1.2.1 := sf_run rm_sf _ _ _ 196 _ r1 rfl hr1
  have c5 : r1.2.1 174 = g 174 := (t2_run wMC_tn wMC_sf _ _ _ 196 _ r1 rfl (Nat.le_refl _) (nrL_l0 (vs := [.ref 162]) (nrS_cons.mpr ⟨fun p e => by cases e; rfl, fun v hv => absurd hv (by simp)⟩)) tS_e nr0 hr1).2 174 rfl
  obtain ⟨rv, h2, s2⟩ := r1
  dsimp only at c1 c2 c3 c4 c5
  subst c1
  subst c2
  have hh : pm_run PT n fr lo 198 (9, [some (.ref 162), none], [.int (zA tp n0)], h2, 198, sl) = some R := hh
  obtain ⟨n, hh⟩ := rn_i rfl rfl rfl rfl hh
  obtain ⟨n, hh⟩ := rn_i rfl rfl rfl rfl hh
  have hh : pm_run PT n fr lo 198 (11, [some (.ref 162), some (.int (zA tp n0))], [.int (zA tp n0)], h2, 198, sl) = some R := hh
  obtain ⟨n, hh⟩ := rn_if (cc := .ne) (off := 15) (t := 26) rfl rfl hh
  cases z : zK tp n0 with
  | false =>
    right
    obtain ⟨p, p1, -, p3⟩ := zK_nF z
    rw [p3, m1p_ne p1] at hh
    obtain ⟨n, hh⟩ := rn_i rfl rfl rfl rfl hh
    have e := (rn_ret rfl (Or.inl rfl) hh).2
    rw [e]
    exact ⟨rfl, mF_fm c4 rfl m23, c5.trans m174⟩
  | true =>
    left
    rw [zK_A z, show pm_cmp .ne (Int32.ofInt 0) 0 = false by decide] at hh
    have hh : pm_run PT n fr lo 198 (14, [some (.ref 162), some (.int (Int32.ofInt 0))], [], h2, 198, sl) = some R := hh
    obtain ⟨k24, D, kD, kj⟩ := c3 z
    obtain ⟨n, hh⟩ := rn_i rfl rfl rfl rfl hh
    obtain ⟨n, hh⟩ := rn_i rfl rfl rfl rfl hh
    obtain ⟨n, hh⟩ := rn_gfm rfl rfl (mF_fm c4 rfl m22) hh
    obtain ⟨n, hh⟩ := rn_i rfl rfl rfl rfl hh
    obtain ⟨n, hh⟩ := rn_gfm rfl rfl k24 hh
    have hh : pm_run PT n fr lo 198 (23, [some (.ref 162), some (.int (Int32.ofInt 0))], [.int (nI (esM tp n0).length), .ref 175, .ref 162], h2, 198, sl) = some R := hh
    obtain ⟨n, fr', lo', r2, hr2, hh⟩ := rn_call (w := 0) (t := 197) rfl rfl hh
    have hl := esM_len z
    obtain ⟨d1, d2, d3, D', d4, d5⟩ := lay_run (D := D1) (by omega) (mF_fm c4 rfl m23) (mF_fm c4 rfl m21) kD ((c5.trans m174).trans h174) hr2
    obtain ⟨rv, h3, s3⟩ := r2
    dsimp only at d1 d2 d3 d4
    subst d1
    subst d2
    have hh : pm_run PT n fr lo 198 (26, [some (.ref 162), some (.int (Int32.ofInt 0))], [], h3, 198, sl) = some R := hh
    obtain ⟨n, hh⟩ := rn_i rfl rfl rfl rfl hh
    have e := (rn_ret rfl (Or.inl rfl) hh).2
    rw [e]
    refine ⟨rfl, d3, D', d4, fun j hj => ?_⟩
    rw [d5 j hj]
    exact kj j hj
end RUC
/-! SR behind rule -/
section SRU
variable {kx km n fr lo sl n0 cc gc o : Nat} {q : QT} {h h' h1 h2 : pm_H} {R : pm_Rs} {f g : Nat → Int32} {v w : Int32} {vs : List Int32}
/-- what rule leaves: fields -/
def w2P (ci f : Nat) : Bool := (Nat.beq ci 0 && (Nat.beq f 0)) || (Nat.beq ci 2 && (Nat.beq f 1 || Nat.beq f 2)) || (Nat.beq ci 3 && (Nat.beq f 0 || Nat.beq f 1)) || (Nat.beq ci 7 && (Nat.beq f 5 || Nat.beq f 6)) || (Nat.beq ci 10 && (Nat.beq f 7)) || (Nat.beq ci 11 && (Nat.beq f 3 || Nat.beq f 4 || Nat.beq f 27 || Nat.beq f 47))
def w2X : List Nat := [0, 1, 6, 15, 16, 17, 18, 19, 20, 22, 42, 43, 44, 45, 52, 57, 72, 73, 78, 82, 85, 88, 89, 91, 92, 93, 96, 97, 98, 99, 100, 101, 111, 112, 118, 119, 124, 125, 126, 128, 133, 140, 141, 161, 188, 190, 192, 212, 213, 214, 222, 223, 224, 225, 228, 251, 252, 265]
theorem w2_all : ((List.range 271).filter (fun k => !(w2X.any (fun x => Nat.beq x k)))).all (sf_b w2P (sf_X w2X)) = true := by decide +kernel
theorem w2_ok : sf_ok w2P (sf_X w2X) := sf_of sf_X_in w2_all
def fl2K (p : Nat × Nat) : Bool := match bB p.1 with
  | .inr (ci, as) => Nat.blt ci 1000 && (w2P ci p.2 && Nat.blt p.1 198)
  | _ => false
theorem fl2_all : SF2.all fl2K = true := by decide +kernel
theorem kp2_fm (hh : ah_ok bB 198 [] h) (f : fm (sfF w2P) h h') : kpf SF2 h h' := by
  intro c g e
  have z := List.all_eq_true.mp fl2_all (c, g) (List.elem_iff.mp e)
  unfold fl2K at z
  dsimp only at z
  cases hB : bB c with
  | inl x => rw [hB] at z; cases z
  | inr x =>
    obtain ⟨ci, as⟩ := x
    rw [hB] at z
    dsimp only at z
    rw [Bool.and_eq_true, Bool.and_eq_true] at z
    have h0 : ac_ok (h c) (bB c) := hh c (Nat.le_of_ble_eq_true z.2.2)
    rw [hB] at h0
    obtain ⟨fs, ef, -, -⟩ := aE_obj h0 (Nat.le_of_ble_eq_true z.1)
    exact fi_fm f z.2.1 ef
theorem s2x_all : SB.all (fun a => tnA wStA a || (tnA wReA a || (tnA wClA a || Nat.ble 162 a))) = true := by decide +kernel
theorem s2m_all : SB.all (fun a => tnA wMRA a || (tnA wMNA a || (tnA wMPA a || (tnA wMKA a || (tnA wMLA a || Nat.blt a 162))))) = true := by decide +kernel
theorem s2x_kpt (k1 : sf_X wStX kx = true) (k2 : sf_X wReX kx = true) (k4 : sf_X wClX kx = true) (hI : mInv h) (f1 : fm cxF h R.2.1) {mx m f l : Nat} (r1 : pm_run PT m f l kx (0, pm_l0 (.ref 0 :: vs.map Value.int) mx, [], h, 198, sl) = some R) : kpt SB h R.2.1 := by
  intro a e
  apply Ar_e
  have z := List.all_eq_true.mp s2x_all a (List.elem_iff.mp e)
  rw [Bool.or_eq_true, Bool.or_eq_true, Bool.or_eq_true] at z
  rcases z with z | z | z | z
  · exact t2_keeps wSt_tn wSt_sf wSt_tb k1 hI.1 (o := 0) rfl vs r1 a z
  · exact t2_keeps wRe_tn wRe_sf wRe_tb k2 hI.1 (o := 0) rfl vs r1 a z
  · exact t2_keeps wCl_tn wCl_sf wCl_tb k4 hI.1 (o := 0) rfl vs r1 a z
  · exact f1.1 a z
theorem s2m_kpt (k1 : sf_X wMRX km = true) (k2 : sf_X wMNX km = true) (k4 : sf_X wMPX km = true) (k5 : sf_X wMKX km = true) (k6 : sf_X wMLX km = true) (i1 : mInv h1) (lo1 : ∀ i, i < 162 → R.2.1 i = h1 i) {mx m f l : Nat} (r2 : pm_run PT m f l km (0, pm_l0 (.ref 162 :: vs.map Value.int) mx, [], h1, 198, sl) = some R) : kpt SB h1 R.2.1 := by
  intro a e
  apply Ar_e
  have z := List.all_eq_true.mp s2m_all a (List.elem_iff.mp e)
  rw [Bool.or_eq_true, Bool.or_eq_true, Bool.or_eq_true, Bool.or_eq_true, Bool.or_eq_true] at z
  rcases z with z | z | z | z | z | z
  · exact t2_keeps wMR_tn wMR_sf wMR_tb k1 i1.1 (o := 162) rfl vs r2 a z
  · exact t2_keeps wMN_tn wMN_sf wMN_tb k2 i1.1 (o := 162) rfl vs r2 a z
  · exact t2_keeps wMP_tn wMP_sf wMP_tb k4 i1.1 (o := 162) rfl vs r2 a z
  · exact t2_keeps wMK_tn wMK_sf wMK_tb k5 i1.1 (o := 162) rfl vs r2 a z
  · exact t2_keeps wML_tn wML_sf wML_tb k6 i1.1 (o := 162) rfl vs r2 a z
  · exact lo1 a (Nat.le_of_ble_eq_true z)
theorem Fi_of {c ci g : Nat} {fs : List Value} {x : Int32} (e : h c = .inr (ci, fs)) (e1 : fs[g]? = some (.int x)) : Fi h c g = x := by
  unfold Fi
  rw [e]
  dsimp only
  rw [e1]
theorem Ar_of {a kd m : Nat} {f : Nat → Int32} (e : h a = .inl (kd, m, .inl f)) : Ar h a = f := by
  unfold Ar
  rw [e]
/-- the rule of no text -/
theorem ds0_val (A : Nat → Int32) : ds0.foldl (stX q cc gc A) [] = [A 0 * A 1 / nI 5] := by
  show stX q cc gc A (stX q cc gc A (stX q cc gc A (stX q cc gc A (stX q cc gc A [] (Int32.ofInt (-119))) (Int32.ofInt (-107))) (Int32.ofInt (-42))) (nI 5)) (Int32.ofInt (-47)) = _
  have n5 : ∀ s, stX q cc gc A s (nI 5) = nI 5 :: s := fun s => by
    unfold stX
    rw [show pm_cmp .lt (nI 5) 0 = false by decide]
    rfl
  rw [show Int32.ofInt (-119) = -(nI 119) by decide, show Int32.ofInt (-107) = -(nI 107) by decide, show Int32.ofInt (-42) = -(nI 42) by decide, show Int32.ofInt (-47) = -(nI 47) by decide]
  rw [(let_119 A []).1, (let_107 A _).1, (op_42 A _ _ _).1, n5, (op_47 A _ _ _).1]
  rw [show pm_cmp .ne (nI 5) 0 = true by decide]
  rfl
/-- both codes tell the same values -/
theorem vr_mk {q' : Nat} {C D : Nat → Int32} (hf : ∀ j, j < n0 → f j = g j) (z : zK f n0 = true) (hC : ∀ j, j < (dsX f n0).length → (dsX f n0)[j]? = some (C j)) (hD : ∀ j, j < (esM g n0).length → (esM g n0)[j]? = some (D j)) (hd : (esM g n0).length ≠ 0 → ∃ dn, dep D (esM g n0).length = some dn) : VR (q', (dsX f n0).length, (esM g n0).length) cc gc C D := by
  by_cases y : n0 = 0
  · have e1 : dsX f n0 = ds0 := if_pos y
    have e2 : esM g n0 = [] := if_pos y
    rw [e1] at hC
    rw [e1, e2]
    refine ⟨fun A => A 0 * A 1 / nI 5, fun A B e => ?_, fun A => ?_, fun _ A => rfl, fun z0 => absurd rfl z0⟩
    · show A 0 * A 1 / nI 5 = B 0 * B 1 / nI 5
      rw [e 0 (by decide), e 1 (by decide)]
    · show (evl (stX _ cc gc A) C ds0.length).headD 0 = A 0 * A 1 / nI 5
      rw [evl_fold _ C ds0 hC, ds0_val]
      rfl
  · have e1 : dsX f n0 = pc f (min n0 40) 20 0 0 0 := if_neg y
    have e2 : esM g n0 = pr g (min n0 40) 20 0 0 0 := if_neg y
    unfold zK at z
    rw [decide_eq_false y, Bool.false_or, Bool.and_eq_true] at z
    have d := den_all (q := (q', (dsX f n0).length, (esM g n0).length)) (cc := cc) (gc := gc) (f := f) (t := min n0 40) 20 0 0 0 (by omega) z.1
    rw [pr_cg (f := f) (g := g) (t := min n0 40) (fun j hj => hf j (by omega)) 20 0 0] at d
    rw [← e1, ← e2] at d
    obtain ⟨V, hV⟩ := d
    have ne : (esM g n0).length ≠ 0 := by
      intro e
      have e3 := (hV (fun _ => 0) []).2
      rw [List.eq_nil_of_length_eq_zero e] at e3
      exact absurd e3 (by simp)
    refine ⟨V, fun A B e => ?_, fun A => ?_, fun z0 => absurd z0 ne, fun _ => ⟨hd ne, fun A => ?_⟩⟩
    · have a := (hV A []).1
      have b := (hV B []).1
      rw [fold_cg e] at a
      exact (List.cons.inj (a.symm.trans b)).1
    · show (evl (stX _ cc gc A) C (dsX f n0).length).headD 0 = V A
      rw [evl_fold _ C _ hC, (hV A []).1]
      rfl
    · show evl (stM _ cc gc A) D (esM g n0).length = [V A]
      rw [evl_fold _ D _ hD]
      exact (hV A []).2
theorem zK_cg (hf : ∀ j, j < n0 → f j = g j) : zK f n0 = zK g n0 := by
  unfold zK
  rw [pz_cg (f := f) (g := g) (t := min n0 40) (fun j hj => hf j (by omega))]
theorem rule_ob (hh : ah_ok bB 198 [] h) (ho : o = 142 ∨ o = 145) : ∃ (rs : List Value) (w5 s1 : Int32), h o = .inr (6, rs) ∧ rs[4]? = some (.ref 1) ∧ rs[5]? = some (.int w5) ∧ rs[1]? = some (.int s1) ∧ rs[0]? = some (.ref (o + 1)) ∧ h (o + 1) = .inl (0, 40, .inl (Ar h (o + 1))) := by
  rcases ho with rfl | rfl
  · obtain ⟨rs, w5, s1, e0, e4, e5, es⟩ := ty_ru (a := 142) hh (by decide) rfl rfl rfl rfl rfl rfl
    exact ⟨rs, w5, s1, e0, e4, e5, es, ty_or (a := 142) (g := 0) (p := 143) hh (by decide) rfl (by decide) rfl rfl e0, wt_a (wt_of hh) (by decide) rfl (by decide)⟩
  · obtain ⟨rs, w5, s1, e0, e4, e5, es⟩ := ty_ru (a := 145) hh (by decide) rfl rfl rfl rfl rfl rfl
    exact ⟨rs, w5, s1, e0, e4, e5, es, ty_or (a := 145) (g := 0) (p := 146) hh (by decide) rfl (by decide) rfl rfl e0, wt_a (wt_of hh) (by decide) rfl (by decide)⟩
theorem sr_rule (hL : LI5 h) (pr : prun sl 90 198 [] h h1 h2 v w) (s : SR h) : SR h2 := by
  obtain ⟨q, cc, gc, hc, ⟨⟨vr, ⟨fo, o1, o2⟩⟩, sc⟩⟩ := s
  obtain ⟨⟨m, r1⟩, ⟨f1, i1⟩, ⟨m2, r2⟩, lo1, i2⟩ := pr
  have hI : mInv h := hL.1
  have fx : fm (sfF w2P) h h1 := sf_run w2_ok _ _ _ 90 _ (some (.int v), h1, 198, sl) rfl r1
  have fy : fm (sfF w2P) h1 h2 := sf_run w2_ok _ _ _ 198 _ (some (.int w), h2, 198, sl) rfl r2
  have kf : kpf SF2 h h2 := kpf_tr (kp2_fm hI.1 fx) (kp2_fm i1.1 fy)
  have ka : kpt SB h h2 := kpt_tr (s2x_kpt (R := (some (.int v), h1, 198, sl)) rfl rfl rfl hI f1 r1) (s2m_kpt (R := (some (.int w), h2, 198, sl)) rfl rfl rfl rfl rfl i1 lo1 r2)
  obtain ⟨-, ⟨n0, cc0, f0, g0, hn, hc0, ⟨x1, x2⟩, ⟨y1, y2, y3⟩, hjj⟩, -⟩ := hL
  obtain ⟨fs, a1, a2, a3⟩ := ty_x2 hI.1
  have px : pX h n0 cc0 f0 := ⟨⟨fs, a1, a2, a3⟩, x1.1, x1.2, x2⟩
  obtain ⟨f8, b1, b2⟩ := hc.2.2.2.2.1
  rw [a1] at o1 b1
  cases o1
  cases b1
  have ho : (287 - q.1 = 142 ∧ q.1 = 145) ∨ (287 - q.1 = 145 ∧ q.1 = 142) := by
    rcases hc.qq with e | e
    · exact Or.inr ⟨by omega, e⟩
    · exact Or.inl ⟨by omega, e⟩
  have ho2 : 287 - q.1 = 142 ∨ 287 - q.1 = 145 := by
    rcases ho with e | e
    · exact Or.inl e.1
    · exact Or.inr e.1
  obtain ⟨rs, w5, s1, e0, e4, e5, es, er, eC⟩ := rule_ob hI.1 ho2
  have cx := rlc_run (f := f0) ho hI.1 hn a1 o2 b2 px er eC e0 e4 e5 es r1
  obtain ⟨w0, hw⟩ := ty_m0 i1.1
  obtain ⟨w16, h16⟩ := ty_mi i1.1 16 (by decide +kernel) (by decide +kernel)
  obtain ⟨w17, h17⟩ := ty_mi i1.1 17 (by decide +kernel) (by decide +kernel)
  obtain ⟨w18, h18⟩ := ty_mi i1.1 18 (by decide +kernel) (by decide +kernel)
  obtain ⟨w24, h24⟩ := ty_mi i1.1 24 (by decide +kernel) (by decide +kernel)
  obtain ⟨w23, h23⟩ := ty_mi i1.1 23 (by decide +kernel) (by decide +kernel)
  have cm := rln_run (tp := g0) i1.1 hn (wt_a (wt_of i1.1) (by decide) rfl (by decide)) (wt_a (wt_of i1.1) (by decide) rfl (by decide)) (ty_ref i1.1 (g := 21) (p := 174) rfl) h23 hw (mF_hi f1 y1) h16 h17 h18 h24 (ty_m14 i1.1) ((f1.1 172 rfl).trans y2) (ty_ref i1.1 (g := 22) (p := 175) rfl) r2
  dsimp only at cx cm
  have hz := zK_cg hjj
  have hcx : HC q cc gc h := hc
  obtain ⟨-, -, ⟨-, -, m23, rs1⟩, -⟩ := hcx
  rcases cx with ⟨z, kx, fs2, u0, u8, u9⟩ | ⟨z, ⟨fs2, u0, u8, u9⟩, kA⟩
  · rcases cm with ⟨z2, k23, D, kD, kj⟩ | ⟨z2, -, -⟩
    · obtain ⟨rs', C, k1, k2, k3, k4, k5⟩ := kx
      have lo : 287 - q.1 < 162 ∧ 287 - q.1 + 1 < 162 := by omega
      have eC2 : Ar h2 (287 - q.1 + 1) = C := Ar_of ((lo1 _ lo.2).trans k4)
      have eD2 : Ar h2 174 = D := Ar_of kD
      have hd : (esM g0 n0).length ≠ 0 → ∃ dn, dep D (esM g0 n0).length = some dn := by
        intro hne
        obtain ⟨⟨n, dn, fD, c1, c2, c3, c4⟩, -⟩ := i2.2
        rw [kD] at c2
        cases c2
        have en : n = (esM g0 n0).length := by
          obtain ⟨fsa, p1, p2⟩ := c1
          obtain ⟨fsb, p3, p4⟩ := k23
          rw [p1] at p3
          cases p3
          rw [p2] at p4
          have e := Value.int.inj (Option.some.inj p4)
          have hl := esM_len z2
          have e := congrArg Int32.toInt e
          rw [nI_toInt (by omega), nI_toInt (by omega)] at e
          omega
        rw [← en] at hne ⊢
        rcases c4 with c4 | c4
        · exact absurd c4 hne
        · exact ⟨dn, c4.1⟩
      refine ⟨(287 - q.1, (dsX f0 n0).length, (esM g0 n0).length), cc, gc, ⟨wt_of i2.1, ⟨(kf 5 0 rfl).trans hc.x0, (kf 5 1 rfl).trans hc.x1⟩, ⟨(kf 162 3 rfl).trans hc.m3, (kf 162 4 rfl).trans hc.m4, Fi_m k23, Fi_of ((lo1 _ lo.1).trans k1) k3⟩, ⟨hc.cb, hc.gb, dsX_len z, by have := esM_len z2; show (esM g0 n0).length ≤ 80; omega⟩, ⟨⟨fs2, (lo1 0 (by decide)).trans u0, u8⟩, ho2⟩⟩, ⟨⟨?_, ⟨fs2, (lo1 0 (by decide)).trans u0, ?_⟩⟩, SRc_keep ka kf sc⟩⟩
      · show VR (287 - q.1, (dsX f0 n0).length, (esM g0 n0).length) cc gc (Ar h2 (287 - q.1 + 1)) (Ar h2 174)
        rw [eC2, eD2]
        exact vr_mk hjj z (fun j hj => k5 j hj) kj hd
      · show fs2[9]? = some (.ref (287 - (287 - q.1)))
        rw [u9, show 287 - (287 - q.1) = q.1 by omega]
    · rw [hz, z2] at z
      cases z
  · rcases cm with ⟨z2, -, -, -, -⟩ | ⟨z2, k23, k174⟩
    · rw [hz, z2] at z
      cases z
    · have lo : q.1 < 162 ∧ q.1 + 1 < 162 := by omega
      have g1 : ruA q.1 q.1 = true := by
        unfold ruA
        rw [show Nat.beq q.1 q.1 = true from Nat.beq_refl _]
        rfl
      have g2 : ruA q.1 (q.1 + 1) = true := by
        unfold ruA
        rw [show Nat.beq (q.1 + 1) (q.1 + 1) = true from Nat.beq_refl _, Bool.true_or, Bool.or_true]
      have eC2 : Ar h2 (q.1 + 1) = Ar h (q.1 + 1) := Ar_e ((lo1 _ lo.2).trans (kA _ g2))
      have eD2 : Ar h2 174 = Ar h 174 := Ar_e (k174.trans (f1.1 174 rfl))
      have e23 : w23 = nI q.2.2 := by
        rw [← m23, ← Fi_m h23]
        exact Fi_e (f1.1 162 rfl)
      refine ⟨q, cc, gc, ⟨wt_of i2.1, ⟨(kf 5 0 rfl).trans hc.x0, (kf 5 1 rfl).trans hc.x1⟩, ⟨(kf 162 3 rfl).trans hc.m3, (kf 162 4 rfl).trans hc.m4, (Fi_m k23).trans e23, (Fi_e ((lo1 _ lo.1).trans (kA _ g1))).trans rs1⟩, ⟨hc.cb, hc.gb, hc.zx, hc.zr⟩, ⟨⟨fs2, (lo1 0 (by decide)).trans u0, u8⟩, hc.qq⟩⟩, ⟨⟨?_, ⟨fs2, (lo1 0 (by decide)).trans u0, u9⟩⟩, SRc_keep ka kf sc⟩⟩
      rw [eC2, eD2]
      exact vr
end SRU
