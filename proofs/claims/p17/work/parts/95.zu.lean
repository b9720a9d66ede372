section MH95zux0
/-! arrays that are read, and written by some calls alone: the taints of the stack -/
section TNT
variable {fr lo k pc sz sl : Nat} {L : pm_L} {S : List Value} {h : pm_H} {st' : pm_St} {A : Nat → Bool} {G : Nat → Nat → Bool} {t u : List Bool} {v : Value}
/-- what isn't tainted doesn't lead to a cell of A -/
def tS (A : Nat → Bool) : List Bool → List Value → Prop
  | _, [] => True
  | [], v :: S => nrv A v ∧ tS A [] S
  | b :: t, v :: S => (b = false → nrv A v) ∧ tS A t S
theorem tS_e : tS A t [] := by
  cases t <;> exact True.intro
theorem tS_tl (q : tS A t (v :: S)) : tS A t.tail S := by
  cases t with
  | nil => exact q.2
  | cons b t => exact q.2
theorem tS_hd (q : tS A t (v :: S)) (e : t.headD false = false) : nrv A v := by
  cases t with
  | nil => exact q.1
  | cons b t => exact q.1 e
theorem tS_cons {b : Bool} (hv : b = false → nrv A v) (q : tS A t S) : tS A (b :: t) (v :: S) := ⟨hv, q⟩
theorem tS_nr : ∀ {S : List Value}, tS A [] S → nrS A S
  | [], _ => fun v hv => absurd hv (by simp)
  | _ :: _, q => nrS_cons.mpr ⟨q.1, tS_nr q.2⟩
theorem tS_of : ∀ {S : List Value}, nrS A S → tS A [] S
  | [], _ => True.intro
  | _ :: _, q => ⟨(nrS_cons.mp q).1, tS_of (nrS_cons.mp q).2⟩
def tle : List Bool → List Bool → Bool
  | [], _ => true
  | b :: t, [] => !b && tle t []
  | b :: t, c :: u => (!b || c) && tle t u
theorem tS_le : ∀ (S : List Value) (t u : List Bool), tle t u = true → tS A t S → tS A u S
  | [], _, _, _, _ => tS_e
  | v :: S, t, u, e, q => by
    have q2 := tS_tl q
    cases t with
    | nil =>
      cases u with
      | nil => exact q
      | cons c u => exact ⟨fun _ => q.1, tS_le S [] u rfl q2⟩
    | cons b t =>
      cases u with
      | nil =>
        have e : (!b && tle t []) = true := e
        rw [Bool.and_eq_true] at e
        exact ⟨q.1 (by simpa using e.1), tS_le S t [] e.2 q2⟩
      | cons c u =>
        have e : ((!b || c) && tle t u) = true := e
        rw [Bool.and_eq_true] at e
        refine ⟨fun hc => q.1 ?_, tS_le S t u e.2 q2⟩
        subst hc
        simpa using e.1
theorem tle_nil : ∀ (t u : List Bool), tle t [] = true → tle t u = true
  | [], _, _ => rfl
  | b :: t, [], e => e
  | b :: t, c :: u, e => by
    have e : (!b && tle t []) = true := e
    rw [Bool.and_eq_true] at e
    show ((!b || c) && tle t u) = true
    rw [e.1, Bool.true_or, Bool.true_and]
    exact tle_nil t u e.2
theorem tS_take : ∀ (n : Nat) (t : List Bool) (S : List Value), tS A t S → tS A (t.take n) (S.take n)
  | 0, _, _, _ => tS_e
  | n + 1, _, [], _ => tS_e
  | n + 1, [], _ :: S, q => ⟨q.1, by simpa using tS_take n [] S q.2⟩
  | n + 1, _ :: t, _ :: S, q => ⟨q.1, tS_take n t S q.2⟩
theorem tS_drop : ∀ (n : Nat) (t : List Bool) (S : List Value), tS A t S → tS A (t.drop n) (S.drop n)
  | 0, _, _, q => q
  | n + 1, _, [], _ => tS_e
  | n + 1, [], _ :: S, q => by simpa using tS_drop n [] S q.2
  | n + 1, _ :: t, _ :: S, q => tS_drop n t S q.2
def tg (G : Nat → Nat → Bool) (k j : Nat) : Bool := match pm_fld PT (pm_o PT k) j with
  | some (ci, f, _) => G ci f
  | none => false
/-- what an instruction may do -/
def tc (i : Instr) (t : List Bool) : Bool := match i with
  | .istore _ | .istore_n _ | .astore _ | .astore_n _ | .lstore _ | .lstore_n _ => !(t.headD false)
  | .putfield _ => !(t.headD false) && !(t.tail.headD false)
  | .iastore | .castore | .bastore | .lastore => !(t.tail.tail.headD false)
  | .invokespecial _ | .invokestatic _ | .invokevirtual _ => tle t []
  | .aastore | .newarray _ | .anewarray _ | .new _ => false
  | _ => true
/-- the taints behind it -/
def tf (G : Nat → Nat → Bool) (k : Nat) (i : Instr) (t : List Bool) : List Bool := match i with
  | .iconst _ | .bipush _ | .sipush _ | .lconst _ | .ldc _ | .ldc_w _ | .ldc2_w _ => false :: t
  | .iload _ | .iload_n _ | .lload _ | .lload_n _ | .aload _ | .aload_n _ => false :: t
  | .istore _ | .istore_n _ | .astore _ | .astore_n _ | .lstore _ | .lstore_n _ => t.tail
  | .iadd | .isub | .imul | .iand | .ior | .ixor | .ishl | .ishr | .iushr | .idiv | .irem => false :: t.tail.tail
  | .lmul | .ladd | .lsub | .ldiv | .lrem | .lcmp => false :: t.tail.tail
  | .ineg | .i2l | .i2b | .i2s | .i2c => false :: t.tail
  | .dup => t.headD false :: t.headD false :: t.tail
  | .pop => t.tail
  | .dup_x1 => t.headD false :: t.tail.headD false :: t.headD false :: t.tail.tail
  | .dup_x2 => t.headD false :: t.tail.headD false :: t.tail.tail.headD false :: t.headD false :: t.tail.tail.tail
  | .dup2 => t.headD false :: t.tail.headD false :: t.headD false :: t.tail.headD false :: t.tail.tail
  | .ifCond _ _ => t.tail
  | .if_icmp _ _ => t.tail.tail
  | .tableswitch _ _ _ _ | .lookupswitch _ _ => t.tail
  | .getfield j => tg G k j :: t.tail
  | .putfield _ => t.tail.tail
  | .iaload | .caload | .baload | .laload | .aaload => false :: t.tail.tail
  | .iastore | .castore | .bastore | .lastore => t.tail.tail.tail
  | .arraylength => false :: t.tail
  | .invokespecial _ | .invokestatic _ | .invokevirtual _ => []
  | _ => t
set_option maxHeartbeats 8000000 in
theorem tn_simple {i : Instr} (hB : sz ≤ 198) (hi : tc i t = true) (hL : nrL A L) (hS : tS A t S) (hH : nrH A G h) (hh : pm_simple PT fr lo k i pc L S h sz sl = some st') : (nrL A st'.2.1 ∧ tS A (tf G k i t) st'.2.2.1 ∧ nrH A G st'.2.2.2.1) ∧ ∀ a, A a = true → st'.2.2.2.1 a = h a := by
  have lib : nr_i G k i = true → tle t [] = true → tf G k i t = [] → (nrL A st'.2.1 ∧ tS A (tf G k i t) st'.2.2.1 ∧ nrH A G st'.2.2.2.1) ∧ ∀ a, A a = true → st'.2.2.2.1 a = h a := by
    intro hn e ef
    obtain ⟨⟨a1, a2, a3⟩, a4⟩ := nr_simple hB hn ⟨hL, tS_nr (tS_le S t [] e hS), hH⟩ hh
    rw [ef]
    exact ⟨⟨a1, tS_of a2, a3⟩, a4⟩
  by_cases hq : (∃ j, i = .invokespecial j) ∨ (∃ j, i = .invokestatic j) ∨ ∃ j, i = .invokevirtual j
  · rcases hq with ⟨j, rfl⟩ | ⟨j, rfl⟩ | ⟨j, rfl⟩
    · exact lib rfl hi rfl
    · exact lib rfl hi rfl
    · exact lib rfl hi rfl
  · clear lib
    unfold pm_simple at hh
    split at hh
    all_goals (try (cases hi; done))
    all_goals (try (exact absurd (Or.inl ⟨_, rfl⟩) hq))
    all_goals (try (exact absurd (Or.inr (Or.inl ⟨_, rfl⟩)) hq))
    all_goals (try (exact absurd (Or.inr (Or.inr ⟨_, rfl⟩)) hq))
    all_goals (try simp only [pm_bi, pm_bd, pm_bl, pm_bdL, pm_ui, pm_lo, pm_so, pm_sL, pm_jp, pm_br, pm_ia, pm_la, pm_qa, pm_al, pm_gf, pm_pf, pm_iS, pm_lS, pm_qS] at hh)
    all_goals (repeat' split at hh)
    all_goals (try (cases hh; done))
    all_goals cases hh
    all_goals first
      | exact ⟨⟨hL, hS, hH⟩, fun _ _ => rfl⟩
      | exact ⟨⟨hL, tS_tl hS, hH⟩, fun _ _ => rfl⟩
      | exact ⟨⟨hL, tS_tl (tS_tl hS), hH⟩, fun _ _ => rfl⟩
      | exact ⟨⟨hL, tS_cons (fun _ => nrv_i _) hS, hH⟩, fun _ _ => rfl⟩
      | exact ⟨⟨hL, tS_cons (fun _ => nrv_l _) hS, hH⟩, fun _ _ => rfl⟩
      | exact ⟨⟨hL, tS_cons (fun _ => nrv_t _) hS, hH⟩, fun _ _ => rfl⟩
      | exact ⟨⟨hL, tS_cons (fun _ => nrv_i _) (tS_tl hS), hH⟩, fun _ _ => rfl⟩
      | exact ⟨⟨hL, tS_cons (fun _ => nrv_l _) (tS_tl hS), hH⟩, fun _ _ => rfl⟩
      | exact ⟨⟨hL, tS_cons (fun _ => nrv_i _) (tS_tl (tS_tl hS)), hH⟩, fun _ _ => rfl⟩
      | exact ⟨⟨hL, tS_cons (fun _ => nrv_l _) (tS_tl (tS_tl hS)), hH⟩, fun _ _ => rfl⟩
      | exact ⟨⟨hL, tS_cons (fun _ => nrL_ld hL ‹_›) hS, hH⟩, fun _ _ => rfl⟩
      | exact ⟨⟨nrL_st2 hL (nrv_l _), tS_tl hS, hH⟩, fun _ _ => rfl⟩
      | exact ⟨⟨nrL_st1 hL (nrv_i _), hS, hH⟩, fun _ _ => rfl⟩
      | exact ⟨⟨nrL_st1 hL (tS_hd hS (by simpa [tc] using hi)), tS_tl hS, hH⟩, fun _ _ => rfl⟩
      | exact ⟨⟨hL, tS_tl (tS_tl (tS_tl hS)), nrH_arr hH (fun kd n f e => by cases e)⟩, nr_up (tS_hd (tS_tl (tS_tl hS)) (by simpa [tc] using hi) _ rfl)⟩
      | exact ⟨⟨hL, tS_cons (tS_hd hS) (tS_cons (tS_hd hS) (tS_tl hS)), hH⟩, fun _ _ => rfl⟩
      | exact ⟨⟨hL, tS_cons (tS_hd hS) (tS_cons (tS_hd (tS_tl hS)) (tS_cons (tS_hd hS) (tS_tl (tS_tl hS)))), hH⟩, fun _ _ => rfl⟩
      | exact ⟨⟨hL, tS_cons (tS_hd hS) (tS_cons (tS_hd (tS_tl hS)) (tS_cons (tS_hd (tS_tl (tS_tl hS))) (tS_cons (tS_hd hS) (tS_tl (tS_tl (tS_tl hS)))))), hH⟩, fun _ _ => rfl⟩
      | exact ⟨⟨hL, tS_cons (tS_hd hS) (tS_cons (tS_hd (tS_tl hS)) (tS_cons (tS_hd hS) (tS_cons (tS_hd (tS_tl hS)) (tS_tl (tS_tl hS))))), hH⟩, fun _ _ => rfl⟩
      | skip
    · rename_i j S0 a r x2 x1 ci fs cj f t2 e2 e1 hc x v e
      subst hc
      refine ⟨⟨hL, tS_cons (b := tg G k j) (fun hg => ?_) (tS_tl hS), hH⟩, fun _ _ => rfl⟩
      have hg : G cj f = false := by
        unfold tg at hg
        rw [e1] at hg
        exact hg
      exact hH.1 a cj fs (Nat.lt_of_lt_of_le (pm_obj_inv e2).1 hB) (pm_obj_inv e2).2 f v e hg
    · rename_i j v a r x1 x ci fs cj f t2 e1 e hc
      have hi : (!(t.headD false) && !(t.tail.headD false)) = true := hi
      rw [Bool.and_eq_true] at hi
      exact ⟨⟨hL, tS_tl (tS_tl hS), nrH_fld hH (pm_obj_inv e1).2 (tS_hd hS (by simpa using hi.1))⟩, nr_up (tS_hd (tS_tl hS) (by simpa using hi.2) _ rfl)⟩
    · rename_i i a r x kd n f e hc
      refine ⟨⟨hL, tS_cons (fun _ => ?_) (tS_tl (tS_tl hS)), hH⟩, fun _ _ => rfl⟩
      unfold pm_qar at e
      split at e
      · rename_i hlt
        split at e
        · rename_i kd' n' f' eh
          cases e
          exact hH.2 a _ _ _ (Nat.lt_of_lt_of_le hlt hB) eh _ (by
            have := of_decide_eq_true hc.1
            omega)
        · cases e
      · cases e
def tto (T : Nat → List Bool) (pc : Nat) (off : Int) (t : List Bool) : Bool := match pm_tgt pc off with
  | some q => tle t (T q)
  | none => true
/-- the taints behind it are those of the places to which it leads -/
def tnx (T : Nat → List Bool) (pc len : Nat) (i : Instr) (t : List Bool) : Bool := match i with
  | .ifCond _ off => tto T pc off t && tle t (T (pc + 3))
  | .if_icmp _ off => tto T pc off t && tle t (T (pc + 3))
  | .goto off => tto T pc off t
  | .tableswitch _ _ _ _ | .lookupswitch _ _ => tle t []
  | _ => tle t (T (pc + len))
theorem tn_jp {T : Nat → List Bool} {off : Int} (hi : tto T pc off t = true) (hh : pm_jp pc off L S h sz sl = some st') : tle t (T st'.1) = true := by
  unfold pm_jp at hh
  split at hh
  · rename_i q e
    cases hh
    unfold tto at hi
    rw [e] at hi
    exact hi
  · cases hh
theorem tn_br {T : Nat → List Bool} {off : Int} {b : Bool} (hi : (tto T pc off t && tle t (T (pc + 3))) = true) (hh : pm_br b pc off L S h sz sl = some st') : tle t (T st'.1) = true := by
  rw [Bool.and_eq_true] at hi
  unfold pm_br at hh
  split at hh
  · rename_i q e
    have h1 := hi.1
    unfold tto at h1
    rw [e] at h1
    cases b <;> (cases hh; first | exact h1 | exact hi.2)
  · cases hh
set_option maxHeartbeats 4000000 in
theorem tn_next {T : Nat → List Bool} {len : Nat} {i : Instr} (hl : pm_lenOk i len = true) (hi : tnx T pc len i t = true) (hh : pm_simple PT fr lo k i pc L S h sz sl = some st') : tle t (T st'.1) = true := by
  have lib : ∀ sp j, pm_libW PT sp fr lo k j pc L S h sz sl = some st' → st'.1 = pc + 3 := by
    intro sp j hh
    unfold pm_libW at hh
    split at hh
    · split at hh
      · unfold pm_lib at hh
        repeat' split at hh
        all_goals first
          | (cases hh; done)
          | (cases hh; rfl)
      · cases hh
    · cases hh
  by_cases hq : (∃ j, i = .invokespecial j) ∨ ∃ j, i = .invokestatic j
  · rcases hq with ⟨j, rfl⟩ | ⟨j, rfl⟩
    · have el : len = 3 := by simpa [pm_lenOk] using hl
      subst el
      rw [lib true j hh]
      exact hi
    · have el : len = 3 := by simpa [pm_lenOk] using hl
      subst el
      rw [lib false j hh]
      exact hi
  · unfold pm_simple at hh
    split at hh
    all_goals (try (exact tle_nil _ _ hi))
    all_goals (try (exact absurd (Or.inl ⟨_, rfl⟩) hq))
    all_goals (try (exact absurd (Or.inr ⟨_, rfl⟩) hq))
    all_goals (try (split at hh <;> first | (cases hh; done) | (exact tn_br hi hh)))
    all_goals (try (exact tn_jp hi hh))
    all_goals (try (cases hh; done))
    all_goals (simp only [pm_lenOk, beq_iff_eq] at hl)
    all_goals (subst hl)
    all_goals (try simp only [pm_bi, pm_bd, pm_bl, pm_bdL, pm_ui, pm_lo, pm_so, pm_sL, pm_ia, pm_la, pm_qa, pm_al, pm_gf, pm_pf, pm_iS, pm_lS, pm_qS, pm_libV, pm_newI, pm_newL, pm_newQ, pm_newO, pm_nw] at hh)
    all_goals (repeat' split at hh)
    all_goals (first | (cases hh; done) | (cases hh; exact hi))
theorem vs_run {n fr lo k : Nat} {st : pm_St} {r : pm_Rs} {ty : FieldType} (hr : pm_ret PT k = some ty) (hh : pm_run PT n fr lo k st = some r) : ∃ v, r.1 = some v := by
  induction n generalizing st with
  | zero => cases hh
  | succ n ih =>
    unfold pm_run at hh
    split at hh
    · rename_i r' e1
      cases hh
      unfold pm_end at e1
      split at e1
      · cases e1
      · split at e1
        · split at e1
          · rename_i rv er
            cases e1
            unfold pm_rets at er
            rw [hr] at er
            repeat' split at er
            all_goals first
              | (cases er; done)
              | (cases er; exact ⟨_, rfl⟩)
              | (exfalso; cases ‹some _ = (none : Option FieldType)›)
          · cases e1
        · cases e1
    · split at hh
      · exact ih hh
      · cases hh
/-- in the methods of K no cell of A is written: C tells the taints of each place -/
def tn_ok (C : Nat → Nat → List Bool) (G : Nat → Nat → Bool) (K : Nat → Bool) : Prop := ∀ k pc i len, K k = true → pm_ins PT k pc = some (i, len) → (pm_callee PT k i = none → tc i (C k pc) = true ∧ tnx (C k) pc len i (tf G k i (C k pc)) = true) ∧ ∀ w t, pm_callee PT k i = some (w, t) → K t = true ∧ tle ((C k pc).take (pm_na PT t)) [] = true ∧ tle (cond (pm_ret PT t).isSome [false] [] ++ (C k pc).drop (pm_na PT t)) (C k (pc + 3)) = true
theorem tn_run {P : Nat → Nat → Bool} {K : Nat → Bool} {C : Nat → Nat → List Bool} (hK : tn_ok C G K) (hS : sf_ok P K) : ∀ (n fr lo k : Nat) (st : pm_St) (r : pm_Rs), K k = true → st.2.2.2.2.1 ≤ 198 → nrL A st.2.1 → tS A (C k st.1) st.2.2.1 → nrH A G st.2.2.2.1 → pm_run PT n fr lo k st = some r → ((∀ v, r.1 = some v → nrv A v) ∧ nrH A G r.2.1) ∧ ∀ a, A a = true → r.2.1 a = st.2.2.2.1 a
  | 0, _, _, _, _, _, _, _, _, _, _, h => by cases h
  | n + 1, fr, lo, k, st, r, hk, hB, qL, qS, qH, h => by
    unfold pm_run at h
    split at h
    · rename_i r' e1
      cases h
      unfold pm_end at e1
      split at e1
      · cases e1
      · split at e1
        · split at e1
          · rename_i rv er
            cases e1
            refine ⟨⟨fun v ev => ?_, qH⟩, fun _ _ => rfl⟩
            dsimp only at ev
            subst ev
            unfold pm_rets at er
            repeat' split at er
            all_goals first
              | (cases er; done)
              | (cases er; first | exact nrv_i _ | exact nrv_l _)
          · cases e1
        · cases e1
    · split at h
      · rename_i st' e2
        unfold pm_step at e2
        split at e2
        · cases e2
        · rename_i i len ei
          obtain ⟨n1, n2⟩ := hK k _ i len hk ei
          split at e2
          · rename_i hlen
            split at e2
            · rename_i w t ec
              obtain ⟨c1, c2, c3⟩ := n2 w t ec
              split at e2
              · split at e2
                · rename_i rv h1 sz1 sl1 e3
                  cases e2
                  have qa := tS_nr (tS_le _ _ [] c2 (tS_take (pm_na PT t) _ _ qS))
                  obtain ⟨⟨a1, a2⟩, a3⟩ := tn_run hK hS n _ _ t (0, pm_l0 (st.2.2.1.take (pm_na PT t)).reverse (pm_max PT t), [], st.2.2.2.1, st.2.2.2.2.1, st.2.2.2.2.2) (rv, h1, sz1, sl1) c1 hB (nrL_l0 (fun v hv => qa v (List.mem_reverse.mp hv))) tS_e qH e3
                  have hz := sz_run hS n _ _ t (0, pm_l0 (st.2.2.1.take (pm_na PT t)).reverse (pm_max PT t), [], st.2.2.2.1, st.2.2.2.2.1, st.2.2.2.2.2) (rv, h1, sz1, sl1) c1 e3
                  have hz1 : sz1 = st.2.2.2.2.1 := congrArg (fun q : Nat × Nat => q.1) hz
                  have q3 : tS A (C k (st.1 + 3)) (rv.toList ++ st.2.2.1.drop (pm_na PT t)) := by
                    refine tS_le _ _ _ c3 ?_
                    have qd := tS_drop (pm_na PT t) _ _ qS
                    cases hr : pm_ret PT t with
                    | none =>
                      have e := vd_run hr e3
                      dsimp only at e
                      subst e
                      exact qd
                    | some ty =>
                      obtain ⟨v, e⟩ := vs_run hr e3
                      dsimp only at e
                      subst e
                      exact ⟨fun _ => a1 v rfl, qd⟩
                  obtain ⟨b1, b3⟩ := tn_run hK hS n fr lo k (st.1 + 3, st.2.1, rv.toList ++ st.2.2.1.drop (pm_na PT t), h1, sz1, sl1) r hk (by show sz1 ≤ 198; omega) qL q3 a2 h
                  exact ⟨b1, fun a ha => (b3 a ha).trans (a3 a ha)⟩
                · cases e2
              · cases e2
            · rename_i ec
              obtain ⟨m1, m2⟩ := n1 ec
              obtain ⟨⟨a1, a2, a3⟩, a4⟩ := tn_simple hB m1 qL qS qH e2
              have hz := sz_simple ((hS k _ i len hk ei).1) e2
              have hz1 : st'.2.2.2.2.1 = st.2.2.2.2.1 := congrArg (fun q : Nat × Nat => q.1) hz
              obtain ⟨b1, b3⟩ := tn_run hK hS n fr lo k st' r hk (by omega) a1 (tS_le _ _ _ (tn_next hlen m2 e2) a2) a3 h
              exact ⟨b1, fun a ha => (b3 a ha).trans (a4 a ha)⟩
          · cases e2
      · cases h
def tn_c (C : Nat → Nat → List Bool) (G : Nat → Nat → Bool) (K : Nat → Bool) (k : Nat) (x : Nat × Instr × Nat) : Bool := match pm_callee PT k x.2.1 with
  | some (_, t) => K t && (tle ((C k x.1).take (pm_na PT t)) [] && tle (cond (pm_ret PT t).isSome [false] [] ++ (C k x.1).drop (pm_na PT t)) (C k (x.1 + 3)))
  | none => tc x.2.1 (C k x.1) && tnx (C k) x.1 x.2.2 x.2.1 (tf G k x.2.1 (C k x.1))
def tn_b (C : Nat → Nat → List Bool) (G : Nat → Nat → Bool) (K : Nat → Bool) (k : Nat) : Bool := match pd_a2 k with
  | some e => e.2.all (fun c => c.all (fun x => tn_c C G K k x))
  | none => true
theorem tn_of {C : Nat → Nat → List Bool} {K : Nat → Bool} {N : List Nat} (hN : ∀ k, K k = true → k ∈ N) (hb : N.all (tn_b C G K) = true) : tn_ok C G K := by
  intro k pc i len hk hi
  have hb := List.all_eq_true.mp hb k (hN k hk)
  have hi : pd_ins k pc = some (i, len) := hi
  unfold pd_ins at hi
  unfold tn_b at hb
  split at hi
  · rename_i e ee
    rw [ee] at hb
    dsimp only at hb
    unfold pm_ch at hi
    split at hi
    · rename_i c ec
      have h1 := List.all_eq_true.mp (List.all_eq_true.mp hb c (pm_nth_mem ec)) _ (pm_fd_mem hi)
      unfold tn_c at h1
      dsimp only at h1
      refine ⟨fun hn => ?_, fun w t ht => ?_⟩
      · rw [hn] at h1
        dsimp only at h1
        rw [Bool.and_eq_true] at h1
        exact h1
      · rw [ht] at h1
        dsimp only at h1
        rw [Bool.and_eq_true, Bool.and_eq_true] at h1
        exact h1
    · cases hi
  · cases hi
def tk_at (l : List (Nat × List (Nat × List Bool))) (k pc : Nat) : List Bool := match pm_fd l k with
  | some m => (match pm_fd m pc with
    | some t => t
    | none => [])
  | none => []
def tnA (As : List Nat) (i : Nat) : Bool := As.any (fun p => Nat.beq i p)
def tn_tc (As : List Nat) (G : Nat → Nat → Bool) (c : ac) : Bool := match c with
  | .inr (ci, as) => (List.range as.length).all (fun f => G ci f || (match as[f]? with
    | some a => As.all (fun p => !(av_has a p))
    | none => true))
  | .inl (_, n, a) => (List.range n).all (fun j => As.all (fun p => !(av_has (aq a j) p)))
theorem tn_nrv {As : List Nat} {a : av} (hv : av_ok v a) (ha : As.all (fun p => !(av_has a p)) = true) : nrv (tnA As) v := by
  intro p e
  subst e
  cases hp : tnA As p with
  | false => rfl
  | true =>
    exfalso
    obtain ⟨h1, h2⟩ := hv
    obtain ⟨q, hq, e⟩ := List.any_eq_true.mp hp
    have e := Nat.eq_of_beq_eq_true e
    subst e
    have := List.all_eq_true.mp ha p hq
    rw [av_hasn h1 h2] at this
    cases this
theorem tn_ty {As : List Nat} (htb : (List.range 198).all (fun i => tn_tc As G (bB i)) = true) (hh : ah_ok bB 198 [] h) : nrH (tnA As) G h := by
  refine ⟨fun i ci fs hi e f v hv hG => ?_, fun i kd n f hi e j hj => ?_⟩
  · have h0 := hh i hi
    have hb := List.all_eq_true.mp htb i (List.mem_range.mpr hi)
    rw [show ah_get bB [] i = bB i from rfl, e] at h0
    cases hB : bB i with
    | inl q =>
      rw [hB] at h0
      exact h0.elim
    | inr q =>
      obtain ⟨ci', as⟩ := q
      rw [hB] at h0 hb
      obtain ⟨⟨h1, -⟩, h2, h3⟩ := h0
      subst h1
      have hf : f < as.length := by rw [← h2]; exact (List.getElem?_eq_some_iff.mp hv).1
      have hq := List.all_eq_true.mp hb f (List.mem_range.mpr hf)
      rw [hG, Bool.false_or, List.getElem?_eq_getElem hf] at hq
      exact tn_nrv (h3 f v _ hv (List.getElem?_eq_getElem hf)) hq
  · have h0 := hh i hi
    have hb := List.all_eq_true.mp htb i (List.mem_range.mpr hi)
    rw [show ah_get bB [] i = bB i from rfl, e] at h0
    cases hB : bB i with
    | inl q =>
      obtain ⟨kd', n', a⟩ := q
      rw [hB] at h0 hb
      obtain ⟨h1, h2, h3⟩ := h0
      subst h2
      exact tn_nrv (h3 j hj) (List.all_eq_true.mp hb j (List.mem_range.mpr hj))
    | inr q =>
      rw [hB] at h0
      exact h0.elim
/-- a call leaves the cells of As alone -/
theorem tn_keeps {As : List Nat} {P : Nat → Nat → Bool} {K : Nat → Bool} {C : Nat → Nat → List Bool} (hK : tn_ok C G K) (hS : sf_ok P K) (htb : (List.range 198).all (fun i => tn_tc As G (bB i)) = true) (hk : K k = true) (hh : ah_ok bB 198 [] h) {o mx n : Nat} (ho : tnA As o = false) (vs : List Int32) {R : pm_Rs} (hr : pm_run PT n fr lo k (0, pm_l0 (.ref o :: vs.map Value.int) mx, [], h, 198, sl) = some R) : ∀ a, tnA As a = true → R.2.1 a = h a := by
  refine (tn_run hK hS n fr lo k _ R hk (Nat.le_refl _) (nrL_l0 ?_) tS_e (tn_ty htb hh) hr).2
  refine nrS_cons.mpr ⟨fun p e => by cases e; exact ho, fun v hv => ?_⟩
  obtain ⟨x, -, rfl⟩ := List.mem_map.mp hv
  exact nrv_i x
end TNT
end MH95zux0
section MH95zux1
section MG95zuzx0
/-! the same for taints -/
section GZT
variable {k pc len : Nat} {i : Instr} {G : Nat → Nat → Bool}
theorem gz_tto {off : Int} : tto (fun _ => []) pc off [] = true := by
  unfold tto
  split <;> rfl
theorem gz_ti {P : Nat → Nat → Bool} (hs : sf_i P k i = true) (hg : ∀ j, i = .getfield j → tg G k j = false) : tc i [] = true ∧ tnx (fun _ => []) pc len i (tf G k i []) = true := by
  cases i
  case getfield j =>
    refine ⟨rfl, ?_⟩
    show tle (tg G k j :: [].tail) [] = true
    rw [hg j rfl]
    rfl
  case ifCond c off =>
    refine ⟨rfl, ?_⟩
    show (tto (fun _ => []) pc off [] && true) = true
    rw [gz_tto]
    rfl
  case if_icmp c off =>
    refine ⟨rfl, ?_⟩
    show (tto (fun _ => []) pc off [] && true) = true
    rw [gz_tto]
    rfl
  case goto off => exact ⟨rfl, gz_tto⟩
  all_goals first
    | exact ⟨rfl, rfl⟩
    | (cases hs; done)
def gz_tg (C : List (Nat × List (Nat × List Bool))) (G : Nat → Nat → Bool) (K : Nat → Bool) (k : Nat) : Bool := match pm_fd C k with
  | some _ => tn_b (tk_at C) G K k
  | none => gz_ng G K k
theorem gz_tn {C : List (Nat × List (Nat × List Bool))} {K : Nat → Bool} (k : Nat) (q : gz_b k = true) (h : gz_tg C G K k = true) : tn_b (tk_at C) G K k = true := by
  unfold gz_tg at h
  cases e : pm_fd C k with
  | some m => rw [e] at h; exact h
  | none =>
    rw [e] at h
    obtain ⟨h1, h2⟩ := Bool.and_eq_true_iff.mp (show ((gz_cs k).all K && (gz_fs k).all (fun p => !(G p.1 p.2))) = true from h)
    have eT : tk_at C k = fun _ => [] := by
      funext pc
      unfold tk_at
      rw [e]
    unfold gz_b at q
    unfold tn_b
    cases ea : pd_a2 k with
    | none => rfl
    | some e2 =>
      rw [ea] at q
      have q : e2.2.all (fun c => c.all (fun x => gz_c k x.2.1)) = true := q
      show e2.2.all (fun c => c.all (fun x => tn_c (tk_at C) G K k x)) = true
      refine List.all_eq_true.mpr (fun c hc => List.all_eq_true.mpr (fun x hx => ?_))
      obtain ⟨a, b, -, d⟩ := gz_in (List.all_eq_true.mp (List.all_eq_true.mp q c hc) x hx)
      have d := gz_cal h1 d
      unfold tn_c
      rw [eT]
      cases ec : pm_callee PT k x.2.1 with
      | some w =>
        rw [ec] at d
        obtain ⟨w, t⟩ := w
        have d : K t = true := d
        show (K t && (tle (([] : List Bool).take (pm_na PT t)) [] && tle (cond (pm_ret PT t).isSome [false] [] ++ ([] : List Bool).drop (pm_na PT t)) [])) = true
        rw [d, List.take_nil, List.drop_nil]
        cases (pm_ret PT t).isSome <;> rfl
      | none =>
        show (tc x.2.1 [] && tnx (fun _ => []) x.1 x.2.2 x.2.1 (tf G k x.2.1 [])) = true
        obtain ⟨t1, t2⟩ := gz_ti (pc := x.1) (len := x.2.2) (G := G) a (fun j ej => by
          have b2 := gz_nri (fun ci f e => gz_m h2 ci f e) b
          rw [ej] at b2
          have b2 : (match pm_fld PT (pm_o PT k) j with | some (ci, f, _) => !(G ci f) | none => true) = true := b2
          unfold tg
          cases ef : pm_fld PT (pm_o PT k) j with
          | none => rfl
          | some z =>
            rw [ef] at b2
            obtain ⟨ci, f, z⟩ := z
            have b2 : (!(G ci f)) = true := b2
            show G ci f = false
            cases eG : G ci f with
            | false => rfl
            | true => rw [eG] at b2; exact absurd b2 (by decide))
        rw [t1, t2]
        rfl
end GZT
end MG95zuzx0
section MG95zuzx1
/-! a block of a method is passed: fields, locals, and cells that it can't write -/
section TBL
variable {fr lo k pc sz sl : Nat} {L : pm_L} {S : List Value} {h : pm_H} {st st' : pm_St} {A : Nat → Bool} {G : Nat → Nat → Bool} {P : Nat → Nat → Bool} {J : Nat → Bool}
def tbk_ok (C : Nat → Nat → List Bool) (G : Nat → Nat → Bool) (K : Nat → Bool) (k p1 p2 : Nat) : Prop := ∀ pc i len, p1 ≤ pc → pc < p2 → pm_ins PT k pc = some (i, len) → (pm_callee PT k i = none → tc i (C k pc) = true ∧ tnx (C k) pc len i (tf G k i (C k pc)) = true) ∧ ∀ w t, pm_callee PT k i = some (w, t) → K t = true ∧ tle ((C k pc).take (pm_na PT t)) [] = true ∧ tle (cond (pm_ret PT t).isSome [false] [] ++ (C k pc).drop (pm_na PT t)) (C k (pc + 3)) = true
theorem tblk_run {K : Nat → Bool} {C : Nat → Nat → List Bool} {p1 p2 : Nat} (hK : sf_ok P K) (hR : blk_ok P K J k p1 p2) (hT : tn_ok C G K) (hB : tbk_ok C G K k p1 p2) : ∀ (n fr lo : Nat) (st : pm_St) (r : pm_Rs), p1 ≤ st.1 → st.1 < p2 → st.2.2.2.2.1 ≤ 198 → nrL A st.2.1 → tS A (C k st.1) st.2.2.1 → nrH A G st.2.2.2.1 → pm_run PT n fr lo k st = some r → ∃ m L' S' h', pm_run PT m fr lo k (p2, L', S', h', st.2.2.2.2) = some r ∧ (lkp J st.2.1 L' ∧ fm (sfF P) st.2.2.2.1 h') ∧ (nrL A L' ∧ tS A (C k p2) S' ∧ nrH A G h') ∧ ∀ a, A a = true → h' a = st.2.2.2.1 a
  | 0, _, _, _, _, _, _, _, _, _, _, h => by cases h
  | n + 1, fr, lo, st, r, hp, hp2, hz, qL, qS, qH, h => by
    unfold pm_run at h
    split at h
    · rename_i r' e1
      exfalso
      unfold pm_end at e1
      split at e1
      · cases e1
      · rename_i i len ei
        obtain ⟨⟨-, hb⟩, -⟩ := hR _ i len hp hp2 ei
        split at e1
        · split at e1
          · rename_i rv er
            rcases pm_rets_no er with rfl | rfl | rfl
            · cases hb
            · cases hb
            · cases hb
          · cases e1
        · cases e1
    · split at h
      · rename_i st' e2
        have nx : ((p1 ≤ st'.1 ∧ st'.1 ≤ p2) ∧ lkp J st.2.1 st'.2.1 ∧ fm (sfF P) st.2.2.2.1 st'.2.2.2.1 ∧ st'.2.2.2.2 = st.2.2.2.2) ∧ (nrL A st'.2.1 ∧ tS A (C k st'.1) st'.2.2.1 ∧ nrH A G st'.2.2.2.1) ∧ ∀ a, A a = true → st'.2.2.2.1 a = st.2.2.2.1 a := by
          unfold pm_step at e2
          split at e2
          · cases e2
          · rename_i i len ei
            obtain ⟨⟨⟨n1, n2⟩, n3⟩, n4⟩ := hR _ i len hp hp2 ei
            obtain ⟨t1, t2⟩ := hB _ i len hp hp2 ei
            split at e2
            · rename_i hlen
              split at e2
              · rename_i w t ec
                obtain ⟨c1, c2, c3⟩ := t2 w t ec
                split at e2
                · split at e2
                  · rename_i rv h1 sz1 sl1 e3
                    cases e2
                    have hf := sf_run hK n _ _ t (0, pm_l0 (st.2.2.1.take (pm_na PT t)).reverse (pm_max PT t), [], st.2.2.2.1, st.2.2.2.2.1, st.2.2.2.2.2) (rv, h1, sz1, sl1) (n2 w t ec) e3
                    have hz := sz_run hK n _ _ t (0, pm_l0 (st.2.2.1.take (pm_na PT t)).reverse (pm_max PT t), [], st.2.2.2.1, st.2.2.2.2.1, st.2.2.2.2.2) (rv, h1, sz1, sl1) (n2 w t ec) e3
                    have qa := tS_nr (tS_le _ _ [] c2 (tS_take (pm_na PT t) _ _ qS))
                    obtain ⟨⟨a1, a2⟩, a3⟩ := tn_run hT hK n _ _ t (0, pm_l0 (st.2.2.1.take (pm_na PT t)).reverse (pm_max PT t), [], st.2.2.2.1, st.2.2.2.2.1, st.2.2.2.2.2) (rv, h1, sz1, sl1) c1 (by assumption) (nrL_l0 (fun v hv => qa v (List.mem_reverse.mp hv))) tS_e qH e3
                    have q3 : tS A (C k (st.1 + 3)) (rv.toList ++ st.2.2.1.drop (pm_na PT t)) := by
                      refine tS_le _ _ _ c3 ?_
                      have qd := tS_drop (pm_na PT t) _ _ qS
                      cases hr : pm_ret PT t with
                      | none =>
                        have e := vd_run hr e3
                        dsimp only at e
                        subst e
                        exact qd
                      | some ty =>
                        obtain ⟨v, e⟩ := vs_run hr e3
                        dsimp only at e
                        subst e
                        exact ⟨fun _ => a1 v rfl, qd⟩
                    refine ⟨⟨⟨?_, ?_⟩, lkp_rf, hf, hz⟩, ⟨qL, q3, a2⟩, a3⟩
                    · show p1 ≤ st.1 + 3
                      omega
                    · show st.1 + 3 ≤ p2
                      have h3 : len = 3 ∧ st.1 + len ≤ p2 := by
                        unfold pm_callee at ec
                        split at ec
                        all_goals first
                          | (cases ec; done)
                          | exact ⟨by simpa [pm_lenOk] using hlen, Nat.le_of_ble_eq_true n3⟩
                      omega
                  · cases e2
                · cases e2
              · rename_i ec
                obtain ⟨m1, m2⟩ := t1 ec
                obtain ⟨⟨a1, a2, a3⟩, a4⟩ := tn_simple hz m1 qL qS qH e2
                exact ⟨⟨bc_simple hp hlen n3 e2, lk_simple n4 e2, sf_simple n1 e2, sz_simple n1 e2⟩, ⟨a1, tS_le _ _ _ (tn_next hlen m2 e2) a2, a3⟩, a4⟩
            · cases e2
        obtain ⟨⟨⟨b1, b2⟩, b3, b4, b5⟩, ⟨d1, d2, d3⟩, d4⟩ := nx
        by_cases z : st'.1 = p2
        · obtain ⟨pc', L', S', h', s'⟩ := st'
          dsimp only at z b3 b4 b5 d1 d2 d3 d4 h
          subst z
          subst b5
          exact ⟨n, L', S', h', h, ⟨b3, b4⟩, ⟨d1, d2, d3⟩, d4⟩
        · obtain ⟨m, L', S', h', c1, ⟨c2, c3⟩, c4, c5⟩ := tblk_run hK hR hT hB n fr lo st' r b1 (by omega) (by rw [b5]; exact hz) d1 d2 d3 h
          rw [b5] at c1
          exact ⟨m, L', S', h', c1, ⟨lkp_tr b3 c2, fm_tr b4 c3⟩, c4, fun a ha => (c5 a ha).trans (d4 a ha)⟩
      · cases h
def tbk_b (C : Nat → Nat → List Bool) (G : Nat → Nat → Bool) (K : Nat → Bool) (k p1 p2 : Nat) : Bool := match pd_a2 k with
  | some e => e.2.all (fun c => c.all (fun x => (Nat.blt x.1 p1 || Nat.ble p2 x.1) || tn_c C G K k x))
  | none => true
theorem tbk_of {C : Nat → Nat → List Bool} {K : Nat → Bool} {p1 p2 : Nat} (hb : tbk_b C G K k p1 p2 = true) : tbk_ok C G K k p1 p2 := by
  intro pc i len hp hp2 hi
  have hi : pd_ins k pc = some (i, len) := hi
  unfold pd_ins at hi
  unfold tbk_b at hb
  split at hi
  · rename_i e ee
    rw [ee] at hb
    dsimp only at hb
    unfold pm_ch at hi
    split at hi
    · rename_i c ec
      have h1 := List.all_eq_true.mp (List.all_eq_true.mp hb c (pm_nth_mem ec)) _ (pm_fd_mem hi)
      have hn : (Nat.blt pc p1 || Nat.ble p2 pc) = false := by
        cases hx : Nat.blt pc p1 with
        | true => exact absurd (Nat.le_of_ble_eq_true hx) (by omega)
        | false =>
          cases hy : Nat.ble p2 pc with
          | true => exact absurd (Nat.le_of_ble_eq_true hy) (by omega)
          | false => rfl
      rw [hn, Bool.false_or] at h1
      unfold tn_c at h1
      dsimp only at h1
      refine ⟨fun hn => ?_, fun w t ht => ?_⟩
      · rw [hn] at h1
        dsimp only at h1
        rw [Bool.and_eq_true] at h1
        exact h1
      · rw [ht] at h1
        dsimp only at h1
        rw [Bool.and_eq_true, Bool.and_eq_true] at h1
        exact h1
    · cases hi
  · cases hi
end TBL
end MG95zuzx1
end MH95zux1
section MH95zux2
/-! who is a court, who are two courts: both sides -/
section RDA
variable {n fr lo sl cc k pc : Nat} {h : pm_H} {R : pm_Rs} {x y z : Int32} {L : pm_L} {S : List Value}
def cB (cc : Nat) (x : Int32) : Bool := decide (0 ≤ x.toInt ∧ x.toInt < (cc : Int))
def pP (cc : Nat) (x y : Int32) : Bool := cB cc x && (cB cc y && !decide (x = y))
theorem cB_f (q : ¬ (0 ≤ x.toInt ∧ x.toInt < (cc : Int))) : cB cc x = false := decide_eq_false q
theorem cB_t (q : 0 ≤ x.toInt ∧ x.toInt < (cc : Int)) : cB cc x = true := decide_eq_true q
theorem cB_iv (q : cB cc x = true) : ∃ a, a < cc ∧ x = nI a := by
  have q := of_decide_eq_true q
  obtain ⟨j, rfl, hj, ej⟩ := hI_of q.1
  exact ⟨j, by omega, rfl⟩
theorem lt0_e : pm_cmp .lt x 0 = decide (x.toInt < 0) := by
  simp only [pm_cmp]
  rw [Bool.eq_iff_iff, decide_eq_true_iff, decide_eq_true_iff, Int32.lt_iff_toInt_lt, show (0 : Int32).toInt = 0 by decide]
theorem ge_e {c : Nat} (hc : c < 1000) : pm_cmp .ge x (nI c) = decide ((c : Int) ≤ x.toInt) := by
  simp only [pm_cmp]
  rw [Bool.eq_iff_iff, decide_eq_true_iff, decide_eq_true_iff, Int32.le_iff_toInt_le, nI_toInt (by omega)]
theorem le_e {c : Nat} (hc : c < 1000) : pm_cmp .le x (nI c) = decide (x.toInt ≤ (c : Int)) := by
  simp only [pm_cmp]
  rw [Bool.eq_iff_iff, decide_eq_true_iff, decide_eq_true_iff, Int32.le_iff_toInt_le, nI_toInt (by omega)]
/-- the class's isCourt -/
theorem xi_run (hc : cc ≤ 6) (r : rC h (.int (nI cc))) (hh : pm_run PT n fr lo 23 (0, pm_l0 [.ref 5, .int x] 2, [], h, 198, sl) = some R) : R = (some (.int (cond (cB cc x) 1 0)), h, 198, sl) := by
  obtain ⟨rs, e5, e50⟩ := r
  have no : ∀ n : Nat, cB cc x = false → pm_run PT n fr lo 23 (16, [some (.ref 5), some (.int x)], [], h, 198, sl) = some R → R = (some (.int (cond (cB cc x) 1 0)), h, 198, sl) := by
    intro n e hh
    obtain ⟨n, hh⟩ := rn_i rfl rfl rfl rfl hh
    have q := (rn_ret rfl (Or.inr rfl) hh).2
    rw [q, e]
    rfl
  obtain ⟨n, hh⟩ := rn_i rfl rfl rfl rfl hh
  obtain ⟨n, hh⟩ := rn_if (cc := .lt) (off := 15) (t := 16) rfl rfl hh
  rw [lt0_e] at hh
  by_cases a : x.toInt < 0
  · rw [decide_eq_true a] at hh
    exact no n (cB_f (by omega)) hh
  · rw [decide_eq_false a] at hh
    have hh : pm_run PT n fr lo 23 (4, [some (.ref 5), some (.int x)], [], h, 198, sl) = some R := hh
    obtain ⟨n, hh⟩ := rn_i rfl rfl rfl rfl hh
    obtain ⟨n, hh⟩ := rn_i rfl rfl rfl rfl hh
    obtain ⟨n, hh⟩ := rn_gfo (g := 0) rfl rfl (by decide) e5 e50 hh
    obtain ⟨n, hh⟩ := rn_icmp (cc := .ge) (off := 7) (t := 16) rfl rfl hh
    rw [ge_e (by omega)] at hh
    by_cases b : (cc : Int) ≤ x.toInt
    · rw [decide_eq_true b] at hh
      exact no n (cB_f (by omega)) hh
    · rw [decide_eq_false b] at hh
      have hh : pm_run PT n fr lo 23 (12, [some (.ref 5), some (.int x)], [], h, 198, sl) = some R := hh
      obtain ⟨n, hh⟩ := rn_i rfl rfl rfl rfl hh
      obtain ⟨n, hh⟩ := rn_i rfl rfl rfl rfl hh
      have q := (rn_ret rfl (Or.inr rfl) hh).2
      rw [q, cB_t (by omega)]
      rfl
/-- the class's areTwoCourts -/
theorem xa_run (hc : cc ≤ 6) (r : rC h (.int (nI cc))) (hh : pm_run PT n fr lo 24 (0, pm_l0 [.ref 5, .int x, .int y] 3, [], h, 198, sl) = some R) : R = (some (.int (cond (pP cc x y) 1 0)), h, 198, sl) := by
  have no : ∀ n : Nat, pP cc x y = false → pm_run PT n fr lo 24 (25, [some (.ref 5), some (.int x), some (.int y)], [], h, 198, sl) = some R → R = (some (.int (cond (pP cc x y) 1 0)), h, 198, sl) := by
    intro n e hh
    obtain ⟨n, hh⟩ := rn_i rfl rfl rfl rfl hh
    have q := (rn_ret rfl (Or.inr rfl) hh).2
    rw [q, e]
    rfl
  obtain ⟨n, hh⟩ := rn_i rfl rfl rfl rfl hh
  obtain ⟨n, hh⟩ := rn_i rfl rfl rfl rfl hh
  obtain ⟨n, fr', lo', r1, hr1, hh⟩ := rn_call (w := 0) (t := 23) rfl rfl hh
  have er := xi_run hc r hr1
  subst er
  have hh : pm_run PT n fr lo 24 (5, [some (.ref 5), some (.int x), some (.int y)], [.int (cond (cB cc x) 1 0)], h, 198, sl) = some R := hh
  obtain ⟨n, hh⟩ := rn_if (cc := .eq) (off := 20) (t := 25) rfl rfl hh
  cases zx : cB cc x with
  | false =>
    rw [zx] at hh
    exact no n (by unfold pP; rw [zx]; rfl) hh
  | true =>
    rw [zx] at hh
    have hh : pm_run PT n fr lo 24 (8, [some (.ref 5), some (.int x), some (.int y)], [], h, 198, sl) = some R := hh
    obtain ⟨n, hh⟩ := rn_i rfl rfl rfl rfl hh
    obtain ⟨n, hh⟩ := rn_i rfl rfl rfl rfl hh
    obtain ⟨n, fr', lo', r1, hr1, hh⟩ := rn_call (w := 0) (t := 23) rfl rfl hh
    have er := xi_run hc r hr1
    subst er
    have hh : pm_run PT n fr lo 24 (13, [some (.ref 5), some (.int x), some (.int y)], [.int (cond (cB cc y) 1 0)], h, 198, sl) = some R := hh
    obtain ⟨n, hh⟩ := rn_if (cc := .eq) (off := 12) (t := 25) rfl rfl hh
    cases zy : cB cc y with
    | false =>
      rw [zy] at hh
      exact no n (by unfold pP; rw [zy, Bool.false_and, Bool.and_false]) hh
    | true =>
      rw [zy] at hh
      have hh : pm_run PT n fr lo 24 (16, [some (.ref 5), some (.int x), some (.int y)], [], h, 198, sl) = some R := hh
      obtain ⟨n, hh⟩ := rn_i rfl rfl rfl rfl hh
      obtain ⟨n, hh⟩ := rn_i rfl rfl rfl rfl hh
      obtain ⟨n, hh⟩ := rn_icmp (cc := .eq) (off := 7) (t := 25) rfl rfl hh
      have hh : pm_run PT n fr lo 24 (cond (decide (x = y)) 25 21, [some (.ref 5), some (.int x), some (.int y)], [], h, 198, sl) = some R := hh
      cases ze : decide (x = y) with
      | true =>
        rw [ze] at hh
        exact no n (by unfold pP; rw [ze]; simp) hh
      | false =>
        rw [ze] at hh
        have hh : pm_run PT n fr lo 24 (21, [some (.ref 5), some (.int x), some (.int y)], [], h, 198, sl) = some R := hh
        obtain ⟨n, hh⟩ := rn_i rfl rfl rfl rfl hh
        obtain ⟨n, hh⟩ := rn_i rfl rfl rfl rfl hh
        have q := (rn_ret rfl (Or.inr rfl) hh).2
        rw [q]
        unfold pP
        rw [zx, zy, ze]
        rfl
theorem po_run (hh : pm_run PT n fr lo 160 (0, pm_l0 [.int x, .int y] 2, [], h, 198, sl) = some R) : R = (some (.int (x * 6 + y)), h, 198, sl) := by
  obtain ⟨n, hh⟩ := rn_i rfl rfl rfl rfl hh
  obtain ⟨n, hh⟩ := rn_i rfl rfl rfl rfl hh
  obtain ⟨n, hh⟩ := rn_i rfl rfl rfl rfl hh
  obtain ⟨n, hh⟩ := rn_i rfl rfl rfl rfl hh
  obtain ⟨n, hh⟩ := rn_i rfl rfl rfl rfl hh
  exact (rn_ret rfl (Or.inl rfl) hh).2
theorem ix6b (a b : Nat) : nI a * 6 + nI b = nI (6 * a + b) := by
  rw [show (6 : Int32) = nI 6 from rfl, hI_mul, nI_add, Nat.mul_comm]
/-- the reference's isCourt tells the same -/
theorem inb_cB (hc : cc ≤ 6) : in_b x.toInt64 0 (nI cc - 1).toInt64 = cB cc x := by
  have e : ∀ c, c < 7 → (nI c - 1).toInt = (c : Int) - 1 := by decide +kernel
  have e := e cc (by omega)
  generalize nI cc - 1 = w at *
  unfold in_b cB
  have n1 : (0 : Int64).toInt = 0 := by decide
  rw [Bool.eq_iff_iff, Bool.and_eq_true, decide_eq_true_iff, Bool.not_eq_true', Bool.not_eq_true', decide_eq_false_iff_not, decide_eq_false_iff_not, Int64.lt_iff_toInt_lt, Int64.lt_iff_toInt_lt, Int32.toInt_toInt64, Int32.toInt_toInt64, n1, e]
  omega
theorem mi_run (hc : cc ≤ 6) (h3 : mF h 3 (.int (nI cc))) (hh : pm_run PT n fr lo 168 (0, pm_l0 [.ref 162, .int x] 2, [], h, 198, sl) = some R) : R = (some (.int (cond (cB cc x) 1 0)), h, 198, sl) := by
  have q := rn_dt (F := 10) (Lo := 1000) (hd_isCourt (fr := 10) (lo := 1000) (sl := sl) x h3 (by omega) (by omega)) hh
  rw [inb_cB hc] at q
  exact q
theorem ma_run (hc : cc ≤ 6) (h3 : mF h 3 (.int (nI cc))) (hh : pm_run PT n fr lo 170 (0, pm_l0 [.ref 162, .int x, .int y] 3, [], h, 198, sl) = some R) : R = (some (.int (cond (pP cc x y) 1 0)), h, 198, sl) := by
  have no : ∀ n : Nat, pP cc x y = false → pm_run PT n fr lo 170 (25, [some (.ref 162), some (.int x), some (.int y)], [], h, 198, sl) = some R → R = (some (.int (cond (pP cc x y) 1 0)), h, 198, sl) := by
    intro n e hh
    obtain ⟨n, hh⟩ := rn_i rfl rfl rfl rfl hh
    have q := (rn_ret rfl (Or.inr rfl) hh).2
    rw [q, e]
    rfl
  obtain ⟨n, hh⟩ := rn_i rfl rfl rfl rfl hh
  obtain ⟨n, hh⟩ := rn_i rfl rfl rfl rfl hh
  obtain ⟨n, fr', lo', r1, hr1, hh⟩ := rn_call (w := 0) (t := 168) rfl rfl hh
  have er := mi_run hc h3 hr1
  subst er
  have hh : pm_run PT n fr lo 170 (5, [some (.ref 162), some (.int x), some (.int y)], [.int (cond (cB cc x) 1 0)], h, 198, sl) = some R := hh
  obtain ⟨n, hh⟩ := rn_if (cc := .eq) (off := 20) (t := 25) rfl rfl hh
  cases zx : cB cc x with
  | false =>
    rw [zx] at hh
    exact no n (by unfold pP; rw [zx]; rfl) hh
  | true =>
    rw [zx] at hh
    have hh : pm_run PT n fr lo 170 (8, [some (.ref 162), some (.int x), some (.int y)], [], h, 198, sl) = some R := hh
    obtain ⟨n, hh⟩ := rn_i rfl rfl rfl rfl hh
    obtain ⟨n, hh⟩ := rn_i rfl rfl rfl rfl hh
    obtain ⟨n, fr', lo', r1, hr1, hh⟩ := rn_call (w := 0) (t := 168) rfl rfl hh
    have er := mi_run hc h3 hr1
    subst er
    have hh : pm_run PT n fr lo 170 (13, [some (.ref 162), some (.int x), some (.int y)], [.int (cond (cB cc y) 1 0)], h, 198, sl) = some R := hh
    obtain ⟨n, hh⟩ := rn_if (cc := .eq) (off := 12) (t := 25) rfl rfl hh
    cases zy : cB cc y with
    | false =>
      rw [zy] at hh
      exact no n (by unfold pP; rw [zy, Bool.false_and, Bool.and_false]) hh
    | true =>
      rw [zy] at hh
      have hh : pm_run PT n fr lo 170 (16, [some (.ref 162), some (.int x), some (.int y)], [], h, 198, sl) = some R := hh
      obtain ⟨n, hh⟩ := rn_i rfl rfl rfl rfl hh
      obtain ⟨n, hh⟩ := rn_i rfl rfl rfl rfl hh
      obtain ⟨n, hh⟩ := rn_icmp (cc := .eq) (off := 7) (t := 25) rfl rfl hh
      have hh : pm_run PT n fr lo 170 (cond (decide (x = y)) 25 21, [some (.ref 162), some (.int x), some (.int y)], [], h, 198, sl) = some R := hh
      cases ze : decide (x = y) with
      | true =>
        rw [ze] at hh
        exact no n (by unfold pP; rw [ze]; simp) hh
      | false =>
        rw [ze] at hh
        have hh : pm_run PT n fr lo 170 (21, [some (.ref 162), some (.int x), some (.int y)], [], h, 198, sl) = some R := hh
        obtain ⟨n, hh⟩ := rn_i rfl rfl rfl rfl hh
        obtain ⟨n, hh⟩ := rn_i rfl rfl rfl rfl hh
        have q := (rn_ret rfl (Or.inr rfl) hh).2
        rw [q]
        unfold pP
        rw [zx, zy, ze]
        rfl
end RDA
/-! road, both sides -/
section RDB
variable {n fr lo sl cc : Nat} {h h1 h2 : pm_H} {R : pm_Rs} {x y z v w : Int32} {f g : Nat → Int32}
def rdB (cc : Nat) (x y z : Int32) : Bool := pP cc x y && decide (0 ≤ z.toInt ∧ z.toInt ≤ 9)
def rdU (f : Nat → Int32) (a b : Nat) (z : Int32) : Nat → Int32 := upd (upd f (6 * a + b) z) (6 * b + a) z
theorem rdB_iv (q : rdB cc x y z = true) : ∃ a b, a < cc ∧ b < cc ∧ x = nI a ∧ y = nI b := by
  unfold rdB pP at q
  rw [Bool.and_eq_true, Bool.and_eq_true, Bool.and_eq_true] at q
  obtain ⟨a, ha, ea⟩ := cB_iv q.1.1
  obtain ⟨b, hb, eb⟩ := cB_iv q.1.2.1
  exact ⟨a, b, ha, hb, ea, eb⟩
/-- the class's road -/
theorem xrd_run (hc : cc ≤ 6) {fs rs : List Value} (e0 : h 0 = .inr (10, fs)) (e02 : fs[2]? = some (.ref 5)) (e5 : h 5 = .inr (3, rs)) (e50 : rs[0]? = some (.int (nI cc))) (e54 : rs[4]? = some (.ref 8)) (e8 : h 8 = .inl (0, 36, .inl f)) (hh : pm_run PT n fr lo 94 (0, pm_l0 [.ref 0, .int x, .int y, .int z] 5, [], h, 198, sl) = some R) : (rdB cc x y z = false ∧ R = (some (.int (Int32.ofInt (-1))), h, 198, sl)) ∨ ∃ a b, a < cc ∧ b < cc ∧ x = nI a ∧ y = nI b ∧ rdB cc x y z = true ∧ R = (some (.int (f (6 * a + b))), aset h 8 36 (rdU f a b z), 198, sl) := by
  have no : ∀ n : Nat, rdB cc x y z = false → pm_run PT n fr lo 94 (22, [some (.ref 0), some (.int x), some (.int y), some (.int z), none], [], h, 198, sl) = some R → rdB cc x y z = false ∧ R = (some (.int (Int32.ofInt (-1))), h, 198, sl) := by
    intro n e hh
    obtain ⟨n, hh⟩ := rn_i rfl rfl rfl rfl hh
    exact ⟨e, (rn_ret rfl (Or.inl rfl) hh).2⟩
  obtain ⟨n, hh⟩ := rn_i rfl rfl rfl rfl hh
  obtain ⟨n, hh⟩ := rn_gfo (g := 2) rfl rfl (by decide) e0 e02 hh
  obtain ⟨n, hh⟩ := rn_i rfl rfl rfl rfl hh
  obtain ⟨n, hh⟩ := rn_i rfl rfl rfl rfl hh
  obtain ⟨n, fr', lo', r1, hr1, hh⟩ := rn_call (w := 0) (t := 24) rfl rfl hh
  have er := xa_run hc ⟨rs, e5, e50⟩ hr1
  subst er
  have hh : pm_run PT n fr lo 94 (9, [some (.ref 0), some (.int x), some (.int y), some (.int z), none], [.int (cond (pP cc x y) 1 0)], h, 198, sl) = some R := hh
  obtain ⟨n, hh⟩ := rn_if (cc := .eq) (off := 13) (t := 22) rfl rfl hh
  cases zp : pP cc x y with
  | false =>
    rw [zp] at hh
    exact Or.inl (no n (by unfold rdB; rw [zp]; rfl) hh)
  | true =>
    rw [zp] at hh
    have hh : pm_run PT n fr lo 94 (12, [some (.ref 0), some (.int x), some (.int y), some (.int z), none], [], h, 198, sl) = some R := hh
    obtain ⟨n, hh⟩ := rn_i rfl rfl rfl rfl hh
    obtain ⟨n, hh⟩ := rn_if (cc := .lt) (off := 9) (t := 22) rfl rfl hh
    rw [lt0_e] at hh
    by_cases z0 : z.toInt < 0
    · rw [decide_eq_true z0] at hh
      exact Or.inl (no n (by unfold rdB; rw [decide_eq_false (show ¬ (0 ≤ z.toInt ∧ z.toInt ≤ 9) by omega), Bool.and_false]) hh)
    · rw [decide_eq_false z0] at hh
      have hh : pm_run PT n fr lo 94 (16, [some (.ref 0), some (.int x), some (.int y), some (.int z), none], [], h, 198, sl) = some R := hh
      obtain ⟨n, hh⟩ := rn_i rfl rfl rfl rfl hh
      obtain ⟨n, hh⟩ := rn_i rfl rfl rfl rfl hh
      have hh : pm_run PT n fr lo 94 (19, [some (.ref 0), some (.int x), some (.int y), some (.int z), none], [.int (nI 9), .int z], h, 198, sl) = some R := hh
      obtain ⟨n, hh⟩ := rn_icmp (cc := .le) (off := 5) (t := 24) rfl rfl hh
      rw [le_e (by omega)] at hh
      by_cases z9 : z.toInt ≤ ((9 : Nat) : Int)
      · rw [decide_eq_true z9] at hh
        have eb : rdB cc x y z = true := by
          unfold rdB
          rw [zp, decide_eq_true (show 0 ≤ z.toInt ∧ z.toInt ≤ 9 by omega)]
          rfl
        obtain ⟨a, b, ha, hb, rfl, rfl⟩ := rdB_iv eb
        refine Or.inr ⟨a, b, ha, hb, rfl, rfl, eb, ?_⟩
        have hh : pm_run PT n fr lo 94 (24, [some (.ref 0), some (.int (nI a)), some (.int (nI b)), some (.int z), none], [], h, 198, sl) = some R := hh
        obtain ⟨n, hh⟩ := rn_i rfl rfl rfl rfl hh
        obtain ⟨n, hh⟩ := rn_gfo (g := 2) rfl rfl (by decide) e0 e02 hh
        obtain ⟨n, hh⟩ := rn_gfo (g := 4) rfl rfl (by decide) e5 e54 hh
        obtain ⟨n, hh⟩ := rn_i rfl rfl rfl rfl hh
        obtain ⟨n, hh⟩ := rn_i rfl rfl rfl rfl hh
        obtain ⟨n, fr', lo', r1, hr1, hh⟩ := rn_call (w := 2) (t := 160) rfl rfl hh
        have er := po_run hr1
        subst er
        rw [ix6b] at hh
        have hh : pm_run PT n fr lo 94 (36, [some (.ref 0), some (.int (nI a)), some (.int (nI b)), some (.int z), none], [.int (nI (6 * a + b)), .ref 8], h, 198, sl) = some R := hh
        obtain ⟨n, hh⟩ := rn_iam rfl e8 (hI_in (by omega) (by omega)) (by decide) hh
        rw [nI_clamp (by omega)] at hh
        obtain ⟨n, hh⟩ := rn_i rfl rfl rfl rfl hh
        have hh : pm_run PT n fr lo 94 (39, [some (.ref 0), some (.int (nI a)), some (.int (nI b)), some (.int z), some (.int (f (6 * a + b)))], [], h, 198, sl) = some R := hh
        obtain ⟨n, hh⟩ := rn_i rfl rfl rfl rfl hh
        obtain ⟨n, hh⟩ := rn_gfo (g := 2) rfl rfl (by decide) e0 e02 hh
        obtain ⟨n, hh⟩ := rn_gfo (g := 4) rfl rfl (by decide) e5 e54 hh
        obtain ⟨n, hh⟩ := rn_i rfl rfl rfl rfl hh
        obtain ⟨n, hh⟩ := rn_i rfl rfl rfl rfl hh
        obtain ⟨n, fr', lo', r1, hr1, hh⟩ := rn_call (w := 2) (t := 160) rfl rfl hh
        have er := po_run hr1
        subst er
        rw [ix6b] at hh
        obtain ⟨n, hh⟩ := rn_i rfl rfl rfl rfl hh
        have hh : pm_run PT n fr lo 94 (52, [some (.ref 0), some (.int (nI a)), some (.int (nI b)), some (.int z), some (.int (f (6 * a + b)))], [.int z, .int (nI (6 * a + b)), .ref 8], h, 198, sl) = some R := hh
        obtain ⟨n, hh⟩ := rn_ism rfl e8 (hI_in (by omega) (by omega)) (by decide) hh
        rw [nI_clamp (by omega)] at hh
        have d0 : aset h 8 36 (upd f (6 * a + b) z) 0 = .inr (10, fs) := (asR_ne (by decide)).trans e0
        have d5 : aset h 8 36 (upd f (6 * a + b) z) 5 = .inr (3, rs) := (asR_ne (by decide)).trans e5
        have d8 : aset h 8 36 (upd f (6 * a + b) z) 8 = .inl (0, 36, .inl (upd f (6 * a + b) z)) := asR_self
        have hh : pm_run PT n fr lo 94 (53, [some (.ref 0), some (.int (nI a)), some (.int (nI b)), some (.int z), some (.int (f (6 * a + b)))], [], aset h 8 36 (upd f (6 * a + b) z), 198, sl) = some R := hh
        obtain ⟨n, hh⟩ := rn_i rfl rfl rfl rfl hh
        obtain ⟨n, hh⟩ := rn_gfo (g := 2) rfl rfl (by decide) d0 e02 hh
        obtain ⟨n, hh⟩ := rn_gfo (g := 4) rfl rfl (by decide) d5 e54 hh
        obtain ⟨n, hh⟩ := rn_i rfl rfl rfl rfl hh
        obtain ⟨n, hh⟩ := rn_i rfl rfl rfl rfl hh
        obtain ⟨n, fr', lo', r1, hr1, hh⟩ := rn_call (w := 2) (t := 160) rfl rfl hh
        have er := po_run hr1
        subst er
        rw [ix6b] at hh
        obtain ⟨n, hh⟩ := rn_i rfl rfl rfl rfl hh
        have hh : pm_run PT n fr lo 94 (66, [some (.ref 0), some (.int (nI a)), some (.int (nI b)), some (.int z), some (.int (f (6 * a + b)))], [.int z, .int (nI (6 * b + a)), .ref 8], aset h 8 36 (upd f (6 * a + b) z), 198, sl) = some R := hh
        obtain ⟨n, hh⟩ := rn_ism rfl d8 (hI_in (by omega) (by omega)) (by decide) hh
        rw [nI_clamp (by omega), aset_aset] at hh
        obtain ⟨n, hh⟩ := rn_i rfl rfl rfl rfl hh
        exact (rn_ret rfl (Or.inl rfl) hh).2
      · rw [decide_eq_false z9] at hh
        exact Or.inl (no n (by unfold rdB; rw [decide_eq_false (show ¬ (0 ≤ z.toInt ∧ z.toInt ≤ 9) by omega), Bool.and_false]) hh)
theorem in9_b : in_b z.toInt64 0 9 = decide (0 ≤ z.toInt ∧ z.toInt ≤ 9) := by
  have e2 : (nI 9).toInt64 = 9 := by decide
  have q := in_bc z (c := 9) (by decide)
  rw [e2] at q
  exact q
/-- the reference's road -/
theorem mr_run (hc : cc ≤ 6) {w0 : Value} (h0 : mF h 0 w0) (h3 : mF h 3 (.int (nI cc))) (h11 : mF h 11 (.ref 169)) (e9 : h 169 = .inl (0, 36, .inl g)) (hh : pm_run PT n fr lo 209 (0, pm_l0 [.ref 162, .int x, .int y, .int z] 5, [], h, 198, sl) = some R) : (rdB cc x y z = false ∧ R = (some (.int (Int32.ofInt (-1))), mset h 0 (.int 0), 198, sl)) ∨ ∃ a b, a < cc ∧ b < cc ∧ x = nI a ∧ y = nI b ∧ rdB cc x y z = true ∧ R = (some (.int (g (6 * a + b))), aset (mset h 0 (.int 0)) 169 36 (rdU g a b z), 198, sl) := by
  obtain ⟨n, hh⟩ := rn_i rfl rfl rfl rfl hh
  obtain ⟨n, hh⟩ := rn_i rfl rfl rfl rfl hh
  obtain ⟨n, hh⟩ := rn_pfm (w := w0) rfl rfl rfl (by decide) h0 hh
  have h3 : mF (mset h 0 (.int (Int32.ofInt 0))) 3 (.int (nI cc)) := mF_ne (by decide) h3
  have h11 : mF (mset h 0 (.int (Int32.ofInt 0))) 11 (.ref 169) := mF_ne (by decide) h11
  have e9 : mset h 0 (.int (Int32.ofInt 0)) 169 = .inl (0, 36, .inl g) := mset_arr (by decide) e9
  have em : mset h 0 (.int (Int32.ofInt 0)) = mset h 0 (.int 0) := rfl
  rw [em] at hh h3 h11 e9
  generalize mset h 0 (.int 0) = hb at *
  have no : ∀ n : Nat, rdB cc x y z = false → pm_run PT n fr lo 209 (26, [some (.ref 162), some (.int x), some (.int y), some (.int z), none], [], hb, 198, sl) = some R → rdB cc x y z = false ∧ R = (some (.int (Int32.ofInt (-1))), hb, 198, sl) := by
    intro n e hh
    obtain ⟨n, hh⟩ := rn_i rfl rfl rfl rfl hh
    exact ⟨e, (rn_ret rfl (Or.inl rfl) hh).2⟩
  have hh : pm_run PT n fr lo 209 (5, [some (.ref 162), some (.int x), some (.int y), some (.int z), none], [], hb, 198, sl) = some R := hh
  obtain ⟨n, hh⟩ := rn_i rfl rfl rfl rfl hh
  obtain ⟨n, hh⟩ := rn_i rfl rfl rfl rfl hh
  obtain ⟨n, hh⟩ := rn_i rfl rfl rfl rfl hh
  obtain ⟨n, fr', lo', r1, hr1, hh⟩ := rn_call (w := 0) (t := 170) rfl rfl hh
  have er := ma_run hc h3 hr1
  subst er
  have hh : pm_run PT n fr lo 209 (11, [some (.ref 162), some (.int x), some (.int y), some (.int z), none], [.int (cond (pP cc x y) 1 0)], hb, 198, sl) = some R := hh
  obtain ⟨n, hh⟩ := rn_if (cc := .eq) (off := 15) (t := 26) rfl rfl hh
  cases zp : pP cc x y with
  | false =>
    rw [zp] at hh
    exact Or.inl (no n (by unfold rdB; rw [zp]; rfl) hh)
  | true =>
    rw [zp] at hh
    have hh : pm_run PT n fr lo 209 (14, [some (.ref 162), some (.int x), some (.int y), some (.int z), none], [], hb, 198, sl) = some R := hh
    obtain ⟨n, hh⟩ := rn_i rfl rfl rfl rfl hh
    obtain ⟨n, hh⟩ := rn_i rfl rfl rfl rfl hh
    obtain ⟨n, hh⟩ := rn_i rfl rfl rfl rfl hh
    obtain ⟨n, hh⟩ := rn_i rfl rfl rfl rfl hh
    obtain ⟨n, fr', lo', r1, hr1, hh⟩ := rn_call (w := 2) (t := 163) rfl rfl hh
    have er := rn_dt (F := 10) (Lo := 1000) (hd_in (fr := 10) (lo := 1000) (h := hb) (sl := sl) z.toInt64 0 9) hr1
    subst er
    rw [in9_b] at hh
    have hh : pm_run PT n fr lo 209 (23, [some (.ref 162), some (.int x), some (.int y), some (.int z), none], [.int (cond (decide (0 ≤ z.toInt ∧ z.toInt ≤ 9)) 1 0)], hb, 198, sl) = some R := hh
    obtain ⟨n, hh⟩ := rn_if (cc := .ne) (off := 5) (t := 28) rfl rfl hh
    cases zz : decide (0 ≤ z.toInt ∧ z.toInt ≤ 9) with
    | false =>
      rw [zz] at hh
      exact Or.inl (no n (by unfold rdB; rw [zz, Bool.and_false]) hh)
    | true =>
      rw [zz] at hh
      have eb : rdB cc x y z = true := by
        unfold rdB
        rw [zp, zz]
        rfl
      obtain ⟨a, b, ha, hb', rfl, rfl⟩ := rdB_iv eb
      refine Or.inr ⟨a, b, ha, hb', rfl, rfl, eb, ?_⟩
      have hh : pm_run PT n fr lo 209 (28, [some (.ref 162), some (.int (nI a)), some (.int (nI b)), some (.int z), none], [], hb, 198, sl) = some R := hh
      obtain ⟨n, hh⟩ := rn_i rfl rfl rfl rfl hh
      obtain ⟨n, hh⟩ := rn_gfm rfl rfl h11 hh
      obtain ⟨n, hh⟩ := rn_i rfl rfl rfl rfl hh
      obtain ⟨n, hh⟩ := rn_i rfl rfl rfl rfl hh
      obtain ⟨n, hh⟩ := rn_i rfl rfl rfl rfl hh
      obtain ⟨n, hh⟩ := rn_i rfl rfl rfl rfl hh
      obtain ⟨n, hh⟩ := rn_i rfl rfl rfl rfl hh
      have hh : pm_run PT n fr lo 209 (38, [some (.ref 162), some (.int (nI a)), some (.int (nI b)), some (.int z), none], [.int (6 * nI a + nI b), .ref 169], hb, 198, sl) = some R := hh
      rw [ix6] at hh
      obtain ⟨n, hh⟩ := rn_iam rfl e9 (hI_in (by omega) (by omega)) (by decide) hh
      rw [nI_clamp (by omega)] at hh
      obtain ⟨n, hh⟩ := rn_i rfl rfl rfl rfl hh
      have hh : pm_run PT n fr lo 209 (41, [some (.ref 162), some (.int (nI a)), some (.int (nI b)), some (.int z), some (.int (g (6 * a + b)))], [], hb, 198, sl) = some R := hh
      obtain ⟨n, hh⟩ := rn_i rfl rfl rfl rfl hh
      obtain ⟨n, hh⟩ := rn_gfm rfl rfl h11 hh
      obtain ⟨n, hh⟩ := rn_i rfl rfl rfl rfl hh
      obtain ⟨n, hh⟩ := rn_i rfl rfl rfl rfl hh
      obtain ⟨n, hh⟩ := rn_i rfl rfl rfl rfl hh
      obtain ⟨n, hh⟩ := rn_i rfl rfl rfl rfl hh
      obtain ⟨n, hh⟩ := rn_i rfl rfl rfl rfl hh
      obtain ⟨n, hh⟩ := rn_i rfl rfl rfl rfl hh
      have hh : pm_run PT n fr lo 209 (52, [some (.ref 162), some (.int (nI a)), some (.int (nI b)), some (.int z), some (.int (g (6 * a + b)))], [.int z, .int (6 * nI a + nI b), .ref 169], hb, 198, sl) = some R := hh
      rw [ix6] at hh
      obtain ⟨n, hh⟩ := rn_ism rfl e9 (hI_in (by omega) (by omega)) (by decide) hh
      rw [nI_clamp (by omega)] at hh
      have d11 : mF (aset hb 169 36 (upd g (6 * a + b) z)) 11 (.ref 169) := aset_mF (by decide) h11
      have d9 : aset hb 169 36 (upd g (6 * a + b) z) 169 = .inl (0, 36, .inl (upd g (6 * a + b) z)) := asR_self
      have hh : pm_run PT n fr lo 209 (53, [some (.ref 162), some (.int (nI a)), some (.int (nI b)), some (.int z), some (.int (g (6 * a + b)))], [], aset hb 169 36 (upd g (6 * a + b) z), 198, sl) = some R := hh
      obtain ⟨n, hh⟩ := rn_i rfl rfl rfl rfl hh
      obtain ⟨n, hh⟩ := rn_gfm rfl rfl d11 hh
      obtain ⟨n, hh⟩ := rn_i rfl rfl rfl rfl hh
      obtain ⟨n, hh⟩ := rn_i rfl rfl rfl rfl hh
      obtain ⟨n, hh⟩ := rn_i rfl rfl rfl rfl hh
      obtain ⟨n, hh⟩ := rn_i rfl rfl rfl rfl hh
      obtain ⟨n, hh⟩ := rn_i rfl rfl rfl rfl hh
      obtain ⟨n, hh⟩ := rn_i rfl rfl rfl rfl hh
      have hh : pm_run PT n fr lo 209 (64, [some (.ref 162), some (.int (nI a)), some (.int (nI b)), some (.int z), some (.int (g (6 * a + b)))], [.int z, .int (6 * nI b + nI a), .ref 169], aset hb 169 36 (upd g (6 * a + b) z), 198, sl) = some R := hh
      rw [ix6] at hh
      obtain ⟨n, hh⟩ := rn_ism rfl d9 (hI_in (by omega) (by omega)) (by decide) hh
      rw [nI_clamp (by omega), aset_aset] at hh
      obtain ⟨n, hh⟩ := rn_i rfl rfl rfl rfl hh
      exact (rn_ret rfl (Or.inl rfl) hh).2
end RDB
/-! the roads' cells: who writes them -/
section RDC
variable {n fr lo sl k kx km cc : Nat} {h h1 h2 : pm_H} {R : pm_Rs} {vs : List Int32} {x y z v w : Int32}
def roC : List (Nat × List (Nat × List Bool)) := [(35, [(28, [true]), (29, [false, true]), (30, [false, false, true]), (33, [false, true])]), (47, [(20, [true]), (21, [false, true]), (22, [false, false, true]), (25, [false, true])]), (49, [(20, [true]), (21, [false, true]), (22, [false, false, true]), (25, [false, true])]), (51, [(41, [true]), (42, [false, true]), (44, [false, false, true]), (47, [false, true])]), (207, [(35, [true]), (37, [false, true]), (38, [false, false, true]), (39, [false, true]), (40, [false, false, true]), (41, [false, true])]), (237, [(70, [true]), (72, [false, true]), (73, [false, false, true]), (74, [false, true]), (76, [false, false, true]), (77, [false, true])]), (238, [(85, [true]), (87, [false, true]), (88, [false, false, true]), (89, [false, true]), (91, [false, false, true]), (92, [false, true])]), (239, [(157, [true]), (159, [false, true]), (161, [false, false, true]), (162, [false, true]), (164, [false, false, true]), (165, [false, true])]), (266, [(66, [true]), (68, [false, true]), (69, [false, false, true]), (70, [false, true]), (72, [false, false, true]), (73, [false, true])])]
def roG (ci f : Nat) : Bool := (Nat.beq ci 3 && Nat.beq f 4) || (Nat.beq ci 11 && Nat.beq f 11)
def roX : List Nat := [0, 6, 15, 22, 45, 52, 57, 72, 78, 82, 85, 91, 92, 93, 94, 128, 161, 188, 189, 209]
def roK : Nat → Bool := sf_X roX
theorem ro_all : ((List.range 271).filter (fun k => !(roX.any (fun x => Nat.beq x k)))).all (fun k => sf_b nP0 roK k && tn_b (tk_at roC) roG roK k) = true := gz_lift (X := roX) (g := fun k => gz_sg nP0 roK k && gz_tg roC roG roK k) (by decide +kernel) (gz_2 gz_sf gz_tn) (by decide +kernel)
theorem ro_sf : sf_ok nP0 roK := sf_of sf_X_in (List.all_eq_true.mpr (fun k hk => ((Bool.and_eq_true _ _).mp (List.all_eq_true.mp ro_all k hk)).1))
theorem ro_tn : tn_ok (tk_at roC) roG roK := tn_of sf_X_in (List.all_eq_true.mpr (fun k hk => ((Bool.and_eq_true _ _).mp (List.all_eq_true.mp ro_all k hk)).2))
theorem ro_tb : (List.range 198).all (fun i => tn_tc [8, 169] roG (bB i)) = true := by decide +kernel
end RDC
end MH95zux2
section MH95zux3
/-! the reference's courts and the roads: new courts have none -/
section RDE
variable {n fr lo sl k pc cc c N j : Nat} {h : pm_H} {R : pm_Rs} {L : pm_L} {S : List Value} {g : Nat → Int32} {A : Int32}
def roA : Nat → Bool := tnA [8, 169]
/-- a store that went through -/
theorem rn_isx {a : Nat} {i x : Int32} (hi : pm_ins PT k pc = some (.iastore, 1)) (hh : pm_run PT n fr lo k (pc, L, .int x :: .int i :: .ref a :: S, h, 198, sl) = some R) : ∃ m kd q, ∃ f' : Nat → Int32, pm_run PT m fr lo k (pc + 1, L, S, va_up h a (.inl (kd, q, .inl f')), 198, sl) = some R := by
  obtain ⟨st, m, e, hh⟩ := rn_ex hi rfl (fun q => by cases q) (fun q => by cases q) (fun q => by cases q) hh
  have e : pm_iS PT .int (fun x => x) pc L (.int x :: .int i :: .ref a :: S) h 198 sl = some st := e
  unfold pm_iS at e
  dsimp only at e
  cases ha : pm_iar PT .int h 198 a with
  | none => rw [ha] at e; cases e
  | some q =>
    obtain ⟨kd, q, f⟩ := q
    rw [ha] at e
    dsimp only at e
    by_cases z : pm_in i q = true
    · rw [if_pos z] at e
      cases e
      exact ⟨m, kd, q, _, hh⟩
    · rw [if_neg z] at e
      cases e
theorem up_ne {a b : Nat} {e : pm_E} (hn : b ≠ a) : va_up h a e b = h b := by simp [va_up, hn]
theorem up_mF {a i : Nat} {e : pm_E} {v : Value} (hn : 162 ≠ a) (q : mF h i v) : mF (va_up h a e) i v := by
  obtain ⟨fs, e1, e2⟩ := q
  exact ⟨fs, (up_ne hn).trans e1, e2⟩
theorem up_nrH {a kd q : Nat} {f : Nat → Int32} (x : nrH roA roG h) : nrH roA roG (va_up h a (.inl (kd, q, .inl f))) := nrH_arr x (fun kd n f e => by cases e)
/-- what the loops keep -/
def crI (h : pm_H) (g : Nat → Int32) (c : Nat) (A : Int32) : Prop := (mF h 11 (.ref 169) ∧ mF h 12 (.ref 170) ∧ mF h 3 (.int (nI c)) ∧ mF h 20 (.int A)) ∧ (∃ g1, h 169 = .inl (0, 36, .inl g1) ∧ ∀ j, j < 36 → g1 j = g j) ∧ nrH roA roG h
theorem crI_up {kd q : Nat} {f : Nat → Int32} (x : crI h g c A) : crI (va_up h 170 (.inl (kd, q, .inl f))) g c A := by
  obtain ⟨⟨a1, a2, a3, a4⟩, ⟨g1, b1, b2⟩, d⟩ := x
  exact ⟨⟨up_mF (by decide) a1, up_mF (by decide) a2, up_mF (by decide) a3, up_mF (by decide) a4⟩, ⟨g1, (up_ne (by decide)).trans b1, b2⟩, up_nrH d⟩
/-- comes: the road is put to 0 -/
theorem cr_comes {a b : Nat} (ha : a < 6) (hb : b < 6) (hz : g (6 * a + b) = 0) (x : crI h g c A) (hh : pm_run PT n fr lo 189 (0, pm_l0 [.ref 162, .int (nI a), .int (nI b)] 3, [], h, 198, sl) = some R) : R.1 = none ∧ crI R.2.1 g c A ∧ R.2.2 = (198, sl) := by
  obtain ⟨n, hh⟩ := rn_i rfl rfl rfl rfl hh
  obtain ⟨n, hh⟩ := rn_gfm rfl rfl x.1.2.1 hh
  obtain ⟨n, hh⟩ := rn_i rfl rfl rfl rfl hh
  obtain ⟨n, hh⟩ := rn_i rfl rfl rfl rfl hh
  obtain ⟨n, hh⟩ := rn_i rfl rfl rfl rfl hh
  obtain ⟨n, hh⟩ := rn_i rfl rfl rfl rfl hh
  obtain ⟨n, hh⟩ := rn_i rfl rfl rfl rfl hh
  obtain ⟨n, hh⟩ := rn_i rfl rfl rfl rfl hh
  obtain ⟨n, hh⟩ := rn_i rfl rfl rfl rfl hh
  obtain ⟨n, hh⟩ := rn_i rfl rfl rfl rfl hh
  obtain ⟨n, kd, q, f1, hh⟩ := rn_isx rfl hh
  have x := crI_up (kd := kd) (q := q) (f := f1) x
  generalize va_up h 170 (.inl (kd, q, .inl f1)) = ha1 at *
  have hh : pm_run PT n fr lo 189 (16, [some (.ref 162), some (.int (nI a)), some (.int (nI b))], [], ha1, 198, sl) = some R := hh
  obtain ⟨n, hh⟩ := rn_i rfl rfl rfl rfl hh
  obtain ⟨n, hh⟩ := rn_gfm rfl rfl x.1.2.1 hh
  obtain ⟨n, hh⟩ := rn_i rfl rfl rfl rfl hh
  obtain ⟨n, hh⟩ := rn_i rfl rfl rfl rfl hh
  obtain ⟨n, hh⟩ := rn_i rfl rfl rfl rfl hh
  obtain ⟨n, hh⟩ := rn_i rfl rfl rfl rfl hh
  obtain ⟨n, hh⟩ := rn_i rfl rfl rfl rfl hh
  obtain ⟨n, hh⟩ := rn_i rfl rfl rfl rfl hh
  obtain ⟨n, hh⟩ := rn_i rfl rfl rfl rfl hh
  obtain ⟨n, hh⟩ := rn_i rfl rfl rfl rfl hh
  obtain ⟨n, kd, q, f1, hh⟩ := rn_isx rfl hh
  have x := crI_up (kd := kd) (q := q) (f := f1) x
  generalize va_up ha1 170 (.inl (kd, q, .inl f1)) = ha2 at *
  have hh : pm_run PT n fr lo 189 (31, [some (.ref 162), some (.int (nI a)), some (.int (nI b))], [], ha2, 198, sl) = some R := hh
  obtain ⟨⟨a1, a2, a3, a4⟩, ⟨g1, b1, b2⟩, d⟩ := x
  obtain ⟨n, hh⟩ := rn_i rfl rfl rfl rfl hh
  obtain ⟨n, hh⟩ := rn_gfm rfl rfl a1 hh
  obtain ⟨n, hh⟩ := rn_i rfl rfl rfl rfl hh
  obtain ⟨n, hh⟩ := rn_i rfl rfl rfl rfl hh
  obtain ⟨n, hh⟩ := rn_i rfl rfl rfl rfl hh
  obtain ⟨n, hh⟩ := rn_i rfl rfl rfl rfl hh
  obtain ⟨n, hh⟩ := rn_i rfl rfl rfl rfl hh
  obtain ⟨n, hh⟩ := rn_i rfl rfl rfl rfl hh
  have hh : pm_run PT n fr lo 189 (42, [some (.ref 162), some (.int (nI a)), some (.int (nI b))], [.int 0, .int (6 * nI a + nI b), .ref 169], ha2, 198, sl) = some R := hh
  rw [ix6] at hh
  obtain ⟨n, hh⟩ := rn_ism rfl b1 (hI_in (by omega) (by omega)) (by decide) hh
  rw [nI_clamp (by omega)] at hh
  have q := rn_vret rfl rfl hh
  rw [q]
  refine ⟨rfl, ⟨⟨aset_mF (by decide) a1, aset_mF (by decide) a2, aset_mF (by decide) a3, aset_mF (by decide) a4⟩, ⟨upd g1 (6 * a + b) 0, (asR_self : aset ha2 169 36 (upd g1 (6 * a + b) 0) 169 = _), fun j hj => ?_⟩, nrH_arr d (fun kd n f e => by cases e)⟩, rfl⟩
  unfold upd
  by_cases zj : j = 6 * a + b
  · rw [if_pos zj, zj, hz]
  · rw [if_neg zj]
    exact b2 j hj
def roP (ci f : Nat) : Bool := Nat.beq ci 11 && (Nat.beq f 3 || (Nat.beq f 5 || (Nat.beq f 11 || Nat.beq f 12)))
def roPn (ci f : Nat) : Bool := Nat.beq ci 11 && (Nat.beq f 3 || (Nat.beq f 20 || (Nat.beq f 11 || Nat.beq f 12)))
def roJ (j : Nat) : Bool := Nat.beq j 0 || Nat.beq j 5
def noK (_ : Nat) : Bool := false
theorem noK_sf {P : Nat → Nat → Bool} : sf_ok P noK := fun _ _ _ _ q _ => by cases q
theorem noK_tn {C : Nat → Nat → List Bool} {G : Nat → Nat → Bool} : tn_ok C G noK := fun _ _ _ _ q _ => by cases q
def ro2X : List Nat := [0, 6, 15, 22, 45, 52, 57, 72, 78, 82, 85, 91, 92, 93, 94, 128, 161, 188, 189, 190, 192, 209]
def ro2K : Nat → Bool := sf_X ro2X
theorem ro2_all : ((List.range 271).filter (fun k => !(ro2X.any (fun x => Nat.beq x k)))).all (fun k => sf_b roP ro2K k && tn_b (tk_at roC) roG ro2K k) = true := gz_lift (X := ro2X) (g := fun k => gz_sg roP ro2K k && gz_tg roC roG ro2K k) (by decide +kernel) (gz_2 gz_sf gz_tn) (by decide +kernel)
theorem ro2_sf : sf_ok roP ro2K := sf_of sf_X_in (List.all_eq_true.mpr (fun k hk => ((Bool.and_eq_true _ _).mp (List.all_eq_true.mp ro2_all k hk)).1))
theorem ro2_tn : tn_ok (tk_at roC) roG ro2K := tn_of sf_X_in (List.all_eq_true.mpr (fun k hk => ((Bool.and_eq_true _ _).mp (List.all_eq_true.mp ro2_all k hk)).2))
theorem ro_188a : blk_ok roP ro2K c5J 188 0 70 := blk_of (by decide +kernel)
theorem ro_188at : tbk_ok (tk_at roC) roG ro2K 188 0 70 := tbk_of (by decide +kernel)
theorem ro_188b : blk_ok roPn noK roJ 188 90 164 := blk_of (by decide +kernel)
theorem ro_188bt : tbk_ok (tk_at roC) roG noK 188 90 164 := tbk_of (by decide +kernel)
/-- the inner loop -/
theorem cr_in (hc : c < 6) (hz : ∀ a b, a < 6 → b < 6 → (a = c ∨ b = c) → g (6 * a + b) = 0) {x5 : Value} (h5c : x5.category = 1) : ∀ (d o n : Nat) (L : pm_L) (h : pm_H), o + d = 6 → pm_get L 0 = some (.ref 162) → pm_get L 5 = some x5 → pm_get L 6 = some (.int (nI o)) → nrL roA L → tS roA [] S → crI h g c A → pm_run PT n fr lo 188 (167, L, S, h, 198, sl) = some R → ∃ m L' h', pm_run PT m fr lo 188 (200, L', S, h', 198, sl) = some R ∧ pm_get L' 0 = some (.ref 162) ∧ pm_get L' 5 = some x5 ∧ nrL roA L' ∧ crI h' g c A := by
  intro d
  induction d with
  | zero =>
    intro o n L h ho g0 g5 g6 nl ns x hh
    have ho : o = 6 := by omega
    subst ho
    obtain ⟨n, hh⟩ := rn_il rfl g6 rfl hh
    obtain ⟨n, hh⟩ := rn_i rfl rfl rfl rfl hh
    have hh : pm_run PT n fr lo 188 (171, L, .int (nI 6) :: .int (nI 6) :: S, h, 198, sl) = some R := hh
    obtain ⟨n, hh⟩ := rn_icmp (cc := .ge) (off := 29) (t := 200) rfl rfl hh
    rw [hI_ge (by omega) (by omega), decide_eq_true (Nat.le_refl _)] at hh
    exact ⟨n, L, h, hh, g0, g5, nl, x⟩
  | succ d ih =>
    intro o n L h ho g0 g5 g6 nl ns x hh
    obtain ⟨n, hh⟩ := rn_il rfl g6 rfl hh
    obtain ⟨n, hh⟩ := rn_i rfl rfl rfl rfl hh
    have hh : pm_run PT n fr lo 188 (171, L, .int (nI 6) :: .int (nI o) :: S, h, 198, sl) = some R := hh
    obtain ⟨n, hh⟩ := rn_icmp (cc := .ge) (off := 29) (t := 200) rfl rfl hh
    rw [hI_ge (by omega) (by omega), decide_eq_false (by omega)] at hh
    have hh : pm_run PT n fr lo 188 (174, L, S, h, 198, sl) = some R := hh
    obtain ⟨n, hh⟩ := rn_aln rfl g0 rfl hh
    obtain ⟨n, hh⟩ := rn_aln rfl g0 rfl hh
    obtain ⟨n, hh⟩ := rn_gfm rfl rfl x.1.2.2.1 hh
    obtain ⟨n, hh⟩ := rn_il rfl g6 rfl hh
    obtain ⟨n, fr', lo', r1, hr1, hh⟩ := rn_call (w := 0) (t := 189) rfl rfl hh
    obtain ⟨e1, x, e2⟩ := cr_comes hc (by omega) (hz c o hc (by omega) (Or.inl rfl)) x hr1
    obtain ⟨rv, h1, s1⟩ := r1
    dsimp only at e1 e2 x
    subst e1
    subst e2
    have hh : pm_run PT n fr lo 188 (184, L, S, h1, 198, sl) = some R := hh
    obtain ⟨n, hh⟩ := rn_aln rfl g0 rfl hh
    obtain ⟨n, hh⟩ := rn_il rfl g6 rfl hh
    obtain ⟨n, hh⟩ := rn_aln rfl g0 rfl hh
    obtain ⟨n, hh⟩ := rn_gfm rfl rfl x.1.2.2.1 hh
    obtain ⟨n, fr', lo', r1, hr1, hh⟩ := rn_call (w := 0) (t := 189) rfl rfl hh
    obtain ⟨e1, x, e2⟩ := cr_comes (by omega) hc (hz o c (by omega) hc (Or.inr rfl)) x hr1
    obtain ⟨rv, h2, s2⟩ := r1
    dsimp only at e1 e2 x
    subst e1
    subst e2
    have hh : pm_run PT n fr lo 188 (194, L, S, h2, 198, sl) = some R := hh
    obtain ⟨n, hh⟩ := rn_i rfl rfl rfl (iinc_eq g6 (Nat.le_of_ble_eq_true rfl)) hh
    obtain ⟨n, hh⟩ := rn_i rfl rfl rfl rfl hh
    have e2 : nI o + Int32.ofInt 1 = nI (o + 1) := (Int32.ofNat_add o 1).symm
    have hh : pm_run PT n fr lo 188 (167, pm_st1 L 6 (.int (nI o + Int32.ofInt 1)), S, h2, 198, sl) = some R := hh
    rw [e2] at hh
    exact ih (o + 1) n _ h2 (by omega) (lkp_st1 (J := fun j => Nat.beq j 0) rfl 0 _ rfl g0 rfl) (lkp_st1 (J := fun j => Nat.beq j 5) rfl 5 _ rfl g5 h5c) (get_st1 g6) (nrL_st1 nl (nrv_i _)) ns x hh
theorem st1_get {v w : Value} (q : pm_get (pm_st1 L j v) j = some w) : pm_get (pm_st1 L j v) j = some v := by
  unfold pm_st1 pm_get at q ⊢
  by_cases z : j < (pm_cut L j).length
  · rw [List.getElem?_set_self z]
  · rw [List.getElem?_eq_none (by rw [List.length_set]; omega)] at q
    cases q
/-- behind the loop -/
theorem cr_end (g0 : pm_get L 0 = some (.ref 162)) (x : crI h g c A) (hh : pm_run PT n fr lo 188 (216, L, S, h, 198, sl) = some R) : ∃ g1, R.2.1 169 = .inl (0, 36, .inl g1) ∧ ∀ j, j < 36 → g1 j = g j := by
  obtain ⟨n, hh⟩ := rn_aln rfl g0 rfl hh
  obtain ⟨n, fr', lo', r1, hr1, hh⟩ := rn_call (w := 0) (t := 190) rfl rfl hh
  have ht := (tn_run ro_tn ro_sf _ _ _ 190 _ r1 rfl (Nat.le_refl _) (nrL_l0 (A := roA) (nrS_cons.mpr ⟨fun p e => by cases e; rfl, fun v hv => absurd hv (by simp)⟩)) tS_e x.2.2 hr1).2
  have hf := sf_run cm_ok _ _ _ 190 _ r1 rfl hr1
  have hz := sz_run cm_ok _ _ _ 190 _ r1 rfl hr1
  have hv := vd_run rfl hr1
  obtain ⟨rv, h1, s1⟩ := r1
  dsimp only at hf hz hv ht
  subst hz
  subst hv
  have hh : pm_run PT n fr lo 188 (220, L, S, h1, 198, sl) = some R := hh
  obtain ⟨n, hh⟩ := rn_aln rfl g0 rfl hh
  obtain ⟨n, hh⟩ := rn_gfm rfl rfl (fm_mF hf rfl x.1.2.2.2) hh
  have e := (rn_ret rfl (Or.inl rfl) hh).2
  rw [e]
  obtain ⟨g1, b1, b2⟩ := x.2.1
  exact ⟨g1, (ht 169 rfl).trans b1, b2⟩
/-- the outer loop -/
theorem cr_out (hcN : cc + N ≤ 6) (hz : ∀ a b, a < 6 → b < 6 → (cc ≤ a ∨ cc ≤ b) → g (6 * a + b) = 0) : ∀ (d k n : Nat) (L : pm_L) (S : List Value) (h : pm_H), k + d = N → pm_get L 0 = some (.ref 162) → pm_get L 5 = some (.int (nI k)) → nrL roA L → tS roA [] S → crI h g (cc + k) (nI N) → pm_run PT n fr lo 188 (81, L, S, h, 198, sl) = some R → ∃ g1, R.2.1 169 = .inl (0, 36, .inl g1) ∧ ∀ j, j < 36 → g1 j = g j := by
  intro d
  induction d with
  | zero =>
    intro k n L S h hk g0 g5 nl ns x hh
    have hk : k = N := by omega
    subst hk
    obtain ⟨n, hh⟩ := rn_il rfl g5 rfl hh
    obtain ⟨n, hh⟩ := rn_aln rfl g0 rfl hh
    obtain ⟨n, hh⟩ := rn_gfm rfl rfl x.1.2.2.2 hh
    obtain ⟨n, hh⟩ := rn_icmp (cc := .ge) (off := 129) (t := 216) rfl rfl hh
    rw [hI_ge (by omega) (by omega), decide_eq_true (Nat.le_refl _)] at hh
    exact cr_end g0 x hh
  | succ d ih =>
    intro k n L S h hk g0 g5 nl ns x hh
    obtain ⟨n, hh⟩ := rn_il rfl g5 rfl hh
    obtain ⟨n, hh⟩ := rn_aln rfl g0 rfl hh
    obtain ⟨n, hh⟩ := rn_gfm rfl rfl x.1.2.2.2 hh
    obtain ⟨n, hh⟩ := rn_icmp (cc := .ge) (off := 129) (t := 216) rfl rfl hh
    rw [hI_ge (by omega) (by omega), decide_eq_false (by omega)] at hh
    have hh : pm_run PT n fr lo 188 (90, L, S, h, 198, sl) = some R := hh
    obtain ⟨n, L1, S1, h1, hh, ⟨hl, hf⟩, ⟨nl, ns, nh⟩, ha⟩ := tblk_run (A := roA) noK_sf ro_188b noK_tn ro_188bt n fr lo (90, L, S, h, 198, sl) R (Nat.le_of_ble_eq_true rfl) (Nat.le_of_ble_eq_true rfl) (Nat.le_refl _) nl ns x.2.2 hh
    dsimp only at hl hf ha hh
    have g0 := hl 0 _ rfl g0 rfl
    have g5 := hl 5 _ rfl g5 rfl
    obtain ⟨⟨a1, a2, a3, a4⟩, ⟨g1, b1, b2⟩, -⟩ := x
    have x : crI h1 g (cc + k) (nI N) := ⟨⟨fm_mF hf rfl a1, fm_mF hf rfl a2, fm_mF hf rfl a3, fm_mF hf rfl a4⟩, ⟨g1, (ha 169 rfl).trans b1, b2⟩, nh⟩
    have hh : pm_run PT n fr lo 188 (164, L1, S1, h1, 198, sl) = some R := hh
    obtain ⟨n, hh⟩ := rn_i rfl rfl rfl rfl hh
    obtain ⟨st, n, e6, hh⟩ := rn_ex (i := .istore 6) (len := 2) rfl rfl (fun q => by cases q) (fun q => by cases q) (fun q => by cases q) hh
    have e6 : st = (167, pm_st1 L1 6 (.int (nI 0)), S1, h1, 198, sl) := by
      have e6 : pm_so 0 2 (pm_max PT 188) 165 6 L1 (.int (Int32.ofInt 0) :: S1) h1 198 sl = some st := e6
      unfold pm_so at e6
      dsimp only at e6
      rw [if_pos ⟨rfl, Nat.le_of_ble_eq_true rfl⟩] at e6
      cases e6
      rfl
    subst e6
    obtain ⟨y6, m6, g6, -⟩ := rn_ilv (j := 6) rfl hh
    have g6 := st1_get g6
    obtain ⟨n, L2, h2, hh, g0, g5, nl, x⟩ := cr_in (S := S1) (A := nI N) (c := cc + k) (by omega) (fun a b ha hb q => hz a b ha hb (by omega)) (x5 := .int (nI k)) rfl 6 0 n _ h1 (by omega) (lkp_st1 (J := fun j => Nat.beq j 0) rfl 0 _ rfl g0 rfl) (lkp_st1 (J := fun j => Nat.beq j 5) rfl 5 _ rfl g5 rfl) g6 (nrL_st1 nl (nrv_i _)) ns x hh
    obtain ⟨n, hh⟩ := rn_aln rfl g0 rfl hh
    obtain ⟨n, hh⟩ := rn_i rfl rfl rfl rfl hh
    obtain ⟨n, hh⟩ := rn_gfm rfl rfl x.1.2.2.1 hh
    obtain ⟨n, hh⟩ := rn_i rfl rfl rfl rfl hh
    obtain ⟨n, hh⟩ := rn_i rfl rfl rfl rfl hh
    obtain ⟨n, hh⟩ := rn_pfm (w := .int (nI (cc + k))) rfl rfl rfl (by decide) x.1.2.2.1 hh
    obtain ⟨n, hh⟩ := rn_i rfl rfl rfl (iinc_eq g5 (Nat.le_of_ble_eq_true rfl)) hh
    obtain ⟨n, hh⟩ := rn_i rfl rfl rfl rfl hh
    have e1 : nI (cc + k) + Int32.ofInt 1 = nI (cc + (k + 1)) := (Int32.ofNat_add (cc + k) 1).symm
    have e2 : nI k + Int32.ofInt 1 = nI (k + 1) := (Int32.ofNat_add k 1).symm
    have hh : pm_run PT n fr lo 188 (81, pm_st1 L2 5 (.int (nI k + Int32.ofInt 1)), S1, mset h2 3 (.int (nI (cc + k) + Int32.ofInt 1)), 198, sl) = some R := hh
    rw [e1, e2] at hh
    obtain ⟨⟨a1, a2, a3, a4⟩, ⟨g1, b1, b2⟩, nh⟩ := x
    refine ih (k + 1) n _ S1 _ (by omega) (lkp_st1 (J := fun j => Nat.beq j 0) rfl 0 _ rfl g0 rfl) (get_st1 g5) (nrL_st1 nl (nrv_i _)) ns ⟨⟨mF_ne (by decide) a1, mF_ne (by decide) a2, mF_self a3, mF_ne (by decide) a4⟩, ⟨g1, mset_arr (by decide) b1, b2⟩, ?_⟩ hh
    obtain ⟨fs, m1, m2⟩ := id a3
    rw [mset_of m1]
    exact nrH_fld nh m1 (nrv_i _)
/-- what courts answers is how many were read -/
def pvK (k : Nat) : Bool := Nat.beq k 189
theorem pv_ok : sf_ok c5P pvK := sf_of (N := [189]) (fun k h => by rw [Nat.eq_of_beq_eq_true h]; decide) (by decide +kernel)
theorem pv_blk : blk_ok c5P pvK c5J 188 81 216 := blk_of (by decide +kernel)
theorem pv_81 {w : Value} {c5 : Int32} (g0 : pm_get L 0 = some (.ref 162)) (h20 : mF h 20 w) (h5 : mF h 5 (.int c5)) (hh : pm_run PT n fr lo 188 (81, L, S, h, 198, sl) = some R) : ∃ x : Int32, w = .int x ∧ R.1 = some (.int x) := by
  obtain ⟨n, L2, S2, h2, hh, hl2, hf2⟩ := blk_run pv_ok pv_blk n fr lo _ R (Nat.le_of_ble_eq_true rfl) (Nat.le_of_ble_eq_true rfl) hh
  dsimp only at hl2 hf2 hh
  have g0 := hl2 0 (.ref 162) rfl g0 rfl
  have q5 := fm_mF hf2 rfl h5
  have q20 := fm_mF hf2 rfl h20
  have hh : pm_run PT n fr lo 188 (216, L2, S2, h2, 198, sl) = some R := hh
  obtain ⟨n, hh⟩ := rn_aln rfl g0 rfl hh
  obtain ⟨n, fr', lo', r1, hr1, hh⟩ := rn_call (w := 0) (t := 190) rfl rfl hh
  obtain ⟨y, rfl, a1, a2, a3, a4⟩ := isN_run q20 q5 hr1
  obtain ⟨rv, h3, s3⟩ := r1
  dsimp only at a1 a2 a3 a4
  subst a3
  subst a4
  have hh : pm_run PT n fr lo 188 (220, L2, S2, h3, 198, sl) = some R := hh
  obtain ⟨n, hh⟩ := rn_aln rfl g0 rfl hh
  obtain ⟨n, hh⟩ := rn_gfm rfl rfl a1 hh
  have e := (rn_ret rfl (Or.inl rfl) hh).2
  rw [e]
  exact ⟨y, rfl, rfl⟩
theorem cr_188 (hI : mInv h) (h3 : mF h 3 (.int (nI cc))) (e9 : h 169 = .inl (0, 36, .inl g)) (hz : ∀ a b, a < 6 → b < 6 → (cc ≤ a ∨ cc ≤ b) → g (6 * a + b) = 0) (hA : R.1 = some (.int A)) (hN : (A = nI N ∧ cc + N ≤ 6) ∨ pm_cmp .le A 0 = true) (hh : pm_run PT n fr lo 188 (0, pm_l0 [.ref 162] 7, [], h, 198, sl) = some R) : ∃ g1, R.2.1 169 = .inl (0, 36, .inl g1) ∧ ∀ j, j < 36 → g1 j = g j := by
  have h11 := ty_ref hI.1 (g := 11) (p := 169) rfl
  have h12 := ty_ref hI.1 (g := 12) (p := 170) rfl
  obtain ⟨w5, h5⟩ := ty_mi hI.1 5 (by decide +kernel) (by decide +kernel)
  obtain ⟨w20, h20⟩ := ty_mi hI.1 20 (by decide +kernel) (by decide +kernel)
  obtain ⟨n, L', S', h', hh, ⟨hl, hf⟩, ⟨nl, ns, nh⟩, ha⟩ := tblk_run (A := roA) ro2_sf ro_188a ro2_tn ro_188at n fr lo _ R (Nat.le_of_ble_eq_true rfl) (Nat.le_of_ble_eq_true rfl) (Nat.le_refl _) (nrL_l0 (A := roA) (nrS_cons.mpr ⟨fun p e => by cases e; rfl, fun v hv => absurd hv (by simp)⟩)) tS_e (tn_ty ro_tb hI.1) hh
  dsimp only at hl hf ha hh
  have g0 := hl 0 (.ref 162) rfl rfl rfl
  have q3 := fm_mF hf rfl h3
  have q5 := fm_mF hf rfl h5
  have q11 := fm_mF hf rfl h11
  have q12 := fm_mF hf rfl h12
  obtain ⟨w20, q20⟩ := mF_ex hf h20
  have e9 := (ha 169 rfl).trans e9
  have hh : pm_run PT n fr lo 188 (70, L', S', h', 198, sl) = some R := hh
  obtain ⟨x, n, g4, hh⟩ := rn_ilv rfl hh
  obtain ⟨n, hh⟩ := rn_if (cc := .ge) (off := 6) (t := 78) rfl rfl hh
  cases z : pm_cmp .ge x 0 with
  | false =>
    rw [z] at hh
    have hh : pm_run PT n fr lo 188 (75, L', S', h', 198, sl) = some R := hh
    obtain ⟨n, hh⟩ := rn_il rfl g4 rfl hh
    have e := (rn_ret rfl (Or.inl rfl) hh).2
    rw [e]
    exact ⟨g, e9, fun _ _ => rfl⟩
  | true =>
    rw [z] at hh
    have hh : pm_run PT n fr lo 188 (78, L', S', h', 198, sl) = some R := hh
    obtain ⟨n, hh⟩ := rn_i rfl rfl rfl rfl hh
    obtain ⟨st, n, e5, hh⟩ := rn_ex (i := .istore 5) (len := 2) rfl rfl (fun q => by cases q) (fun q => by cases q) (fun q => by cases q) hh
    have e5 : st = (81, pm_st1 L' 5 (.int (nI 0)), S', h', 198, sl) := by
      have e5 : pm_so 0 2 (pm_max PT 188) 79 5 L' (.int (Int32.ofInt 0) :: S') h' 198 sl = some st := e5
      unfold pm_so at e5
      dsimp only at e5
      rw [if_pos ⟨rfl, Nat.le_of_ble_eq_true rfl⟩] at e5
      cases e5
      rfl
    subst e5
    obtain ⟨y5, m5, g5, -⟩ := rn_ilv (j := 5) rfl hh
    have g5 := st1_get g5
    have g0 : pm_get (pm_st1 L' 5 (.int (nI 0))) 0 = some (.ref 162) := lkp_st1 (J := fun j => Nat.beq j 0) rfl 0 _ rfl g0 rfl
    obtain ⟨y, rfl, ey⟩ := pv_81 g0 q20 q5 hh
    rw [hA] at ey
    cases ey
    have x : crI h' g cc A := ⟨⟨q11, q12, q3, q20⟩, ⟨g, e9, fun _ _ => rfl⟩, nh⟩
    rcases hN with ⟨rfl, hN⟩ | hN
    · exact cr_out hN hz N 0 n _ S' h' (by omega) g0 g5 (nrL_st1 nl (nrv_i _)) ns x hh
    · obtain ⟨n, hh⟩ := rn_il rfl g5 rfl hh
      obtain ⟨n, hh⟩ := rn_aln rfl g0 rfl hh
      obtain ⟨n, hh⟩ := rn_gfm rfl rfl x.1.2.2.2 hh
      obtain ⟨n, hh⟩ := rn_icmp (cc := .ge) (off := 129) (t := 216) rfl rfl hh
      have e : pm_cmp .ge (nI 0) A = true := hN
      rw [e] at hh
      exact cr_end g0 x hh
end RDE
end MH95zux3
section MH95zux4
section MG95zyx0
/-! the relation with the roads -/
section RLO
variable {sl n fr lo kx km k : Nat} {h h1 h2 : pm_H} {R : pm_Rs} {vs : List Int32} {v w x y z : Int32}
def RO (h : pm_H) : Prop := ∃ (f g : Nat → Int32) (cc : Nat), cc ≤ 6 ∧ mF h 3 (.int (nI cc)) ∧ h 8 = .inl (0, 36, .inl f) ∧ h 169 = .inl (0, 36, .inl g) ∧ (∀ j, j < 36 → f j = g j) ∧ ∀ a b, a < 6 → b < 6 → (cc ≤ a ∨ cc ≤ b) → g (6 * a + b) = 0
theorem RO_eq (q : ∀ i, i ≠ 197 → h1 i = h i) (r : RO h) : RO h1 := by
  obtain ⟨f, g, cc, hc, ⟨fs, m1, m2⟩, e8, e9, hj, hz⟩ := r
  exact ⟨f, g, cc, hc, ⟨fs, (q 162 (by decide)).trans m1, m2⟩, (q 8 (by decide)).trans e8, (q 169 (by decide)).trans e9, hj, hz⟩
theorem ro_x (tx : roK kx = true) (hI : mInv h) {mx m f l : Nat} (r1 : pm_run PT m f l kx (0, pm_l0 (.ref 0 :: vs.map Value.int) mx, [], h, 198, sl) = some R) (f1 : fm cxF h R.2.1) (r : RO h) : RO R.2.1 := by
  obtain ⟨f, g, cc, hc, m3, e8, e9, hj, hz⟩ := r
  have kk := tn_keeps ro_tn ro_sf ro_tb tx hI.1 (o := 0) rfl vs r1
  exact ⟨f, g, cc, hc, mF_hi f1 m3, (kk 8 rfl).trans e8, (f1.1 169 rfl).trans e9, hj, hz⟩
theorem ro_m (tm : roK km = true) (cm : sCK km = true) (i1 : mInv h1) {mx m f l : Nat} (r2 : pm_run PT m f l km (0, pm_l0 (.ref 162 :: vs.map Value.int) mx, [], h1, 198, sl) = some R) (lo : ∀ i, i < 162 → R.2.1 i = h1 i) (r : RO h1) : RO R.2.1 := by
  obtain ⟨f, g, cc, hc, m3, e8, e9, hj, hz⟩ := r
  have kk := tn_keeps ro_tn ro_sf ro_tb tm i1.1 (o := 162) rfl vs r2
  exact ⟨f, g, cc, hc, m3_runs cm m3 r2, (lo 8 (by decide)).trans e8, (kk 169 rfl).trans e9, hj, hz⟩
theorem ro_R (tx : roK kx = true) (tm : roK km = true) (cm : sCK km = true) (hI : mInv h) (pr : prun sl kx km vs h h1 h2 v w) (r : RO h) : RO h2 := by
  obtain ⟨⟨m, r1⟩, ⟨f1, i1⟩, ⟨m2, r2⟩, lo, i2⟩ := pr
  exact ro_m tm cm i1 r2 lo (ro_x tx hI r1 f1 r)
theorem ro_courts (pr : prun sl 88 188 [] h h1 h2 v w) (hI : LI5 h) (r : RO h) : RO h2 := by
  obtain ⟨f, g, cc, hc, m3, e8, e9, hj, hz⟩ := r
  obtain ⟨hv, N, hN, m3', hA⟩ := co_cnt hc pr hI m3
  obtain ⟨⟨m, r1⟩, ⟨f1, i1⟩, ⟨m2, r2⟩, lo, i2⟩ := pr
  have kk := tn_keeps ro_tn ro_sf ro_tb (show roK 88 = true from rfl) hI.1.1 (o := 0) rfl [] r1
  obtain ⟨g1, e1, e2⟩ := cr_188 i1 (mF_hi f1 m3) ((f1.1 169 rfl).trans e9) hz (A := w) (N := N) rfl (hA.elim (fun e => Or.inl ⟨e, hN⟩) (fun e => Or.inr e.1)) r2
  exact ⟨f, g1, cc + N, hN, m3', (lo 8 (by decide)).trans ((kk 8 rfl).trans e8), e1, fun j hj' => (hj j hj').trans (e2 j hj').symm, fun a b ha hb q => (e2 (6 * a + b) (by omega)).trans (hz a b ha hb (by omega))⟩
theorem ty_or (hh : ah_ok bB 198 [] h) {a ci g p : Nat} {as : List av} {fs : List Value} (ha : a < 198) (hb : bB a = .inr (ci, as)) (hc : ci < 1000) (hg : as[g]? = some (2, (p : Int), 1)) (hi : av_ids (2, (p : Int), 1) = [p]) (e : h a = .inr (ci, fs)) : fs[g]? = some (.ref p) := by
  have h0 : ac_ok (h a) (bB a) := hh a ha
  rw [hb] at h0
  obtain ⟨fs', ef, hl, hv⟩ := aE_obj h0 hc
  rw [e] at ef
  cases ef
  have hlf : g < fs.length := by rw [hl]; exact (List.getElem?_eq_some_iff.mp hg).1
  have ev : fs[g]? = some fs[g] := List.getElem?_eq_getElem hlf
  have hv := hv g _ _ ev hg
  have hr : fs[g] = .ref p := by
    cases e : fs[g] with
    | ref q =>
      rw [e] at hv
      have := hv.2
      rw [hi] at this
      rw [List.mem_singleton.mp this]
    | null => rw [e] at hv; exact absurd (show (2 : Nat) = 3 from hv) (by decide)
    | _ => rw [e] at hv; first | exact hv.elim | (cases hv.1)
  rw [ev, hr]
theorem nI_ij {a b : Nat} (ha : a < 100) (hb : b < 100) (e : nI a = nI b) : a = b := by
  have e := congrArg Int32.toInt e
  rw [nI_toInt (by omega), nI_toInt (by omega)] at e
  omega
theorem rdU_eq {f g : Nat → Int32} {a b : Nat} (hj : ∀ j, j < 36 → f j = g j) : ∀ j, j < 36 → rdU f a b z j = rdU g a b z j := by
  intro j hj'
  unfold rdU upd
  by_cases z1 : j = 6 * b + a
  · rw [if_pos z1, if_pos z1]
  · rw [if_neg z1, if_neg z1]
    by_cases z2 : j = 6 * a + b
    · rw [if_pos z2, if_pos z2]
    · rw [if_neg z2, if_neg z2]
      exact hj j hj'
theorem rdU_ne {f : Nat → Int32} {a b j : Nat} (n1 : j ≠ 6 * a + b) (n2 : j ≠ 6 * b + a) : rdU f a b z j = f j := by
  unfold rdU upd
  rw [if_neg n2, if_neg n1]
theorem road_both (pr : prun sl 94 209 [x, y, z] h h1 h2 v w) (hI : LI5 h) (r : RO h) : v = w ∧ RO h2 := by
  obtain ⟨f, g, cc, hc, m3, e8, e9, hj, hz⟩ := r
  obtain ⟨⟨m, r1⟩, ⟨f1, i1⟩, ⟨m2, r2⟩, lo, i2⟩ := pr
  obtain ⟨hI0, ⟨n0, cc0, f0, g0, hn, hc0, ⟨x1, ⟨rs, d5, d50⟩⟩, ⟨y1, y2, y3⟩, hjj⟩, -⟩ := hI
  have ecc := mF_ij (by omega) (by omega) y3 m3
  subst ecc
  obtain ⟨fs, a1, -, a3⟩ := ty_x2 hI0.1
  have d54 : rs[4]? = some (.ref 8) := ty_or hI0.1 (a := 5) (g := 4) (p := 8) (by decide) rfl (by decide) rfl rfl d5
  have qx := xrd_run hc a1 a3 d5 d50 d54 e8 r1
  obtain ⟨w0, hw⟩ := ty_m0 i1.1
  have g3 := mF_hi f1 m3
  have g9 := (f1.1 169 rfl).trans e9
  have qm := mr_run hc hw g3 (ty_ref i1.1 (g := 11) (p := 169) rfl) g9 r2
  have m3' := m3_runs (show sCK 209 = true from rfl) g3 r2
  dsimp only at m3'
  rcases qx with ⟨b1, q1⟩ | ⟨a, b, ha, hb, ea, eb, b1, q1⟩
  · rcases qm with ⟨b2, q2⟩ | ⟨a', b', ha', hb', ea', eb', b2, q2⟩
    · have ev : v = Int32.ofInt (-1) := Value.int.inj (Option.some.inj (congrArg (fun q => q.1) q1))
      have ew : w = Int32.ofInt (-1) := Value.int.inj (Option.some.inj (congrArg (fun q => q.1) q2))
      have e1 : h1 = h := congrArg (fun q => q.2.1) q1
      have e2 : h2 = mset h1 0 (.int 0) := congrArg (fun q => q.2.1) q2
      refine ⟨ev.trans ew.symm, f, g, cc0, hc, m3', (lo 8 (by decide)).trans (by rw [e1]; exact e8), ?_, hj, hz⟩
      rw [e2, mset_ne (by decide)]
      exact g9
    · rw [b1] at b2
      cases b2
  · rcases qm with ⟨b2, q2⟩ | ⟨a', b', ha', hb', ea', eb', b2, q2⟩
    · rw [b1] at b2
      cases b2
    · have ea2 : a' = a := nI_ij (by omega) (by omega) (ea'.symm.trans ea)
      have eb2 : b' = b := nI_ij (by omega) (by omega) (eb'.symm.trans eb)
      subst ea2
      subst eb2
      have ev : v = f (6 * a' + b') := Value.int.inj (Option.some.inj (congrArg (fun q => q.1) q1))
      have ew : w = g (6 * a' + b') := Value.int.inj (Option.some.inj (congrArg (fun q => q.1) q2))
      have e1 : h1 = aset h 8 36 (rdU f a' b' z) := congrArg (fun q => q.2.1) q1
      have e2 : h2 = aset (mset h1 0 (.int 0)) 169 36 (rdU g a' b' z) := congrArg (fun q => q.2.1) q2
      refine ⟨by rw [ev, ew]; exact hj _ (by omega), rdU f a' b' z, rdU g a' b' z, cc0, hc, m3', (lo 8 (by decide)).trans (by rw [e1]; exact asR_self), by rw [e2]; exact asR_self, rdU_eq hj, fun p q hp hq hpq => ?_⟩
      rw [rdU_ne (by omega) (by omega)]
      exact hz p q hp hq hpq
end RLO
/-! the relation of p10 and every call -/
section RLU
variable {sl kx km : Nat} {h h1 h2 : pm_H} {R : pm_Rs} {vs : List Int32} {v w x y z : Int32}
def REL (h : pm_H) : Prop := REL6 h ∧ RO h
def LI (h : pm_H) : Prop := mInv h ∧ REL h
theorem LI_6 (hI : LI h) : LI6 h := ⟨hI.1, hI.2.1⟩
theorem LI_56 (hI : LI h) : LI5 h := LI_5 (LI_6 hI)
theorem twX_LI (hI : LI h) (q : twX h h1) : LI h1 := by
  have h6 := twX_LI6 (LI_6 hI) q
  exact ⟨h6.1, h6.2, RO_eq q.1 hI.2.2⟩
theorem rel_w (sm : sMK km = true) (gm : sGK km = true) (tm : sKK km = true) (nm : nKK km = true) (om : roK km = true) (cm : sCK km = true) (i1 : mInv h1) (vs : List Int32) {mx m f l : Nat} (r2 : pm_run PT m f l km (0, pm_l0 (.ref 162 :: vs.map Value.int) mx, [], h1, 198, sl) = some R) (lo : ∀ i, i < 162 → R.2.1 i = h1 i) (r : REL h1) : REL R.2.1 := ⟨rel_w6 sm gm tm nm i1 vs r2 lo r.1, ro_m om cm i1 r2 lo r.2⟩
theorem rel_R (sx : sQK kx = true) (sm : sMK km = true) (gx : sGK kx = true) (gm : sGK km = true) (tx : sKK kx = true) (tm : sKK km = true) (nm : nKK km = true) (ox : roK kx = true) (om : roK km = true) (cm : sCK km = true) (pr : prun sl kx km vs h h1 h2 v w) (hI : LI h) : REL h2 := ⟨rel_R6 sx sm gx gm tx tm nm pr (LI_6 hI), ro_R ox om cm hI.1 pr hI.2.2⟩
theorem rel_sign (pr : prun sl 86 178 [x] h h1 h2 v w) (hI : LI h) : REL h2 := ⟨rel_sign6 pr (LI_6 hI), ro_R rfl rfl rfl hI.1 pr hI.2.2⟩
theorem rel_end (pr : prun sl 87 179 [x] h h1 h2 v w) (hI : LI h) : REL h2 := ⟨rel_end6 pr (LI_6 hI), ro_R rfl rfl rfl hI.1 pr hI.2.2⟩
theorem rel_courts (pr : prun sl 88 188 [] h h1 h2 v w) (hI : LI h) : REL h2 := ⟨rel_courts6 pr (LI_6 hI), ro_courts pr (LI_56 hI) hI.2.2⟩
theorem rel_gifts (pr : prun sl 89 192 [] h h1 h2 v w) (hI : LI h) : REL h2 := ⟨rel_gifts6 pr (LI_6 hI), ro_R rfl rfl rfl hI.1 pr hI.2.2⟩
theorem rel_rule (pr : prun sl 90 198 [] h h1 h2 v w) (hI : LI h) : REL h2 := ⟨rel_rule6 pr (LI_6 hI), ro_R rfl rfl rfl hI.1 pr hI.2.2⟩
theorem rel_year (pr : prun sl 100 228 [] h h1 h2 v w) (hI : LI h) : REL h2 := ⟨rel_year6 pr (LI_6 hI), ro_R rfl rfl rfl hI.1 pr hI.2.2⟩
theorem rel_law (pr : prun sl 122 258 [] h h1 h2 v w) (hI : LI h) : REL h2 := ⟨rel_law6 pr (LI_6 hI), ro_R rfl rfl rfl hI.1 pr hI.2.2⟩
theorem rel_keep (pr : prun sl 125 264 [x] h h1 h2 v w) (hI : LI h) : REL h2 := ⟨rel_keep6 pr (LI_6 hI), ro_R rfl rfl rfl hI.1 pr hI.2.2⟩
theorem rel_again (pr : prun sl 126 265 [x] h h1 h2 v w) (hI : LI h) : v = w ∧ REL h2 := ⟨(rel_again6 pr (LI_6 hI)).1, (rel_again6 pr (LI_6 hI)).2, ro_R rfl rfl rfl hI.1 pr hI.2.2⟩
theorem rel_road (pr : prun sl 94 209 [x, y, z] h h1 h2 v w) (hI : LI h) : v = w ∧ REL h2 := ⟨(road_both pr (LI_56 hI) hI.2.2).1, rel_R6 rfl rfl rfl rfl rfl rfl rfl pr (LI_6 hI), (road_both pr (LI_56 hI) hI.2.2).2⟩
end RLU
end MG95zyx0
section MG95zyx1
/-! a pure reader of rules: how far it comes, and whether it is one -/
section ZRD
variable {f : Nat → Int32} {t : Nat}
def zmi (f : Nat → Int32) (t : Nat) : Nat → Nat → Nat
  | 0, p => p
  | k + 1, p => cond (decide (p < t ∧ f p = nI 45)) (zmi f t k (p + 1)) p
def znb (f : Nat → Int32) (t : Nat) : Nat → Nat → Nat
  | 0, p => p
  | k + 1, p => cond (dg f p t) (znb f t k (p + 1)) p
def zlet (x : Int32) : Bool := decide (x = nI 119 ∨ x = nI 107 ∨ x = nI 114 ∨ x = nI 115 ∨ x = nI 104 ∨ x = nI 101 ∨ x = nI 100)
def zlev (o : Nat) (x : Int32) : Bool := cond (Nat.beq o 0) (decide (x = nI 60 ∨ x = nI 61 ∨ x = nI 62)) (cond (Nat.beq o 1) (decide (x = nI 43 ∨ x = nI 45)) (decide (x = nI 42 ∨ x = nI 47)))
def zlp (st : Nat → Bool × Nat) (f : Nat → Int32) (t o : Nat) : Nat → Nat → Bool × Nat
  | 0, p => (true, p)
  | k + 1, p => cond (decide (p < t) && zlev o (f p)) (cond (st (p + 1)).1 (zlp st f t o k (st (p + 1)).2) (false, (st (p + 1)).2)) (true, p)
def zth (st : Nat → Bool × Nat) (f : Nat → Int32) (t ns q : Nat) : Bool × Nat := cond (dg f q t) (true, znb f t 3 q) (cond (decide (q < t) && zlet (f q)) (true, q + 1) (cond (decide (q < t ∧ f q = nI 40) && decide (ns < 4)) (cond ((st (q + 1)).1 && decide ((st (q + 1)).2 < t ∧ f (st (q + 1)).2 = nI 41)) (true, (st (q + 1)).2 + 1) (false, (st (q + 1)).2)) (false, q)))
def pz (f : Nat → Int32) (t : Nat) : Nat → Nat → Nat → Nat → Bool × Nat
  | 0, _, _, p => (false, p)
  | m + 1, o, ns, p => cond (Nat.ble 3 o) (zth (pz f t m 0 (ns + 1)) f t ns (zmi f t 40 p)) (cond (pz f t m (o + 1) ns p).1 (zlp (pz f t m (o + 1) ns) f t o (cond (Nat.beq o 0) 1 40) (pz f t m (o + 1) ns p).2) (false, (pz f t m (o + 1) ns p).2))
theorem zmi_le : ∀ (k p : Nat), p ≤ t → zmi f t k p ≤ t
  | 0, _, h => h
  | k + 1, p, h => by
    show cond (decide (p < t ∧ f p = nI 45)) (zmi f t k (p + 1)) p ≤ t
    by_cases z : p < t ∧ f p = nI 45
    · rw [decide_eq_true z]
      exact zmi_le k (p + 1) (by omega)
    · rw [decide_eq_false z]
      exact h
theorem znb_le : ∀ (k p : Nat), p ≤ t → znb f t k p ≤ t
  | 0, _, h => h
  | k + 1, p, h => by
    show cond (dg f p t) (znb f t k (p + 1)) p ≤ t
    cases z : dg f p t with
    | true => exact znb_le k (p + 1) (dg_lt z)
    | false => exact h
theorem zlp_le {st : Nat → Bool × Nat} {o : Nat} (hs : ∀ q, q ≤ t → (st q).2 ≤ t) : ∀ (k p : Nat), p ≤ t → (zlp st f t o k p).2 ≤ t
  | 0, _, h => h
  | k + 1, p, h => by
    show (cond (decide (p < t) && zlev o (f p)) (cond (st (p + 1)).1 (zlp st f t o k (st (p + 1)).2) (false, (st (p + 1)).2)) (true, p)).2 ≤ t
    by_cases z : p < t
    · cases zlev o (f p) with
      | true =>
        rw [decide_eq_true z]
        have h2 := hs (p + 1) (by omega)
        cases zs : (st (p + 1)).1 with
        | true => exact zlp_le hs k _ h2
        | false => exact h2
      | false =>
        rw [Bool.and_false]
        exact h
    · rw [decide_eq_false z]
      exact h
theorem zth_le {st : Nat → Bool × Nat} {ns q : Nat} (hs : ∀ q, q ≤ t → (st q).2 ≤ t) (hq : q ≤ t) : (zth st f t ns q).2 ≤ t := by
  unfold zth
  cases dg f q t with
  | true => exact znb_le 3 q hq
  | false =>
    by_cases z : q < t
    · rw [decide_eq_true z]
      cases zlet (f q) with
      | true => exact z
      | false =>
        cases decide (q < t ∧ f q = nI 40) && decide (ns < 4) with
        | true =>
          have h2 := hs (q + 1) (by omega)
          cases (st (q + 1)).1 with
          | true =>
            by_cases y : (st (q + 1)).2 < t ∧ f (st (q + 1)).2 = nI 41
            · rw [decide_eq_true y]
              exact y.1
            · rw [decide_eq_false y]
              exact h2
          | false => exact h2
        | false => exact hq
    · rw [decide_eq_false z, decide_eq_false (fun y => z y.1)]
      exact hq
theorem pz_le : ∀ (m o ns p : Nat), p ≤ t → (pz f t m o ns p).2 ≤ t
  | 0, _, _, _, h => h
  | m + 1, o, ns, p, h => by
    show (cond (Nat.ble 3 o) (zth (pz f t m 0 (ns + 1)) f t ns (zmi f t 40 p)) (cond (pz f t m (o + 1) ns p).1 (zlp (pz f t m (o + 1) ns) f t o (cond (Nat.beq o 0) 1 40) (pz f t m (o + 1) ns p).2) (false, (pz f t m (o + 1) ns p).2))).2 ≤ t
    cases Nat.ble 3 o with
    | true => exact zth_le (fun q hq => pz_le m 0 (ns + 1) q hq) (zmi_le 40 p h)
    | false =>
      have h2 := pz_le m (o + 1) ns p h
      cases (pz f t m (o + 1) ns p).1 with
      | true => exact zlp_le (fun q hq => pz_le m (o + 1) ns q hq) _ _ h2
      | false => exact h2
end ZRD
/-! the class's reader: signs, steps -/
section ZRX
variable {n fr lo sl n0 cc o p : Nat} {h : pm_H} {R : pm_Rs} {f : Nat → Int32} {x v : Int32}
def rX (h : pm_H) (o p : Nat) : Prop := ∃ rs, h o = .inr (6, rs) ∧ rs[4]? = some (.ref 1) ∧ rs[5]? = some (.int (nI p))
def qX (h : pm_H) (o p n0 cc : Nat) (f : Nat → Int32) : Prop := rX h o p ∧ pX h n0 cc f
def oOk (o : Nat) : Prop := o < 198 ∧ o ≠ 0 ∧ o ≠ 1 ∧ o ≠ 2 ∧ o ≠ 5
theorem qX_mk {p' : Nat} {rs : List Value} {w : Value} (ho : oOk o) (e : h o = .inr (6, rs)) (e2 : rs[4]? = some (.ref 1)) (e3 : rs[5]? = some w) (px : pX h n0 cc f) : qX (va_up h o (.inr (6, rs.set 5 (.int (nI p'))))) o p' n0 cc f := by
  obtain ⟨⟨fs, a1, a2⟩, ⟨gs, b1, b2⟩, c1, ss, d1, d2⟩ := px
  have ne : ∀ a, a ≠ o → va_up h o (.inr (6, rs.set 5 (.int (nI p')))) a = h a := fun a z => by simp [va_up, z]
  refine ⟨⟨rs.set 5 (.int (nI p')), by simp [va_up], ?_, ?_⟩, ⟨fs, (ne 0 (Ne.symm ho.2.1)).trans a1, a2⟩, ⟨gs, (ne 1 (Ne.symm ho.2.2.1)).trans b1, b2⟩, (ne 2 (Ne.symm ho.2.2.2.1)).trans c1, ss, (ne 5 (Ne.symm ho.2.2.2.2)).trans d1, d2⟩
  · rw [List.getElem?_set_ne (by decide)]
    exact e2
  · rw [List.getElem?_set_self (List.getElem?_eq_some_iff.mp e3).1]
theorem qX_at {p' : Nat} {rs : List Value} (ho : oOk o) (e : h o = .inr (6, rs)) (q : qX h o p n0 cc f) : qX (va_up h o (.inr (6, rs.set 5 (.int (nI p'))))) o p' n0 cc f := by
  obtain ⟨⟨rs', e1, e2, e3⟩, px⟩ := q
  rw [e] at e1
  cases e1
  exact qX_mk ho e e2 e3 px
def z6P (ci g : Nat) : Bool := (Nat.beq ci 6 && (Nat.beq g 4 || Nat.beq g 5)) || ((Nat.beq ci 10 && (Nat.beq g 0 || Nat.beq g 2)) || ((Nat.beq ci 8 && Nat.ble g 1) || (Nat.beq ci 3 && Nat.beq g 0)))
def z6K (k : Nat) : Bool := Nat.beq k 60
theorem z6_ok : sf_ok z6P z6K := sf_of (N := [60]) (fun k h => by rw [Nat.eq_of_beq_eq_true h]; decide) (by decide +kernel)
theorem z6_ak : ak_ok 1 z6K := ak_of (N := [60]) (fun k h => by rw [Nat.eq_of_beq_eq_true h]; decide) (by decide +kernel)
theorem qX_fm {h' : pm_H} (a : fm (sfF z6P) h h') (b : akp 1 h h') (q : qX h o p n0 cc f) : qX h' o p n0 cc f := by
  obtain ⟨⟨rs, e1, e2, e3⟩, ⟨fs, a1, a2, a3⟩, ⟨gs, b1, b2, b3⟩, c1, ss, d1, d2⟩ := q
  obtain ⟨rs', r1, -, r2⟩ := a.2 o 6 rs e1
  obtain ⟨fs', f1, -, f2⟩ := a.2 0 10 fs a1
  obtain ⟨gs', g1, -, g2⟩ := a.2 1 8 gs b1
  obtain ⟨ss', s1, -, s2⟩ := a.2 5 3 ss d1
  exact ⟨⟨rs', r1, (r2 4 rfl).trans e2, (r2 5 rfl).trans e3⟩, ⟨fs', f1, (f2 0 rfl).trans a2, (f2 2 rfl).trans a3⟩, ⟨gs', g1, (g2 0 rfl).trans b2, (g2 1 rfl).trans b3⟩, b 2 _ c1, ss', s1, (s2 0 rfl).trans d2⟩
/-- a step is told -/
theorem em_run (q : qX h o p n0 cc f) (hh : pm_run PT n fr lo 60 (0, pm_l0 [.ref o, .int v] 2, [], h, 198, sl) = some R) : R.1 = none ∧ qX R.2.1 o p n0 cc f ∧ R.2.2 = (198, sl) := by
  have a := sf_run z6_ok _ _ _ 60 _ R rfl hh
  have b := ak_run (by decide) z6_ak _ _ _ 60 _ R rfl hh
  have c := sz_run z6_ok _ _ _ 60 _ R rfl hh
  exact ⟨vd_run rfl hh, qX_fm a b q, c⟩
theorem ns_run (ho : oOk o) (hn : n0 ≤ 80) (hp : p < 1000) (q : qX h o p n0 cc f) (hh : pm_run PT n fr lo 61 (0, pm_l0 [.ref o] 1, [], h, 198, sl) = some R) : R = (some (.int (sgA f n0 p 40)), h, 198, sl) := by
  obtain ⟨⟨rs, e0, e4, e5⟩, px⟩ := q
  obtain ⟨n, hh⟩ := rn_i rfl rfl rfl rfl hh
  obtain ⟨n, hh⟩ := rn_gfo (g := 4) rfl rfl ho.1 e0 e4 hh
  obtain ⟨n, hh⟩ := rn_i rfl rfl rfl rfl hh
  obtain ⟨n, hh⟩ := rn_gfo (g := 5) rfl rfl ho.1 e0 e5 hh
  obtain ⟨n, hh⟩ := rn_i rfl rfl rfl rfl hh
  have hh : pm_run PT n fr lo 61 (10, [some (.ref o)], [.int (nI 40), .int (nI p), .ref 1], h, 198, sl) = some R := hh
  obtain ⟨n, fr', lo', r1, hr1, hh⟩ := rn_call (w := 0) (t := 80) rfl rfl hh
  have er := sgA_run hn (by decide) hp px hr1
  subst er
  exact (rn_ret rfl (Or.inl rfl) hh).2
theorem rn_tsw {k pc len tt : Nat} {L : pm_L} {S : List Value} {d lw hg : Int} {offs : Array Int} (hi : pm_ins PT k pc = some (.tableswitch d lw hg offs, len)) (ht : pm_tgt pc d = some tt) (z : x.toInt < lw ∨ hg < x.toInt) (hh : pm_run PT n fr lo k (pc, L, .int x :: S, h, 198, sl) = some R) : ∃ m, pm_run PT m fr lo k (tt, L, S, h, 198, sl) = some R := by
  refine rn_i hi rfl rfl ?_ hh
  show (if x.toInt < lw ∨ hg < x.toInt then pm_jp pc d L S h 198 sl else _) = _
  rw [if_pos z]
  unfold pm_jp
  rw [ht]
def lvV (x : Int32) : Int32 := if 42 ≤ x.toInt ∧ x.toInt ≤ 62 then (if x = nI 42 ∨ x = nI 47 then 2 else if x = nI 43 ∨ x = nI 45 then 1 else if x = nI 60 ∨ x = nI 61 ∨ x = nI 62 then 0 else Int32.ofInt (-1)) else Int32.ofInt (-1)
def ltV (x : Int32) : Int32 := if 100 ≤ x.toInt ∧ x.toInt ≤ 119 then (if x = nI 119 then 0 else if x = nI 107 then 1 else if x = nI 114 then 2 else if x = nI 115 then 3 else if x = nI 104 then 4 else if x = nI 101 then 5 else if x = nI 100 then 6 else Int32.ofInt (-1)) else Int32.ofInt (-1)
theorem lvx_run (hh : pm_run PT n fr lo 63 (0, pm_l0 [.int x] 1, [], h, 198, sl) = some R) : R = (some (.int (lvV x)), h, 198, sl) := by
  obtain ⟨n, hh⟩ := rn_i rfl rfl rfl rfl hh
  by_cases z : x.toInt < 42 ∨ 62 < x.toInt
  · have ev : lvV x = Int32.ofInt (-1) := by
      unfold lvV
      rw [if_neg (by omega)]
    obtain ⟨n, hh⟩ := rn_tsw (tt := 106) rfl rfl z hh
    obtain ⟨n, hh⟩ := rn_i rfl rfl rfl rfl hh
    rw [ev]
    exact (rn_ret rfl (Or.inl rfl) hh).2
  · have hx : ∃ j, 42 ≤ j ∧ j ≤ 62 ∧ x = nI j := by
      obtain ⟨j, e, -, ej⟩ := hI_of (show 0 ≤ x.toInt by omega)
      exact ⟨j, by omega, by omega, e⟩
    obtain ⟨j, j1, j2, rfl⟩ := hx
    have hj : j = 42 ∨ j = 43 ∨ j = 44 ∨ j = 45 ∨ j = 46 ∨ j = 47 ∨ j = 48 ∨ j = 49 ∨ j = 50 ∨ j = 51 ∨ j = 52 ∨ j = 53 ∨ j = 54 ∨ j = 55 ∨ j = 56 ∨ j = 57 ∨ j = 58 ∨ j = 59 ∨ j = 60 ∨ j = 61 ∨ j = 62 := by omega
    rcases hj with rfl | rfl | rfl | rfl | rfl | rfl | rfl | rfl | rfl | rfl | rfl | rfl | rfl | rfl | rfl | rfl | rfl | rfl | rfl | rfl | rfl
    all_goals
      obtain ⟨n, hh⟩ := rn_i rfl rfl rfl rfl hh
      obtain ⟨n, hh⟩ := rn_i rfl rfl rfl rfl hh
      exact (rn_ret rfl (Or.inl rfl) hh).2
theorem ltx_run (hh : pm_run PT n fr lo 67 (0, pm_l0 [.int x] 1, [], h, 198, sl) = some R) : R = (some (.int (ltV x)), h, 198, sl) := by
  obtain ⟨n, hh⟩ := rn_i rfl rfl rfl rfl hh
  by_cases z : x.toInt < 100 ∨ 119 < x.toInt
  · have ev : ltV x = Int32.ofInt (-1) := by
      unfold ltV
      rw [if_neg (by omega)]
    obtain ⟨n, hh⟩ := rn_tsw (tt := 111) rfl rfl z hh
    obtain ⟨n, hh⟩ := rn_i rfl rfl rfl rfl hh
    rw [ev]
    exact (rn_ret rfl (Or.inl rfl) hh).2
  · have hx : ∃ j, 100 ≤ j ∧ j ≤ 119 ∧ x = nI j := by
      obtain ⟨j, e, -, ej⟩ := hI_of (show 0 ≤ x.toInt by omega)
      exact ⟨j, by omega, by omega, e⟩
    obtain ⟨j, j1, j2, rfl⟩ := hx
    have hj : j = 100 ∨ j = 101 ∨ j = 102 ∨ j = 103 ∨ j = 104 ∨ j = 105 ∨ j = 106 ∨ j = 107 ∨ j = 108 ∨ j = 109 ∨ j = 110 ∨ j = 111 ∨ j = 112 ∨ j = 113 ∨ j = 114 ∨ j = 115 ∨ j = 116 ∨ j = 117 ∨ j = 118 ∨ j = 119 := by omega
    rcases hj with rfl | rfl | rfl | rfl | rfl | rfl | rfl | rfl | rfl | rfl | rfl | rfl | rfl | rfl | rfl | rfl | rfl | rfl | rfl | rfl
    all_goals
      obtain ⟨n, hh⟩ := rn_i rfl rfl rfl rfl hh
      obtain ⟨n, hh⟩ := rn_i rfl rfl rfl rfl hh
      exact (rn_ret rfl (Or.inl rfl) hh).2
theorem m1_ne {c : Nat} (hc : c < 1000) : ¬ Int32.ofInt (-1) = nI c := fun e => by
  have e := congrArg Int32.toInt e
  rw [nI_toInt (by omega), show (Int32.ofInt (-1)).toInt = -1 by decide] at e
  omega
theorem sg_is {c : Nat} (hc : c < 1000) : (sgA f n0 p 40 = nI c) ↔ (p < min n0 40 ∧ f p = nI c) := by
  unfold sgA
  by_cases z : p < min n0 40
  · rw [decide_eq_true z]
    exact ⟨fun e => ⟨z, e⟩, fun e => e.2⟩
  · rw [decide_eq_false z]
    exact ⟨fun e => absurd e (m1_ne hc), fun e => absurd e.1 z⟩
theorem sg_ne {c : Nat} (hc : c < 1000) : pm_cmp .ne (sgA f n0 p 40) (nI c) = !decide (p < min n0 40 ∧ f p = nI c) := by
  simp only [pm_cmp]
  by_cases z : p < min n0 40 ∧ f p = nI c
  · rw [decide_eq_true z, decide_eq_false (fun q => q ((sg_is hc).mpr z))]
    rfl
  · rw [decide_eq_false z, decide_eq_true (show ¬ sgA f n0 p 40 = nI c from fun q => z ((sg_is hc).mp q))]
    rfl
theorem sg_eq {c : Nat} (hc : c < 1000) : pm_cmp .eq (sgA f n0 p 40) (nI c) = decide (p < min n0 40 ∧ f p = nI c) := by
  simp only [pm_cmp]
  by_cases z : p < min n0 40 ∧ f p = nI c
  · rw [decide_eq_true z, decide_eq_true ((sg_is hc).mpr z)]
  · rw [decide_eq_false z, decide_eq_false (fun q => z ((sg_is hc).mp q))]
/-- a digit stands there -/
theorem sg_dg (z : dg f p (min n0 40) = true) : pm_cmp .lt (sgA f n0 p 40) (nI 48) = false ∧ pm_cmp .gt (sgA f n0 p 40) (nI 57) = false := by
  have hl := dg_lt z
  obtain ⟨-, h1, h2⟩ := dg_iv z
  unfold sgA
  rw [decide_eq_true hl]
  constructor
  · exact decide_eq_false (fun q => by rw [Int32.lt_iff_toInt_lt] at q; rw [show (nI 48).toInt = 48 by decide] at q; have q : (f p).toInt < 48 := q; omega)
  · exact decide_eq_false (fun q => by rw [Int32.lt_iff_toInt_lt] at q; rw [show (nI 57).toInt = 57 by decide] at q; have q : 57 < (f p).toInt := q; omega)
theorem sg_nd (z : dg f p (min n0 40) = false) (y : pm_cmp .lt (sgA f n0 p 40) (nI 48) = false) : pm_cmp .gt (sgA f n0 p 40) (nI 57) = true := by
  unfold sgA at y ⊢
  by_cases a : p < min n0 40
  · rw [decide_eq_true a] at y ⊢
    have y : pm_cmp .lt (f p) (nI 48) = false := y
    show pm_cmp .gt (f p) (nI 57) = true
    cases q : pm_cmp .gt (f p) (nI 57) with
    | true => rfl
    | false =>
      have := dg_in y q
      unfold dg at z
      rw [decide_eq_true a, this] at z
      cases z
  · rw [decide_eq_false a] at y
    have y : pm_cmp .lt (Int32.ofInt (-1)) (nI 48) = false := y
    exact absurd y (by decide)
theorem sg_lt {x : Int32} (z : zlet x = false) : pm_cmp .lt (ltV x) 0 = true := by
  have z := of_decide_eq_false z
  have e : ltV x = Int32.ofInt (-1) := by
    unfold ltV
    by_cases a : 100 ≤ x.toInt ∧ x.toInt ≤ 119
    · rw [if_pos a, if_neg (fun q => z (Or.inl q)), if_neg (fun q => z (Or.inr (Or.inl q))), if_neg (fun q => z (Or.inr (Or.inr (Or.inl q)))), if_neg (fun q => z (Or.inr (Or.inr (Or.inr (Or.inl q))))), if_neg (fun q => z (Or.inr (Or.inr (Or.inr (Or.inr (Or.inl q)))))), if_neg (fun q => z (Or.inr (Or.inr (Or.inr (Or.inr (Or.inr (Or.inl q))))))), if_neg (fun q => z (Or.inr (Or.inr (Or.inr (Or.inr (Or.inr (Or.inr q)))))))]
    · rw [if_neg a]
  rw [e]
  decide
theorem sg_lt1 {x : Int32} (z : zlet x = true) : pm_cmp .lt (ltV x) 0 = false := by
  have z := of_decide_eq_true z
  rcases z with rfl | rfl | rfl | rfl | rfl | rfl | rfl <;> decide +kernel
theorem zlet_m1 : zlet (Int32.ofInt (-1)) = false := by decide +kernel
/-- is it a letter -/
theorem sg_let : pm_cmp .lt (ltV (sgA f n0 p 40)) 0 = !(decide (p < min n0 40) && zlet (f p)) := by
  unfold sgA
  by_cases a : p < min n0 40
  · rw [decide_eq_true a]
    show pm_cmp .lt (ltV (f p)) 0 = !(true && zlet (f p))
    cases z : zlet (f p) with
    | true => rw [sg_lt1 z]; rfl
    | false => rw [sg_lt z]; rfl
  · rw [decide_eq_false a]
    show pm_cmp .lt (ltV (Int32.ofInt (-1))) 0 = !(false && zlet (f p))
    rw [sg_lt zlet_m1]
    rfl
theorem zl_in {o : Nat} {x : Int32} (ho : o < 3) (z : zlev o x = true) : lvV x = nI o := by
  have hj : o = 0 ∨ o = 1 ∨ o = 2 := by omega
  rcases hj with rfl | rfl | rfl
  · have z : x = nI 60 ∨ x = nI 61 ∨ x = nI 62 := of_decide_eq_true z
    rcases z with rfl | rfl | rfl <;> decide +kernel
  · have z : x = nI 43 ∨ x = nI 45 := of_decide_eq_true z
    rcases z with rfl | rfl <;> decide +kernel
  · have z : x = nI 42 ∨ x = nI 47 := of_decide_eq_true z
    rcases z with rfl | rfl <;> decide +kernel
theorem zl_out {o : Nat} {x : Int32} (ho : o < 3) (z : zlev o x = false) : ¬ lvV x = nI o := by
  have n2 : ¬ (2 : Int32) = nI 0 ∧ ¬ (2 : Int32) = nI 1 ∧ ¬ (1 : Int32) = nI 0 ∧ ¬ (1 : Int32) = nI 2 ∧ ¬ (0 : Int32) = nI 1 ∧ ¬ (0 : Int32) = nI 2 := by decide +kernel
  have m0 := m1_ne (c := 0) (by decide)
  have m1 := m1_ne (c := 1) (by decide)
  have m2 := m1_ne (c := 2) (by decide)
  unfold lvV
  have hj : o = 0 ∨ o = 1 ∨ o = 2 := by omega
  by_cases a : 42 ≤ x.toInt ∧ x.toInt ≤ 62
  · rw [if_pos a]
    by_cases a2 : x = nI 42 ∨ x = nI 47
    · rw [if_pos a2]
      rcases hj with rfl | rfl | rfl
      · exact n2.1
      · exact n2.2.1
      · exact absurd a2 (of_decide_eq_false z)
    · rw [if_neg a2]
      by_cases a1 : x = nI 43 ∨ x = nI 45
      · rw [if_pos a1]
        rcases hj with rfl | rfl | rfl
        · exact n2.2.2.1
        · exact absurd a1 (of_decide_eq_false z)
        · exact n2.2.2.2.1
      · rw [if_neg a1]
        by_cases a0 : x = nI 60 ∨ x = nI 61 ∨ x = nI 62
        · rw [if_pos a0]
          rcases hj with rfl | rfl | rfl
          · exact absurd a0 (of_decide_eq_false z)
          · exact n2.2.2.2.2.1
          · exact n2.2.2.2.2.2
        · rw [if_neg a0]
          rcases hj with rfl | rfl | rfl
          · exact m0
          · exact m1
          · exact m2
  · rw [if_neg a]
    rcases hj with rfl | rfl | rfl
    · exact m0
    · exact m1
    · exact m2
theorem zlev_m1 {o : Nat} (ho : o < 3) : zlev o (Int32.ofInt (-1)) = false := by
  have hj : o = 0 ∨ o = 1 ∨ o = 2 := by omega
  rcases hj with rfl | rfl | rfl <;> decide +kernel
theorem sg_lev {o : Nat} (ho : o < 3) : pm_cmp .ne (lvV (sgA f n0 p 40)) (nI o) = !(decide (p < min n0 40) && zlev o (f p)) := by
  simp only [pm_cmp]
  unfold sgA
  by_cases a : p < min n0 40
  · rw [decide_eq_true a]
    show decide (¬ lvV (f p) = nI o) = !(true && zlev o (f p))
    cases z : zlev o (f p) with
    | true => rw [decide_eq_false (fun q => q (zl_in ho z))]; rfl
    | false => rw [decide_eq_true (zl_out ho z)]; rfl
  · rw [decide_eq_false a]
    show decide (¬ lvV (Int32.ofInt (-1)) = nI o) = !(false && zlev o (f p))
    rw [decide_eq_true (zl_out ho (zlev_m1 ho))]
    rfl
end ZRX
end MG95zyx1
section MG95zyx2
/-! the pure reader: more room does nothing -/
section ZRE
variable {f : Nat → Int32} {t : Nat}
theorem zmi_fix : ∀ (k p : Nat), t ≤ p + k → zmi f t (k + 1) p = zmi f t k p
  | 0, p, h => by
    show cond (decide (p < t ∧ f p = nI 45)) (zmi f t 0 (p + 1)) p = p
    rw [decide_eq_false (fun q => by omega)]
    rfl
  | k + 1, p, h => by
    show cond (decide (p < t ∧ f p = nI 45)) (zmi f t (k + 1) (p + 1)) p = cond (decide (p < t ∧ f p = nI 45)) (zmi f t k (p + 1)) p
    rw [zmi_fix k (p + 1) (by omega)]
theorem zmi_ge : ∀ (k p : Nat), p ≤ zmi f t k p
  | 0, _ => Nat.le_refl _
  | k + 1, p => by
    show p ≤ cond (decide (p < t ∧ f p = nI 45)) (zmi f t k (p + 1)) p
    have := zmi_ge k (p + 1)
    cases decide (p < t ∧ f p = nI 45) with
    | true => exact Nat.le_trans (by omega) this
    | false => exact Nat.le_refl _
theorem znb_ge : ∀ (k p : Nat), p ≤ znb f t k p
  | 0, _ => Nat.le_refl _
  | k + 1, p => by
    show p ≤ cond (dg f p t) (znb f t k (p + 1)) p
    have := znb_ge k (p + 1)
    cases dg f p t with
    | true => exact Nat.le_trans (by omega) this
    | false => exact Nat.le_refl _
theorem zlp_ge {st : Nat → Bool × Nat} {o : Nat} (hs : ∀ q, q ≤ (st q).2) : ∀ (k p : Nat), p ≤ (zlp st f t o k p).2
  | 0, _ => Nat.le_refl _
  | k + 1, p => by
    show p ≤ (cond (decide (p < t) && zlev o (f p)) (cond (st (p + 1)).1 (zlp st f t o k (st (p + 1)).2) (false, (st (p + 1)).2)) (true, p)).2
    have h1 := hs (p + 1)
    cases decide (p < t) && zlev o (f p) with
    | false => exact Nat.le_refl _
    | true =>
      cases (st (p + 1)).1 with
      | false =>
        show p ≤ (st (p + 1)).2
        omega
      | true =>
        have h2 := zlp_ge (o := o) hs k (st (p + 1)).2
        show p ≤ (zlp st f t o k (st (p + 1)).2).2
        omega
theorem zth_ge {st : Nat → Bool × Nat} {ns q : Nat} (hs : ∀ q, q ≤ (st q).2) : q ≤ (zth st f t ns q).2 := by
  unfold zth
  have h1 := hs (q + 1)
  cases dg f q t with
  | true => exact znb_ge 3 q
  | false =>
    cases decide (q < t) && zlet (f q) with
    | true => exact Nat.le_succ q
    | false =>
      cases decide (q < t ∧ f q = nI 40) && decide (ns < 4) with
      | false => exact Nat.le_refl _
      | true =>
        cases (st (q + 1)).1 && decide ((st (q + 1)).2 < t ∧ f (st (q + 1)).2 = nI 41) with
        | true =>
          show q ≤ (st (q + 1)).2 + 1
          omega
        | false =>
          show q ≤ (st (q + 1)).2
          omega
theorem pz_ge : ∀ (m o ns p : Nat), p ≤ (pz f t m o ns p).2
  | 0, _, _, _ => Nat.le_refl _
  | m + 1, o, ns, p => by
    show p ≤ (cond (Nat.ble 3 o) (zth (pz f t m 0 (ns + 1)) f t ns (zmi f t 40 p)) (cond (pz f t m (o + 1) ns p).1 (zlp (pz f t m (o + 1) ns) f t o (cond (Nat.beq o 0) 1 40) (pz f t m (o + 1) ns p).2) (false, (pz f t m (o + 1) ns p).2))).2
    have h1 := pz_ge m (o + 1) ns p
    cases Nat.ble 3 o with
    | true => exact Nat.le_trans (zmi_ge 40 p) (zth_ge (fun q => pz_ge m 0 (ns + 1) q))
    | false =>
      cases (pz f t m (o + 1) ns p).1 with
      | true => exact Nat.le_trans h1 (zlp_ge (fun q => pz_ge m (o + 1) ns q) _ _)
      | false => exact h1
theorem nbr_z {tp : Nat → Int32} : ∀ (k a : Nat) (v : Int32), (nbr tp t k a v).1 = znb tp t k a
  | 0, _, _ => rfl
  | k + 1, a, v => by
    show (cond (dg tp a t) (nbr tp t k (a + 1) (10 * v + tp a - 48)) (a, v)).1 = cond (dg tp a t) (znb tp t k (a + 1)) a
    cases dg tp a t with
    | true => exact nbr_z k (a + 1) _
    | false => rfl
end ZRE
/-! the reference's reader: steps -/
section ZRM
variable {n fr lo sl p t ns : Nat} {h : pm_H} {R : pm_Rs} {tp : Nat → Int32} {v : Int32} {v18 : Value}
theorem nI_pr1 (n : Nat) : nI (n + 1) - Int32.ofInt 1 = nI n := by
  rw [show nI (n + 1) = nI n + Int32.ofInt 1 from Int32.ofNat_add n 1]
  exact Int32.add_sub_cancel _ _
def qM (h : pm_H) (p t : Nat) (tp : Nat → Int32) : Prop := (mF h 16 (.int (nI p)) ∧ mF h 17 (.int (nI t)) ∧ mF h 14 (.ref 172) ∧ h 172 = .inl (0, 80, .inl tp)) ∧ mF h 22 (.ref 175) ∧ ∃ c : Int32, mF h 24 (.int c)
theorem qM_16 {p' : Nat} (q : qM h p t tp) : qM (mset h 16 (.int (nI p'))) p' t tp := by
  obtain ⟨⟨a1, a2, a3, a4⟩, a5, c, a6⟩ := q
  exact ⟨⟨mF_self a1, mF_ne (by decide) a2, mF_ne (by decide) a3, mset_arr (by decide) a4⟩, mF_ne (by decide) a5, c, mF_ne (by decide) a6⟩
theorem qM_18 {w : Value} (q : qM h p t tp) : qM (mset h 18 w) p t tp := by
  obtain ⟨⟨a1, a2, a3, a4⟩, a5, c, a6⟩ := q
  exact ⟨⟨mF_ne (by decide) a1, mF_ne (by decide) a2, mF_ne (by decide) a3, mset_arr (by decide) a4⟩, mF_ne (by decide) a5, c, mF_ne (by decide) a6⟩
theorem cod_run (q : qM h p t tp) (hh : pm_run PT n fr lo 193 (0, pm_l0 [.ref 162, .int v] 2, [], h, 198, sl) = some R) : R.1 = none ∧ qM R.2.1 p t tp ∧ (∀ w, mF h 18 w → mF R.2.1 18 w) ∧ R.2.2 = (198, sl) := by
  obtain ⟨⟨a1, a2, a3, a4⟩, a5, c, a6⟩ := q
  obtain ⟨n, hh⟩ := rn_i rfl rfl rfl rfl hh
  obtain ⟨n, hh⟩ := rn_gfm rfl rfl a5 hh
  obtain ⟨n, hh⟩ := rn_i rfl rfl rfl rfl hh
  obtain ⟨n, hh⟩ := rn_gfm rfl rfl a6 hh
  obtain ⟨n, hh⟩ := rn_i rfl rfl rfl rfl hh
  have hh : pm_run PT n fr lo 193 (9, [some (.ref 162), some (.int v)], [.int v, .int c, .ref 175], h, 198, sl) = some R := hh
  obtain ⟨n, kd, q, f1, hh⟩ := rn_isx rfl hh
  have b1 := up_mF (a := 175) (e := .inl (kd, q, .inl f1)) (by decide) a1
  have b2 := up_mF (a := 175) (e := .inl (kd, q, .inl f1)) (by decide) a2
  have b3 := up_mF (a := 175) (e := .inl (kd, q, .inl f1)) (by decide) a3
  have b4 : va_up h 175 (.inl (kd, q, .inl f1)) 172 = .inl (0, 80, .inl tp) := (up_ne (by decide)).trans a4
  have b5 := up_mF (a := 175) (e := .inl (kd, q, .inl f1)) (by decide) a5
  have b6 := up_mF (a := 175) (e := .inl (kd, q, .inl f1)) (by decide) a6
  have b8 : ∀ w, mF h 18 w → mF (va_up h 175 (.inl (kd, q, .inl f1))) 18 w := fun w hw => up_mF (by decide) hw
  generalize va_up h 175 (.inl (kd, q, .inl f1)) = h1 at hh b1 b2 b3 b4 b5 b6 b8
  have hh : pm_run PT n fr lo 193 (10, [some (.ref 162), some (.int v)], [], h1, 198, sl) = some R := hh
  obtain ⟨n, hh⟩ := rn_i rfl rfl rfl rfl hh
  obtain ⟨n, hh⟩ := rn_i rfl rfl rfl rfl hh
  obtain ⟨n, hh⟩ := rn_gfm rfl rfl b6 hh
  obtain ⟨n, hh⟩ := rn_i rfl rfl rfl rfl hh
  obtain ⟨n, hh⟩ := rn_i rfl rfl rfl rfl hh
  have hh : pm_run PT n fr lo 193 (17, [some (.ref 162), some (.int v)], [.int (c + 1), .ref 162], h1, 198, sl) = some R := hh
  obtain ⟨n, hh⟩ := rn_pfm (w := .int c) rfl rfl rfl (by decide) b6 hh
  have e := rn_vret rfl rfl hh
  rw [e]
  exact ⟨rfl, ⟨⟨mF_ne (by decide) b1, mF_ne (by decide) b2, mF_ne (by decide) b3, mset_arr (by decide) b4⟩, mF_ne (by decide) b5, _, mF_self b6⟩, fun w hw => mF_ne (by decide) (b8 w hw), rfl⟩
theorem tk_run {c : Nat} (ht : t ≤ 40) (hp : p ≤ t) (q : qM h p t tp) (hh : pm_run PT n fr lo 181 (0, pm_l0 [.ref 162, .int (nI c)] 3, [], h, 198, sl) = some R) : R = (some (.int (cond (decide (p < t ∧ tp p = nI c)) 1 0)), mset h 16 (.int (nI (p + cond (decide (p < t ∧ tp p = nI c)) 1 0))), 198, sl) := by
  have e := rn_dt (F := 10) (Lo := 1000) (hd_takes (fr := 10) (lo := 1000) (sl := sl) q.1.1 q.1.2.1 q.1.2.2.1 q.1.2.2.2 (by omega) (by omega) (by omega) (by omega) (nI c)) hh
  exact e
theorem ig_run (ht : t ≤ 40) (hp : p ≤ t) (q : qM h p t tp) (hh : pm_run PT n fr lo 182 (0, pm_l0 [.ref 162] 1, [], h, 198, sl) = some R) : R = (some (.int (cond (dg tp p t) 1 0)), h, 198, sl) := by
  have e := rn_dt (F := 10) (Lo := 1000) (hd_isDigit (fr := 10) (lo := 1000) (sl := sl) q.1.1 q.1.2.1 q.1.2.2.1 q.1.2.2.2 (by omega) (by omega) (by omega) (by omega)) hh
  exact e
theorem to_run {i : Nat} (hi : i < 5) (ht : t ≤ 40) (hp : p ≤ t) (q : qM h p t tp) (hh : pm_run PT n fr lo 183 (0, pm_l0 [.ref 162, .retAddr i] 3, [], h, 198, sl) = some R) : R = tkr h p sl (tko i tp p t (st_tx i).length 0) := by
  have e := rn_dt (F := 10) (Lo := 1000) (hd_takesOf (fr := 10) (lo := 1000) (sl := sl) q.1.1 q.1.2.1 q.1.2.2.1 q.1.2.2.2 (by omega) (by omega) (by omega) (by omega) hi) hh
  exact e
theorem tk_let (hl : p < t) : (tko 0 tp p t 7 0).isSome = zlet (tp p) := by
  have c0 : (st_tx 0).getD 0 0 = nI 119 := by decide +kernel
  have c1 : (st_tx 0).getD 1 0 = nI 107 := by decide +kernel
  have c2 : (st_tx 0).getD 2 0 = nI 114 := by decide +kernel
  have c3 : (st_tx 0).getD 3 0 = nI 115 := by decide +kernel
  have c4 : (st_tx 0).getD 4 0 = nI 104 := by decide +kernel
  have c5 : (st_tx 0).getD 5 0 = nI 101 := by decide +kernel
  have c6 : (st_tx 0).getD 6 0 = nI 100 := by decide +kernel
  show (cond (decide (p < t) && decide ((st_tx 0).getD 0 0 = tp p)) (some 0) (cond (decide (p < t) && decide ((st_tx 0).getD 1 0 = tp p)) (some 1) (cond (decide (p < t) && decide ((st_tx 0).getD 2 0 = tp p)) (some 2) (cond (decide (p < t) && decide ((st_tx 0).getD 3 0 = tp p)) (some 3) (cond (decide (p < t) && decide ((st_tx 0).getD 4 0 = tp p)) (some 4) (cond (decide (p < t) && decide ((st_tx 0).getD 5 0 = tp p)) (some 5) (cond (decide (p < t) && decide ((st_tx 0).getD 6 0 = tp p)) (some 6) none))))))).isSome = zlet (tp p)
  rw [decide_eq_true hl, c0, c1, c2, c3, c4, c5, c6]
  by_cases e0 : nI 119 = tp p
  · rw [decide_eq_true e0, show zlet (tp p) = true from decide_eq_true (Or.inl e0.symm)]
    rfl
  · rw [decide_eq_false e0]
    by_cases e1 : nI 107 = tp p
    · rw [decide_eq_true e1, show zlet (tp p) = true from decide_eq_true (Or.inr (Or.inl e1.symm))]
      rfl
    · rw [decide_eq_false e1]
      by_cases e2 : nI 114 = tp p
      · rw [decide_eq_true e2, show zlet (tp p) = true from decide_eq_true (Or.inr (Or.inr (Or.inl e2.symm)))]
        rfl
      · rw [decide_eq_false e2]
        by_cases e3 : nI 115 = tp p
        · rw [decide_eq_true e3, show zlet (tp p) = true from decide_eq_true (Or.inr (Or.inr (Or.inr (Or.inl e3.symm))))]
          rfl
        · rw [decide_eq_false e3]
          by_cases e4 : nI 104 = tp p
          · rw [decide_eq_true e4, show zlet (tp p) = true from decide_eq_true (Or.inr (Or.inr (Or.inr (Or.inr (Or.inl e4.symm)))))]
            rfl
          · rw [decide_eq_false e4]
            by_cases e5 : nI 101 = tp p
            · rw [decide_eq_true e5, show zlet (tp p) = true from decide_eq_true (Or.inr (Or.inr (Or.inr (Or.inr (Or.inr (Or.inl e5.symm))))))]
              rfl
            · rw [decide_eq_false e5]
              by_cases e6 : nI 100 = tp p
              · rw [decide_eq_true e6, show zlet (tp p) = true from decide_eq_true (Or.inr (Or.inr (Or.inr (Or.inr (Or.inr (Or.inr (e6.symm)))))))]
                rfl
              · rw [decide_eq_false e6]
                rw [show zlet (tp p) = false from decide_eq_false (fun q => by
                  rcases q with q | q | q | q | q | q | q
                  · exact e0 q.symm
                  · exact e1 q.symm
                  · exact e2 q.symm
                  · exact e3 q.symm
                  · exact e4 q.symm
                  · exact e5 q.symm
                  · exact e6 q.symm
                  )]
                rfl
theorem tk_l0 (hl : p < t) : (tko 1 tp p t 3 0).isSome = zlev 0 (tp p) := by
  have c0 : (st_tx 1).getD 0 0 = nI 60 := by decide +kernel
  have c1 : (st_tx 1).getD 1 0 = nI 62 := by decide +kernel
  have c2 : (st_tx 1).getD 2 0 = nI 61 := by decide +kernel
  show (cond (decide (p < t) && decide ((st_tx 1).getD 0 0 = tp p)) (some 0) (cond (decide (p < t) && decide ((st_tx 1).getD 1 0 = tp p)) (some 1) (cond (decide (p < t) && decide ((st_tx 1).getD 2 0 = tp p)) (some 2) none))).isSome = zlev 0 (tp p)
  rw [decide_eq_true hl, c0, c1, c2]
  by_cases e0 : nI 60 = tp p
  · rw [decide_eq_true e0, show zlev 0 (tp p) = true from decide_eq_true (Or.inl e0.symm)]
    rfl
  · rw [decide_eq_false e0]
    by_cases e1 : nI 62 = tp p
    · rw [decide_eq_true e1, show zlev 0 (tp p) = true from decide_eq_true (Or.inr (Or.inr (e1.symm)))]
      rfl
    · rw [decide_eq_false e1]
      by_cases e2 : nI 61 = tp p
      · rw [decide_eq_true e2, show zlev 0 (tp p) = true from decide_eq_true (Or.inr (Or.inl e2.symm))]
        rfl
      · rw [decide_eq_false e2]
        rw [show zlev 0 (tp p) = false from decide_eq_false (fun q => by
          rcases q with q | q | q
          · exact e0 q.symm
          · exact e2 q.symm
          · exact e1 q.symm
          )]
        rfl
theorem tk_l1 (hl : p < t) : (tko 2 tp p t 2 0).isSome = zlev 1 (tp p) := by
  have c0 : (st_tx 2).getD 0 0 = nI 43 := by decide +kernel
  have c1 : (st_tx 2).getD 1 0 = nI 45 := by decide +kernel
  show (cond (decide (p < t) && decide ((st_tx 2).getD 0 0 = tp p)) (some 0) (cond (decide (p < t) && decide ((st_tx 2).getD 1 0 = tp p)) (some 1) none)).isSome = zlev 1 (tp p)
  rw [decide_eq_true hl, c0, c1]
  by_cases e0 : nI 43 = tp p
  · rw [decide_eq_true e0, show zlev 1 (tp p) = true from decide_eq_true (Or.inl e0.symm)]
    rfl
  · rw [decide_eq_false e0]
    by_cases e1 : nI 45 = tp p
    · rw [decide_eq_true e1, show zlev 1 (tp p) = true from decide_eq_true (Or.inr (e1.symm))]
      rfl
    · rw [decide_eq_false e1]
      rw [show zlev 1 (tp p) = false from decide_eq_false (fun q => by
        rcases q with q | q
        · exact e0 q.symm
        · exact e1 q.symm
        )]
      rfl
theorem tk_l2 (hl : p < t) : (tko 3 tp p t 2 0).isSome = zlev 2 (tp p) := by
  have c0 : (st_tx 3).getD 0 0 = nI 42 := by decide +kernel
  have c1 : (st_tx 3).getD 1 0 = nI 47 := by decide +kernel
  show (cond (decide (p < t) && decide ((st_tx 3).getD 0 0 = tp p)) (some 0) (cond (decide (p < t) && decide ((st_tx 3).getD 1 0 = tp p)) (some 1) none)).isSome = zlev 2 (tp p)
  rw [decide_eq_true hl, c0, c1]
  by_cases e0 : nI 42 = tp p
  · rw [decide_eq_true e0, show zlev 2 (tp p) = true from decide_eq_true (Or.inl e0.symm)]
    rfl
  · rw [decide_eq_false e0]
    by_cases e1 : nI 47 = tp p
    · rw [decide_eq_true e1, show zlev 2 (tp p) = true from decide_eq_true (Or.inr (e1.symm))]
      rfl
    · rw [decide_eq_false e1]
      rw [show zlev 2 (tp p) = false from decide_eq_false (fun q => by
        rcases q with q | q
        · exact e0 q.symm
        · exact e1 q.symm
        )]
      rfl
theorem tk_no {i n : Nat} (hl : ¬ p < t) : (tko i tp p t n 0).isSome = false := by
  rw [tko_end hl]
  rfl
end ZRM
end MG95zyx2
section MG95zyx3
/-! the pure reader looks at the text alone -/
section ZRC
variable {f g : Nat → Int32} {t : Nat}
theorem dg_cg (hf : ∀ j, j < t → f j = g j) (p : Nat) : dg f p t = dg g p t := by
  unfold dg
  by_cases z : p < t
  · rw [hf p z]
  · rw [decide_eq_false z, Bool.false_and, Bool.false_and]
theorem eq_cg (hf : ∀ j, j < t → f j = g j) (p : Nat) (c : Int32) : decide (p < t ∧ f p = c) = decide (p < t ∧ g p = c) := by
  by_cases z : p < t
  · rw [hf p z]
  · rw [decide_eq_false (fun q => z q.1), decide_eq_false (fun q => z q.1)]
theorem an_cg {b : Int32 → Bool} (hf : ∀ j, j < t → f j = g j) (p : Nat) : (decide (p < t) && b (f p)) = (decide (p < t) && b (g p)) := by
  by_cases z : p < t
  · rw [hf p z]
  · rw [decide_eq_false z, Bool.false_and, Bool.false_and]
theorem zmi_cg (hf : ∀ j, j < t → f j = g j) : ∀ (k p : Nat), zmi f t k p = zmi g t k p
  | 0, _ => rfl
  | k + 1, p => by
    show cond (decide (p < t ∧ f p = nI 45)) (zmi f t k (p + 1)) p = cond (decide (p < t ∧ g p = nI 45)) (zmi g t k (p + 1)) p
    rw [eq_cg hf, zmi_cg hf k]
theorem znb_cg (hf : ∀ j, j < t → f j = g j) : ∀ (k p : Nat), znb f t k p = znb g t k p
  | 0, _ => rfl
  | k + 1, p => by
    show cond (dg f p t) (znb f t k (p + 1)) p = cond (dg g p t) (znb g t k (p + 1)) p
    rw [dg_cg hf, znb_cg hf k]
theorem zlp_cg {st : Nat → Bool × Nat} {o : Nat} (hf : ∀ j, j < t → f j = g j) : ∀ (k p : Nat), zlp st f t o k p = zlp st g t o k p
  | 0, _ => rfl
  | k + 1, p => by
    show cond (decide (p < t) && zlev o (f p)) (cond (st (p + 1)).1 (zlp st f t o k (st (p + 1)).2) (false, (st (p + 1)).2)) (true, p) = cond (decide (p < t) && zlev o (g p)) (cond (st (p + 1)).1 (zlp st g t o k (st (p + 1)).2) (false, (st (p + 1)).2)) (true, p)
    rw [an_cg (b := zlev o) hf, zlp_cg hf k]
theorem zth_cg {st : Nat → Bool × Nat} {ns : Nat} (hf : ∀ j, j < t → f j = g j) (q : Nat) : zth st f t ns q = zth st g t ns q := by
  unfold zth
  rw [dg_cg hf, znb_cg hf, an_cg (b := zlet) hf, eq_cg hf q, eq_cg hf (st (q + 1)).2]
theorem pz_cg (hf : ∀ j, j < t → f j = g j) : ∀ (m o ns : Nat), pz f t m o ns = pz g t m o ns
  | 0, _, _ => rfl
  | m + 1, o, ns => by
    funext p
    show cond (Nat.ble 3 o) (zth (pz f t m 0 (ns + 1)) f t ns (zmi f t 40 p)) (cond (pz f t m (o + 1) ns p).1 (zlp (pz f t m (o + 1) ns) f t o (cond (Nat.beq o 0) 1 40) (pz f t m (o + 1) ns p).2) (false, (pz f t m (o + 1) ns p).2)) = cond (Nat.ble 3 o) (zth (pz g t m 0 (ns + 1)) g t ns (zmi g t 40 p)) (cond (pz g t m (o + 1) ns p).1 (zlp (pz g t m (o + 1) ns) g t o (cond (Nat.beq o 0) 1 40) (pz g t m (o + 1) ns p).2) (false, (pz g t m (o + 1) ns p).2))
    rw [pz_cg hf m 0 (ns + 1), pz_cg hf m (o + 1) ns, zth_cg hf, zmi_cg hf, zlp_cg hf]
end ZRC
/-! rule of both sides -/
section ZRR
variable {n fr lo sl n0 cc o : Nat} {h h1 h2 : pm_H} {R : pm_Rs} {f tp : Nat → Int32} {v w : Int32}
/-- where the class's reader finds a fault -/
def zF (f : Nat → Int32) (n0 : Nat) : Int32 := if n0 = 0 then Int32.ofInt (-1) else cond ((pz f (min n0 40) 20 0 0 0).1 && decide ((pz f (min n0 40) 20 0 0 0).2 = n0)) (Int32.ofInt (-1)) (nI (pz f (min n0 40) 20 0 0 0).2)
def zA (f : Nat → Int32) (n0 : Nat) : Int32 := if n0 = 0 then Int32.ofInt 0 else cond ((pz f (min n0 40) 20 0 0 0).1 && decide ((pz f (min n0 40) 20 0 0 0).2 = n0)) (Int32.ofInt 0) (Int32.ofInt (-1) - nI (pz f (min n0 40) 20 0 0 0).2)
theorem qX_sz {p : Nat} {w : Value} {rs : List Value} (ho : oOk o) (e : h o = .inr (6, rs)) (q : qX h o p n0 cc f) : qX (va_up h o (.inr (6, rs.set 1 w))) o p n0 cc f := by
  obtain ⟨⟨rs', e1, e2, e3⟩, ⟨fs, a1, a2⟩, ⟨gs, b1, b2⟩, c1, ss, d1, d2⟩ := q
  rw [e] at e1
  cases e1
  have ne : ∀ a, a ≠ o → va_up h o (.inr (6, rs.set 1 w)) a = h a := fun a z => by simp [va_up, z]
  refine ⟨⟨rs.set 1 w, by simp [va_up], ?_, ?_⟩, ⟨fs, (ne 0 (Ne.symm ho.2.1)).trans a1, a2⟩, ⟨gs, (ne 1 (Ne.symm ho.2.2.1)).trans b1, b2⟩, (ne 2 (Ne.symm ho.2.2.2.1)).trans c1, ss, (ne 5 (Ne.symm ho.2.2.2.2)).trans d1, d2⟩
  · rw [List.getElem?_set_ne (by decide)]
    exact e2
  · rw [List.getElem?_set_ne (by decide)]
    exact e3
theorem hI_ne2 {a b : Nat} (ha : a < 2 ^ 31) (hb : b < 2 ^ 31) : pm_cmp .ne (nI a) (nI b) = decide (¬ a = b) := by
  simp only [pm_cmp]
  rw [decide_eq_decide]
  refine not_congr ⟨fun e => ?_, fun e => by rw [e]⟩
  have e := congrArg Int32.toInt e
  rw [nI_toInt ha, nI_toInt hb] at e
  omega
theorem ty_ru {a : Nat} {as : List av} {b1 b5 : av} (hh : ah_ok bB 198 [] h) (ha : a < 198) (hb : bB a = .inr (6, as)) (h4 : as[4]? = some (2, ((1 : Nat) : Int), 1)) (h1 : as[1]? = some b1) (z1 : b1.1 = 0) (h5 : as[5]? = some b5) (z5 : b5.1 = 0) : ∃ (rs : List Value) (w5 s1 : Int32), h a = .inr (6, rs) ∧ rs[4]? = some (.ref 1) ∧ rs[5]? = some (.int w5) ∧ rs[1]? = some (.int s1) := by
  have h0 : ac_ok (h a) (bB a) := hh a ha
  rw [hb] at h0
  obtain ⟨rs, e, hl, hv⟩ := aE_obj h0 (by decide)
  have g4 := ty_or hh ha hb (by decide) h4 rfl e
  have l1 : 1 < rs.length := by rw [hl]; exact (List.getElem?_eq_some_iff.mp h1).1
  have l5 : 5 < rs.length := by rw [hl]; exact (List.getElem?_eq_some_iff.mp h5).1
  obtain ⟨x1, q1, -⟩ := av_int z1 (hv 1 _ _ (List.getElem?_eq_getElem l1) h1)
  obtain ⟨x5, q5, -⟩ := av_int z5 (hv 5 _ _ (List.getElem?_eq_getElem l5) h5)
  exact ⟨rs, x5, x1, e, g4, by rw [List.getElem?_eq_getElem l5, q5], by rw [List.getElem?_eq_getElem l1, q1]⟩
end ZRR
end MG95zyx3
end MH95zux4
section MH95zux5
/-! the code that the class's reader of rules emits: functions alone -/
section ZCD
variable {f : Nat → Int32} {t : Nat}
def znv (f : Nat → Int32) (t : Nat) : Nat → Nat → Int32 → Int32
  | 0, _, v => v
  | k + 1, p, v => cond (dg f p t) (znv f t k (p + 1) (10 * v + (f p - nI 48))) v
def zng (f : Nat → Int32) (t : Nat) : Nat → Nat → Bool → Bool
  | 0, _, b => b
  | k + 1, p, b => cond (decide (p < t ∧ f p = nI 45)) (zng f t k (p + 1) (!b)) b
def cth (sc : Nat → List Int32) (f : Nat → Int32) (t q : Nat) : List Int32 := cond (dg f q t) [znv f t 3 q 0] (cond (decide (q < t) && zlet (f q)) [-(f q)] (sc (q + 1)))
def clp (sc : Nat → List Int32) (st : Nat → Bool × Nat) (f : Nat → Int32) (t o : Nat) : Nat → Nat → List Int32
  | 0, _ => []
  | k + 1, p => cond (decide (p < t) && zlev o (f p)) (sc (p + 1) ++ (-(f p)) :: clp sc st f t o k (st (p + 1)).2) []
def pc (f : Nat → Int32) (t : Nat) : Nat → Nat → Nat → Nat → List Int32
  | 0, _, _, _ => []
  | m + 1, o, ns, p => cond (Nat.ble 3 o) (cth (pc f t m 0 (ns + 1)) f t (zmi f t 40 p) ++ cond (zng f t 40 p false) [Int32.ofInt (-126)] []) (pc f t m (o + 1) ns p ++ clp (pc f t m (o + 1) ns) (pz f t m (o + 1) ns) f t o (cond (Nat.beq o 0) 1 40) (pz f t m (o + 1) ns p).2)
theorem zng_ne : ∀ (k p : Nat) (b : Bool), zng f t k p b = !b → p + 1 ≤ zmi f t k p
  | 0, _, b, h => by
    have h : b = !b := h
    cases b <;> cases h
  | k + 1, p, b, h => by
    have h : cond (decide (p < t ∧ f p = nI 45)) (zng f t k (p + 1) (!b)) b = !b := h
    show p + 1 ≤ cond (decide (p < t ∧ f p = nI 45)) (zmi f t k (p + 1)) p
    have := zmi_ge (f := f) (t := t) k (p + 1)
    cases z : decide (p < t ∧ f p = nI 45) with
    | true => exact this
    | false =>
      rw [z] at h
      have h : b = !b := h
      cases b <;> cases h
theorem zng_gt (k p : Nat) (h : zng f t k p false = true) : p + 1 ≤ zmi f t k p := zng_ne k p false h
theorem cth_len0 {st : Nat → Bool × Nat} {sc : Nat → List Int32} {ns q : Nat} (hs : ∀ q, (st q).1 = true → (sc q).length + q ≤ (st q).2) (e : (zth st f t ns q).1 = true) : (cth sc f t q).length + q ≤ (zth st f t ns q).2 := by
  unfold zth at e ⊢
  unfold cth
  cases z1 : dg f q t with
  | true =>
    show 1 + q ≤ znb f t 3 q
    have h0 : znb f t 3 q = cond (dg f q t) (znb f t 2 (q + 1)) q := rfl
    rw [z1] at h0
    have h1 : q + 1 ≤ znb f t 2 (q + 1) := znb_ge 2 (q + 1)
    have h0 : znb f t 3 q = znb f t 2 (q + 1) := h0
    omega
  | false =>
    rw [z1] at e
    cases z2 : (decide (q < t) && zlet (f q)) with
    | true => exact Nat.le_of_eq (Nat.add_comm 1 q)
    | false =>
      rw [z2] at e
      cases z3 : (decide (q < t ∧ f q = nI 40) && decide (ns < 4)) with
      | false =>
        rw [z3] at e
        cases e
      | true =>
        rw [z3] at e
        cases z4 : ((st (q + 1)).1 && decide ((st (q + 1)).2 < t ∧ f (st (q + 1)).2 = nI 41)) with
        | false =>
          rw [z4] at e
          cases e
        | true =>
          rw [Bool.and_eq_true] at z4
          have := hs (q + 1) z4.1
          show (sc (q + 1)).length + q ≤ (st (q + 1)).2 + 1
          omega
theorem clp_len {st : Nat → Bool × Nat} {sc : Nat → List Int32} {o : Nat} (hs : ∀ q, (st q).1 = true → (sc q).length + q ≤ (st q).2) : ∀ (k p : Nat), (zlp st f t o k p).1 = true → (clp sc st f t o k p).length + p ≤ (zlp st f t o k p).2
  | 0, p, _ => by
    show 0 + p ≤ p
    omega
  | k + 1, p, e => by
    have e : (cond (decide (p < t) && zlev o (f p)) (cond (st (p + 1)).1 (zlp st f t o k (st (p + 1)).2) (false, (st (p + 1)).2)) (true, p)).1 = true := e
    show (cond (decide (p < t) && zlev o (f p)) (sc (p + 1) ++ (-(f p)) :: clp sc st f t o k (st (p + 1)).2) []).length + p ≤ (cond (decide (p < t) && zlev o (f p)) (cond (st (p + 1)).1 (zlp st f t o k (st (p + 1)).2) (false, (st (p + 1)).2)) (true, p)).2
    cases z1 : (decide (p < t) && zlev o (f p)) with
    | false =>
      show 0 + p ≤ p
      omega
    | true =>
      rw [z1] at e
      cases z2 : (st (p + 1)).1 with
      | false =>
        rw [z2] at e
        cases e
      | true =>
        rw [z2] at e
        have h1 := hs (p + 1) z2
        have h2 := clp_len hs k (st (p + 1)).2 e
        show (sc (p + 1) ++ (-(f p)) :: clp sc st f t o k (st (p + 1)).2).length + p ≤ (zlp st f t o k (st (p + 1)).2).2
        rw [List.length_append, List.length_cons]
        omega
theorem pc_len : ∀ (m o ns p : Nat), (pz f t m o ns p).1 = true → (pc f t m o ns p).length + p ≤ (pz f t m o ns p).2
  | 0, _, _, _, e => by cases e
  | m + 1, o, ns, p, e => by
    have e : (cond (Nat.ble 3 o) (zth (pz f t m 0 (ns + 1)) f t ns (zmi f t 40 p)) (cond (pz f t m (o + 1) ns p).1 (zlp (pz f t m (o + 1) ns) f t o (cond (Nat.beq o 0) 1 40) (pz f t m (o + 1) ns p).2) (false, (pz f t m (o + 1) ns p).2))).1 = true := e
    show (cond (Nat.ble 3 o) (cth (pc f t m 0 (ns + 1)) f t (zmi f t 40 p) ++ cond (zng f t 40 p false) [Int32.ofInt (-126)] []) (pc f t m (o + 1) ns p ++ clp (pc f t m (o + 1) ns) (pz f t m (o + 1) ns) f t o (cond (Nat.beq o 0) 1 40) (pz f t m (o + 1) ns p).2)).length + p ≤ (cond (Nat.ble 3 o) (zth (pz f t m 0 (ns + 1)) f t ns (zmi f t 40 p)) (cond (pz f t m (o + 1) ns p).1 (zlp (pz f t m (o + 1) ns) f t o (cond (Nat.beq o 0) 1 40) (pz f t m (o + 1) ns p).2) (false, (pz f t m (o + 1) ns p).2))).2
    cases z1 : Nat.ble 3 o with
    | true =>
      rw [z1] at e
      have h1 := cth_len0 (sc := pc f t m 0 (ns + 1)) (pc_len m 0 (ns + 1)) e
      have h2 := zmi_ge (f := f) (t := t) 40 p
      show (cth (pc f t m 0 (ns + 1)) f t (zmi f t 40 p) ++ cond (zng f t 40 p false) [Int32.ofInt (-126)] []).length + p ≤ (zth (pz f t m 0 (ns + 1)) f t ns (zmi f t 40 p)).2
      rw [List.length_append]
      cases z2 : zng f t 40 p false with
      | true =>
        have h3 := zng_gt 40 p z2
        show _ + 1 + p ≤ _
        omega
      | false =>
        show _ + 0 + p ≤ _
        omega
    | false =>
      rw [z1] at e
      cases z2 : (pz f t m (o + 1) ns p).1 with
      | false =>
        have e : (cond (pz f t m (o + 1) ns p).1 (zlp (pz f t m (o + 1) ns) f t o (cond (Nat.beq o 0) 1 40) (pz f t m (o + 1) ns p).2) (false, (pz f t m (o + 1) ns p).2)).1 = true := e
        rw [z2] at e
        cases e
      | true =>
        have e : (cond (pz f t m (o + 1) ns p).1 (zlp (pz f t m (o + 1) ns) f t o (cond (Nat.beq o 0) 1 40) (pz f t m (o + 1) ns p).2) (false, (pz f t m (o + 1) ns p).2)).1 = true := e
        rw [z2] at e
        have h1 := pc_len m (o + 1) ns p z2
        have h2 := clp_len (sc := pc f t m (o + 1) ns) (pc_len m (o + 1) ns) _ _ e
        show (pc f t m (o + 1) ns p ++ clp (pc f t m (o + 1) ns) (pz f t m (o + 1) ns) f t o (cond (Nat.beq o 0) 1 40) (pz f t m (o + 1) ns p).2).length + p ≤ (zlp (pz f t m (o + 1) ns) f t o (cond (Nat.beq o 0) 1 40) (pz f t m (o + 1) ns p).2).2
        rw [List.length_append]
        omega
theorem cth_len {m ns q : Nat} (e : (zth (pz f t m 0 (ns + 1)) f t ns q).1 = true) : (cth (pc f t m 0 (ns + 1)) f t q).length + q ≤ (zth (pz f t m 0 (ns + 1)) f t ns q).2 := cth_len0 (pc_len m 0 (ns + 1)) e
end ZCD
/-! the class's reader with the code that it emits -/
section ZCX
variable {n fr lo sl n0 cc o p : Nat} {h : pm_H} {R : pm_Rs} {f : Nat → Int32} {x v : Int32} {cs : List Int32}
theorem sg_val (hl : p < min n0 40) : sgA f n0 p 40 = f p := by
  unfold sgA
  rw [decide_eq_true hl]
  rfl
def oOk2 (o : Nat) : Prop := oOk o ∧ (o + 1 < 198 ∧ o + 1 ≠ 0 ∧ o + 1 ≠ 1 ∧ o + 1 ≠ 2 ∧ o + 1 ≠ 5)
def kX (h : pm_H) (o : Nat) (cs : List Int32) : Prop := ∃ rs C, h o = .inr (6, rs) ∧ rs[0]? = some (.ref (o + 1)) ∧ rs[1]? = some (.int (nI cs.length)) ∧ h (o + 1) = .inl (0, 40, .inl C) ∧ ∀ j, j < cs.length → cs[j]? = some (C j)
def qC (h : pm_H) (o p n0 cc : Nat) (f : Nat → Int32) (cs : List Int32) : Prop := qX h o p n0 cc f ∧ kX h o cs
theorem kX_at {rs : List Value} {w : Value} (e : h o = .inr (6, rs)) (k : kX h o cs) : kX (va_up h o (.inr (6, rs.set 5 w))) o cs := by
  obtain ⟨rs', C, k1, k2, k3, k4, k5⟩ := k
  rw [e] at k1
  cases k1
  refine ⟨rs.set 5 w, C, by simp [va_up], ?_, ?_, ?_, k5⟩
  · rw [List.getElem?_set_ne (by decide)]
    exact k2
  · rw [List.getElem?_set_ne (by decide)]
    exact k3
  · rw [show va_up h o (.inr (6, rs.set 5 w)) (o + 1) = h (o + 1) from if_neg (by omega)]
    exact k4
theorem qC_at {p' : Nat} {rs : List Value} (ho : oOk2 o) (e : h o = .inr (6, rs)) (q : qC h o p n0 cc f cs) : qC (va_up h o (.inr (6, rs.set 5 (.int (nI p'))))) o p' n0 cc f cs := ⟨qX_at ho.1 e q.1, kX_at e q.2⟩
/-- a step is told, and stands in the code -/
theorem em_runC (ho : oOk2 o) (hl0 : cs.length < 40) (q : qC h o p n0 cc f cs) (hh : pm_run PT n fr lo 60 (0, pm_l0 [.ref o, .int v] 2, [], h, 198, sl) = some R) : R.1 = none ∧ qC R.2.1 o p n0 cc f (cs ++ [v]) ∧ R.2.2 = (198, sl) := by
  obtain ⟨a1, a2, a3⟩ := em_run q.1 hh
  refine ⟨a1, ⟨a2, ?_⟩, a3⟩
  obtain ⟨-, rs, C, k1, k2, k3, k4, k5⟩ := q
  obtain ⟨n, hh⟩ := rn_i rfl rfl rfl rfl hh
  obtain ⟨n, hh⟩ := rn_gfo (g := 1) rfl rfl ho.1.1 k1 k3 hh
  obtain ⟨n, hh⟩ := rn_i rfl rfl rfl rfl hh
  have hh : pm_run PT n fr lo 60 (6, [some (.ref o), some (.int v)], [.int (nI 40), .int (nI cs.length)], h, 198, sl) = some R := hh
  obtain ⟨n, hh⟩ := rn_icmp (cc := .ge) (off := 23) (t := 29) rfl rfl hh
  rw [hI_ge (by omega) (by omega), decide_eq_false (by omega)] at hh
  have hh : pm_run PT n fr lo 60 (9, [some (.ref o), some (.int v)], [], h, 198, sl) = some R := hh
  obtain ⟨n, hh⟩ := rn_i rfl rfl rfl rfl hh
  obtain ⟨n, hh⟩ := rn_gfo (g := 0) rfl rfl ho.1.1 k1 k2 hh
  obtain ⟨n, hh⟩ := rn_i rfl rfl rfl rfl hh
  obtain ⟨n, hh⟩ := rn_gfo (g := 1) rfl rfl ho.1.1 k1 k3 hh
  obtain ⟨n, hh⟩ := rn_i rfl rfl rfl rfl hh
  have hh : pm_run PT n fr lo 60 (18, [some (.ref o), some (.int v)], [.int v, .int (nI cs.length), .ref (o + 1)], h, 198, sl) = some R := hh
  obtain ⟨n, hh⟩ := rn_ism rfl k4 (hI_in (by omega) (by decide)) ho.2.1 hh
  rw [nI_clamp (by omega)] at hh
  have j1 : aset h (o + 1) 40 (upd C cs.length v) o = .inr (6, rs) := (asR_ne (by omega)).trans k1
  have hh : pm_run PT n fr lo 60 (19, [some (.ref o), some (.int v)], [], aset h (o + 1) 40 (upd C cs.length v), 198, sl) = some R := hh
  obtain ⟨n, hh⟩ := rn_i rfl rfl rfl rfl hh
  obtain ⟨n, hh⟩ := rn_i rfl rfl rfl rfl hh
  obtain ⟨n, hh⟩ := rn_gfo (g := 1) rfl rfl ho.1.1 j1 k3 hh
  obtain ⟨n, hh⟩ := rn_i rfl rfl rfl rfl hh
  obtain ⟨n, hh⟩ := rn_i rfl rfl rfl rfl hh
  have hh : pm_run PT n fr lo 60 (26, [some (.ref o), some (.int v)], [.int (nI cs.length + nI 1), .ref o], aset h (o + 1) 40 (upd C cs.length v), 198, sl) = some R := hh
  rw [nI_add] at hh
  obtain ⟨n, hh⟩ := rn_i rfl rfl rfl (pf_eq (f := 1) rfl rfl (by decide) ho.1.1 j1 k3) hh
  have e := rn_vret rfl rfl hh
  rw [e]
  dsimp only
  refine ⟨rs.set 1 (.int (nI (cs.length + 1))), upd C cs.length v, by simp [va_up], ?_, ?_, ?_, fun j hj => ?_⟩
  · rw [List.getElem?_set_ne (by decide)]
    exact k2
  · rw [List.getElem?_set_self (List.getElem?_eq_some_iff.mp k3).1, List.length_append]
    rfl
  · rw [show va_up (aset h (o + 1) 40 (upd C cs.length v)) o (.inr (6, rs.set 1 (.int (nI (cs.length + 1))))) (o + 1) = aset h (o + 1) 40 (upd C cs.length v) (o + 1) from if_neg (by omega)]
    exact asR_self
  · rw [List.length_append] at hj
    have hj : j < cs.length + 1 := hj
    unfold upd
    by_cases z : j = cs.length
    · subst z
      rw [if_pos rfl, List.getElem?_append_right (Nat.le_refl _), Nat.sub_self]
      rfl
    · rw [if_neg z, List.getElem?_append_left (by omega)]
      exact k5 j (by omega)
theorem nbc_loop {fr lo sl n0 cc o : Nat} {f : Nat → Int32} (ho : oOk2 o) (hn : n0 ≤ 80) {cs : List Int32} {R : pm_Rs} : ∀ (k i p n : Nat) (num : Int32) (h : pm_H), i + k = 3 → p ≤ min n0 40 → cs.length < 40 → qC h o p n0 cc f cs → pm_run PT n fr lo 66 (18, [some (.ref o), some (.int num), some (.int (dgA f n0 p 40)), some (.int (nI i))], [], h, 198, sl) = some R → R.1 = none ∧ qC R.2.1 o (znb f (min n0 40) k p) n0 cc f (cs ++ [znv f (min n0 40) k p num]) ∧ R.2.2 = (198, sl) := by
  have fin : ∀ (n p : Nat) (x2 num : Int32) (x3 : Option Value) (h : pm_H), cs.length < 40 → qC h o p n0 cc f cs → pm_run PT n fr lo 66 (64, [some (.ref o), some (.int num), some (.int x2), x3], [], h, 198, sl) = some R → R.1 = none ∧ qC R.2.1 o p n0 cc f (cs ++ [num]) ∧ R.2.2 = (198, sl) := by
    intro n p x2 num x3 h hl0 q hh
    obtain ⟨n, hh⟩ := rn_i rfl rfl rfl rfl hh
    obtain ⟨n, hh⟩ := rn_i rfl rfl rfl rfl hh
    obtain ⟨n, fr', lo', r1, hr1, hh⟩ := rn_call (w := 0) (t := 60) rfl rfl hh
    obtain ⟨e1, q2, e2⟩ := em_runC ho hl0 q hr1
    obtain ⟨rv, h2, s2⟩ := r1
    dsimp only at e1 e2 q2
    subst e1
    subst e2
    have hh : pm_run PT n fr lo 66 (69, [some (.ref o), some (.int num), some (.int x2), x3], [], h2, 198, sl) = some R := hh
    have e := rn_vret rfl rfl hh
    rw [e]
    exact ⟨rfl, q2, rfl⟩
  intro k
  induction k with
  | zero =>
    intro i p n num h hi hp hl0 q hh
    obtain ⟨n, hh⟩ := rn_i rfl rfl rfl rfl hh
    obtain ⟨n, hh⟩ := rn_i rfl rfl rfl rfl hh
    have hh : pm_run PT n fr lo 66 (20, [some (.ref o), some (.int num), some (.int (dgA f n0 p 40)), some (.int (nI i))], [.int (nI 3), .int (nI i)], h, 198, sl) = some R := hh
    obtain ⟨n, hh⟩ := rn_icmp (cc := .ge) (off := 44) (t := 64) rfl rfl hh
    rw [hI_ge (by omega) (by omega), decide_eq_true (by omega)] at hh
    exact fin n p _ _ _ h hl0 q hh
  | succ k ih =>
    intro i p n num h hi hp hl0 q hh
    obtain ⟨⟨⟨rs, e0, e4, e5⟩, px⟩, kq⟩ := id q
    obtain ⟨n, hh⟩ := rn_i rfl rfl rfl rfl hh
    obtain ⟨n, hh⟩ := rn_i rfl rfl rfl rfl hh
    have hh : pm_run PT n fr lo 66 (20, [some (.ref o), some (.int num), some (.int (dgA f n0 p 40)), some (.int (nI i))], [.int (nI 3), .int (nI i)], h, 198, sl) = some R := hh
    obtain ⟨n, hh⟩ := rn_icmp (cc := .ge) (off := 44) (t := 64) rfl rfl hh
    rw [hI_ge (by omega) (by omega), decide_eq_false (by omega)] at hh
    have hh : pm_run PT n fr lo 66 (23, [some (.ref o), some (.int num), some (.int (dgA f n0 p 40)), some (.int (nI i))], [], h, 198, sl) = some R := hh
    obtain ⟨n, hh⟩ := rn_i rfl rfl rfl rfl hh
    obtain ⟨n, hh⟩ := rn_if (cc := .lt) (off := 40) (t := 64) rfl rfl hh
    show R.1 = none ∧ qC R.2.1 o (cond (dg f p (min n0 40)) (znb f (min n0 40) k (p + 1)) p) n0 cc f (cs ++ [cond (dg f p (min n0 40)) (znv f (min n0 40) k (p + 1) (10 * num + (f p - nI 48))) num]) ∧ R.2.2 = (198, sl)
    cases z : dg f p (min n0 40) with
    | false =>
      have ed : dgA f n0 p 40 = Int32.ofInt (-1) := by unfold dgA; rw [z]; rfl
      have ec : pm_cmp .lt (dgA f n0 p 40) 0 = true := by rw [ed]; decide
      rw [ec] at hh
      exact fin n p _ _ _ h hl0 q hh
    | true =>
      have hl := dg_lt z
      have ed : dgA f n0 p 40 = f p - nI 48 := by unfold dgA; rw [z]; rfl
      have ec : pm_cmp .lt (dgA f n0 p 40) 0 = false := by rw [ed]; exact lt0_val (dg_val z).1
      rw [ec] at hh
      have hh : pm_run PT n fr lo 66 (27, [some (.ref o), some (.int num), some (.int (dgA f n0 p 40)), some (.int (nI i))], [], h, 198, sl) = some R := hh
      obtain ⟨n, hh⟩ := rn_i rfl rfl rfl rfl hh
      obtain ⟨n, hh⟩ := rn_i rfl rfl rfl rfl hh
      obtain ⟨n, hh⟩ := rn_i rfl rfl rfl rfl hh
      obtain ⟨n, hh⟩ := rn_i rfl rfl rfl rfl hh
      obtain ⟨n, hh⟩ := rn_i rfl rfl rfl rfl hh
      obtain ⟨n, hh⟩ := rn_i rfl rfl rfl rfl hh
      have hh : pm_run PT n fr lo 66 (34, [some (.ref o), some (.int ((10 * num) + (dgA f n0 p 40))), some (.int (dgA f n0 p 40)), some (.int (nI i))], [], h, 198, sl) = some R := hh
      obtain ⟨n, hh⟩ := rn_i rfl rfl rfl rfl hh
      obtain ⟨n, hh⟩ := rn_i rfl rfl rfl rfl hh
      obtain ⟨n, hh⟩ := rn_gfo (g := 5) rfl rfl ho.1.1 e0 e5 hh
      obtain ⟨n, hh⟩ := rn_i rfl rfl rfl rfl hh
      obtain ⟨n, hh⟩ := rn_i rfl rfl rfl rfl hh
      obtain ⟨n, hh⟩ := rn_i rfl rfl rfl (pf_eq (f := 5) rfl rfl (by decide) ho.1.1 e0 e5) hh
      have hh : pm_run PT n fr lo 66 (44, [some (.ref o), some (.int ((10 * num) + (dgA f n0 p 40))), some (.int (dgA f n0 p 40)), some (.int (nI i))], [], (va_up h o (.inr (6, rs.set 5 (.int (nI p + Int32.ofInt 1))))), 198, sl) = some R := hh
      rw [show nI p + Int32.ofInt 1 = nI (p + 1) from (Int32.ofNat_add p 1).symm] at hh
      have q2 := qC_at (p' := p + 1) ho e0 q
      generalize va_up h o (.inr (6, rs.set 5 (.int (nI (p + 1))))) = h2 at hh q2
      have hh : pm_run PT n fr lo 66 (44, [some (.ref o), some (.int ((10 * num) + (dgA f n0 p 40))), some (.int (dgA f n0 p 40)), some (.int (nI i))], [], h2, 198, sl) = some R := hh
      obtain ⟨⟨⟨rs2, f0, f4, f5⟩, px2⟩, kq2⟩ := id q2
      obtain ⟨n, hh⟩ := rn_i rfl rfl rfl rfl hh
      obtain ⟨n, hh⟩ := rn_gfo (g := 4) rfl rfl ho.1.1 f0 f4 hh
      obtain ⟨n, hh⟩ := rn_i rfl rfl rfl rfl hh
      obtain ⟨n, hh⟩ := rn_gfo (g := 5) rfl rfl ho.1.1 f0 f5 hh
      obtain ⟨n, hh⟩ := rn_i rfl rfl rfl rfl hh
      have hh : pm_run PT n fr lo 66 (54, [some (.ref o), some (.int ((10 * num) + (dgA f n0 p 40))), some (.int (dgA f n0 p 40)), some (.int (nI i))], [.int (nI 40), .int (nI (p + 1)), .ref 1], h2, 198, sl) = some R := hh
      obtain ⟨n, fr', lo', r1, hr1, hh⟩ := rn_call (w := 0) (t := 81) rfl rfl hh
      have er := dgA_run hn (by decide) (by omega) px2 hr1
      subst er
      have hh : pm_run PT n fr lo 66 (57, [some (.ref o), some (.int ((10 * num) + (dgA f n0 p 40))), some (.int (dgA f n0 p 40)), some (.int (nI i))], [.int (dgA f n0 (p + 1) 40)], h2, 198, sl) = some R := hh
      obtain ⟨n, hh⟩ := rn_i rfl rfl rfl rfl hh
      obtain ⟨n, hh⟩ := rn_i rfl rfl rfl rfl hh
      obtain ⟨n, hh⟩ := rn_i rfl rfl rfl rfl hh
      have hh : pm_run PT n fr lo 66 (18, [some (.ref o), some (.int ((10 * num) + (dgA f n0 p 40))), some (.int (dgA f n0 (p + 1) 40)), some (.int ((nI i) + Int32.ofInt 1))], [], h2, 198, sl) = some R := hh
      rw [show nI i + Int32.ofInt 1 = nI (i + 1) from (Int32.ofNat_add i 1).symm] at hh
      rw [ed] at hh
      exact ih (i + 1) (p + 1) n _ h2 (by omega) (by omega) hl0 q2 hh
theorem nbc_run {n fr lo sl n0 cc o : Nat} {f : Nat → Int32} (ho : oOk2 o) (hn : n0 ≤ 80) {cs : List Int32} {p : Nat} {h : pm_H} {R : pm_Rs} (hp : p ≤ min n0 40) (hl0 : cs.length < 40) (q : qC h o p n0 cc f cs) (hh : pm_run PT n fr lo 66 (0, pm_l0 [.ref o] 4, [], h, 198, sl) = some R) : R.1 = none ∧ qC R.2.1 o (znb f (min n0 40) 3 p) n0 cc f (cs ++ [znv f (min n0 40) 3 p 0]) ∧ R.2.2 = (198, sl) := by
  obtain ⟨⟨⟨rs, e0, e4, e5⟩, px⟩, kq⟩ := id q
  obtain ⟨n, hh⟩ := rn_i rfl rfl rfl rfl hh
  obtain ⟨n, hh⟩ := rn_i rfl rfl rfl rfl hh
  obtain ⟨n, hh⟩ := rn_i rfl rfl rfl rfl hh
  obtain ⟨n, hh⟩ := rn_gfo (g := 4) rfl rfl ho.1.1 e0 e4 hh
  obtain ⟨n, hh⟩ := rn_i rfl rfl rfl rfl hh
  obtain ⟨n, hh⟩ := rn_gfo (g := 5) rfl rfl ho.1.1 e0 e5 hh
  obtain ⟨n, hh⟩ := rn_i rfl rfl rfl rfl hh
  have hh : pm_run PT n fr lo 66 (12, [some (.ref o), some (.int 0), none, none], [.int (nI 40), .int (nI p), .ref 1], h, 198, sl) = some R := hh
  obtain ⟨n, fr', lo', r1, hr1, hh⟩ := rn_call (w := 0) (t := 81) rfl rfl hh
  have er := dgA_run hn (by decide) (by omega) px hr1
  subst er
  have hh : pm_run PT n fr lo 66 (15, [some (.ref o), some (.int 0), none, none], [.int (dgA f n0 p 40)], h, 198, sl) = some R := hh
  obtain ⟨n, hh⟩ := rn_i rfl rfl rfl rfl hh
  obtain ⟨n, hh⟩ := rn_i rfl rfl rfl rfl hh
  obtain ⟨n, hh⟩ := rn_i rfl rfl rfl rfl hh
  have hh : pm_run PT n fr lo 66 (18, [some (.ref o), some (.int 0), some (.int (dgA f n0 p 40)), some (.int 0)], [], h, 198, sl) = some R := hh
  exact nbc_loop ho hn 3 0 p n _ h (by omega) hp hl0 q hh
/-- what a reader of rules answers, and the code that it emits -/
def zC (R : pm_Rs) (o n0 cc sl : Nat) (f : Nat → Int32) (cs : List Int32) (r : Bool × Nat) (ds : List Int32) : Prop := R.1 = some (.int (cond r.1 1 0)) ∧ qX R.2.1 o r.2 n0 cc f ∧ R.2.2 = (198, sl) ∧ (r.1 = true → qC R.2.1 o r.2 n0 cc f (cs ++ ds))
def cC (m n0 cc o : Nat) (f : Nat → Int32) : Prop := ∀ (lv ns p n fr lo sl : Nat) (h : pm_H) (R : pm_Rs) (cs : List Int32), lv ≤ 3 → ns ≤ 4 → (4 - lv) + 4 * (4 - ns) ≤ m → p ≤ min n0 40 → cs.length ≤ p → qC h o p n0 cc f cs → pm_run PT n fr lo 62 (0, pm_l0 [.ref o, .int (nI lv), .int (nI ns)] 6, [], h, 198, sl) = some R → zC R o n0 cc sl f cs (pz f (min n0 40) m lv ns p) (pc f (min n0 40) m lv ns p)
theorem zC_ok {R : pm_Rs} {o n0 cc sl p : Nat} {f : Nat → Int32} {cs ds : List Int32} {h : pm_H} (q : qC h o p n0 cc f (cs ++ ds)) (e : R = (some (.int 1), h, 198, sl)) : zC R o n0 cc sl f cs (true, p) ds := by
  rw [e]
  exact ⟨rfl, q.1, rfl, fun _ => q⟩
theorem zC_no {R : pm_Rs} {o n0 cc sl p : Nat} {f : Nat → Int32} {cs ds : List Int32} {h : pm_H} (q : qX h o p n0 cc f) (e : R = (some (.int 0), h, 198, sl)) : zC R o n0 cc sl f cs (false, p) ds := by
  rw [e]
  exact ⟨rfl, q, rfl, fun y => by cases y⟩
theorem thc_run {n fr lo sl n0 cc o : Nat} {f : Nat → Int32} (ho : oOk2 o) (hn : n0 ≤ 80) {cs : List Int32} {m ns p : Nat} {h : pm_H} {R : pm_Rs} (ih : cC m n0 cc o f) (hns : ns ≤ 4) (hm : 4 * (4 - ns) ≤ m) (hp : p ≤ min n0 40) (hl0 : cs.length ≤ p) (q : qC h o p n0 cc f cs) (hh : pm_run PT n fr lo 65 (0, pm_l0 [.ref o, .int (nI ns)] 3, [], h, 198, sl) = some R) : zC R o n0 cc sl f cs (zth (pz f (min n0 40) m 0 (ns + 1)) f (min n0 40) ns p) (cth (pc f (min n0 40) m 0 (ns + 1)) f (min n0 40) p) := by
  obtain ⟨⟨⟨rs, e0, e4, e5⟩, px⟩, kq⟩ := id q
  obtain ⟨n, hh⟩ := rn_i rfl rfl rfl rfl hh
  obtain ⟨n, fr', lo', r1, hr1, hh⟩ := rn_call (w := 0) (t := 61) rfl rfl hh
  have er := ns_run ho.1 hn (by omega) q.1 hr1
  subst er
  have hh : pm_run PT n fr lo 65 (4, [some (.ref o), some (.int (nI ns)), none], [.int (sgA f n0 p 40)], h, 198, sl) = some R := hh
  obtain ⟨n, hh⟩ := rn_i rfl rfl rfl rfl hh
  have hh : pm_run PT n fr lo 65 (5, [some (.ref o), some (.int (nI ns)), some (.int (sgA f n0 p 40))], [], h, 198, sl) = some R := hh
  obtain ⟨n, hh⟩ := rn_i rfl rfl rfl rfl hh
  obtain ⟨n, hh⟩ := rn_i rfl rfl rfl rfl hh
  have hh : pm_run PT n fr lo 65 (8, [some (.ref o), some (.int (nI ns)), some (.int (sgA f n0 p 40))], [.int (nI 48), .int (sgA f n0 p 40)], h, 198, sl) = some R := hh
  obtain ⟨n, hh⟩ := rn_icmp (cc := .lt) (off := 15) (t := 23) rfl rfl hh
  unfold zth cth
  cases z : dg f p (min n0 40) with
  | true =>
    obtain ⟨d1, d2⟩ := sg_dg z
    rw [d1] at hh
    have hh : pm_run PT n fr lo 65 (11, [some (.ref o), some (.int (nI ns)), some (.int (sgA f n0 p 40))], [], h, 198, sl) = some R := hh
    obtain ⟨n, hh⟩ := rn_i rfl rfl rfl rfl hh
    obtain ⟨n, hh⟩ := rn_i rfl rfl rfl rfl hh
    have hh : pm_run PT n fr lo 65 (14, [some (.ref o), some (.int (nI ns)), some (.int (sgA f n0 p 40))], [.int (nI 57), .int (sgA f n0 p 40)], h, 198, sl) = some R := hh
    obtain ⟨n, hh⟩ := rn_icmp (cc := .gt) (off := 9) (t := 23) rfl rfl hh
    rw [d2] at hh
    have hh : pm_run PT n fr lo 65 (17, [some (.ref o), some (.int (nI ns)), some (.int (sgA f n0 p 40))], [], h, 198, sl) = some R := hh
    obtain ⟨n, hh⟩ := rn_i rfl rfl rfl rfl hh
    obtain ⟨n, fr', lo', r1, hr1, hh⟩ := rn_call (w := 0) (t := 66) rfl rfl hh
    obtain ⟨b1, b2, b3⟩ := nbc_run ho hn hp (by have := dg_lt z; omega) q hr1
    obtain ⟨rv, h2, s2⟩ := r1
    dsimp only at b1 b2 b3
    subst b1
    subst b3
    have hh : pm_run PT n fr lo 65 (21, [some (.ref o), some (.int (nI ns)), some (.int (sgA f n0 p 40))], [], h2, 198, sl) = some R := hh
    obtain ⟨n, hh⟩ := rn_i rfl rfl rfl rfl hh
    exact zC_ok b2 (rn_ret rfl (Or.inr rfl) hh).2
  | false =>
    have to23 : ∀ n : Nat, pm_run PT n fr lo 65 (23, [some (.ref o), some (.int (nI ns)), some (.int (sgA f n0 p 40))], [], h, 198, sl) = some R → zC R o n0 cc sl f cs (cond false (true, znb f (min n0 40) 3 p) (cond (decide (p < min n0 40) && zlet (f p)) (true, p + 1) (cond (decide (p < min n0 40 ∧ f p = nI 40) && decide (ns < 4)) (cond ((pz f (min n0 40) m 0 (ns + 1) (p + 1)).1 && decide ((pz f (min n0 40) m 0 (ns + 1) (p + 1)).2 < min n0 40 ∧ f (pz f (min n0 40) m 0 (ns + 1) (p + 1)).2 = nI 41)) (true, (pz f (min n0 40) m 0 (ns + 1) (p + 1)).2 + 1) (false, (pz f (min n0 40) m 0 (ns + 1) (p + 1)).2)) (false, p)))) (cond false [znv f (min n0 40) 3 p 0] (cond (decide (p < min n0 40) && zlet (f p)) [-(f p)] (pc f (min n0 40) m 0 (ns + 1) (p + 1)))) := by
      intro n hh
      obtain ⟨n, hh⟩ := rn_i rfl rfl rfl rfl hh
      obtain ⟨n, fr', lo', r1, hr1, hh⟩ := rn_call (w := 2) (t := 67) rfl rfl hh
      have er := ltx_run hr1
      subst er
      have hh : pm_run PT n fr lo 65 (27, [some (.ref o), some (.int (nI ns)), some (.int (sgA f n0 p 40))], [.int (ltV (sgA f n0 p 40))], h, 198, sl) = some R := hh
      obtain ⟨n, hh⟩ := rn_if (cc := .lt) (off := 21) (t := 48) rfl rfl hh
      rw [sg_let] at hh
      cases zl : (decide (p < min n0 40) && zlet (f p)) with
      | true =>
        have hl : p < min n0 40 := by
          rw [Bool.and_eq_true] at zl
          exact of_decide_eq_true zl.1
        rw [zl] at hh
        have hh : pm_run PT n fr lo 65 (30, [some (.ref o), some (.int (nI ns)), some (.int (sgA f n0 p 40))], [], h, 198, sl) = some R := hh
        obtain ⟨n, hh⟩ := rn_i rfl rfl rfl rfl hh
        obtain ⟨n, hh⟩ := rn_i rfl rfl rfl rfl hh
        obtain ⟨n, hh⟩ := rn_i rfl rfl rfl rfl hh
        have hh : pm_run PT n fr lo 65 (33, [some (.ref o), some (.int (nI ns)), some (.int (sgA f n0 p 40))], [.int (-(sgA f n0 p 40)), .ref o], h, 198, sl) = some R := hh
        obtain ⟨n, fr', lo', r1, hr1, hh⟩ := rn_call (w := 0) (t := 60) rfl rfl hh
        obtain ⟨b1, b2, b3⟩ := em_runC ho (by omega) q hr1
        obtain ⟨rv, h2, s2⟩ := r1
        dsimp only at b1 b2 b3
        subst b1
        subst b3
        obtain ⟨⟨⟨rs, e0, e4, e5⟩, px⟩, kq⟩ := id b2
        have hh : pm_run PT n fr lo 65 (36, [some (.ref o), some (.int (nI ns)), some (.int (sgA f n0 p 40))], [], h2, 198, sl) = some R := hh
        obtain ⟨n, hh⟩ := rn_i rfl rfl rfl rfl hh
        obtain ⟨n, hh⟩ := rn_i rfl rfl rfl rfl hh
        obtain ⟨n, hh⟩ := rn_gfo (g := 5) rfl rfl ho.1.1 e0 e5 hh
        obtain ⟨n, hh⟩ := rn_i rfl rfl rfl rfl hh
        obtain ⟨n, hh⟩ := rn_i rfl rfl rfl rfl hh
        obtain ⟨n, hh⟩ := rn_i rfl rfl rfl (pf_eq (f := 5) rfl rfl (by decide) ho.1.1 e0 e5) hh
        have hh : pm_run PT n fr lo 65 (46, [some (.ref o), some (.int (nI ns)), some (.int (sgA f n0 p 40))], [], (va_up h2 o (.inr (6, rs.set 5 (.int (nI p + Int32.ofInt 1))))), 198, sl) = some R := hh
        rw [show nI p + Int32.ofInt 1 = nI (p + 1) from (Int32.ofNat_add p 1).symm] at hh
        have q3 := qC_at (p' := p + 1) ho e0 b2
        generalize va_up h2 o (.inr (6, rs.set 5 (.int (nI (p + 1))))) = h3 at hh q3
        have hh : pm_run PT n fr lo 65 (46, [some (.ref o), some (.int (nI ns)), some (.int (sgA f n0 p 40))], [], h3, 198, sl) = some R := hh
        obtain ⟨n, hh⟩ := rn_i rfl rfl rfl rfl hh
        have eg : -(sgA f n0 p 40) = -(f p) := by rw [sg_val hl]
        rw [eg] at q3
        exact zC_ok q3 (rn_ret rfl (Or.inr rfl) hh).2
      | false =>
        rw [zl] at hh
        have hh : pm_run PT n fr lo 65 (48, [some (.ref o), some (.int (nI ns)), some (.int (sgA f n0 p 40))], [], h, 198, sl) = some R := hh
        obtain ⟨n, hh⟩ := rn_i rfl rfl rfl rfl hh
        obtain ⟨n, hh⟩ := rn_i rfl rfl rfl rfl hh
        have hh : pm_run PT n fr lo 65 (51, [some (.ref o), some (.int (nI ns)), some (.int (sgA f n0 p 40))], [.int (nI 40), .int (sgA f n0 p 40)], h, 198, sl) = some R := hh
        obtain ⟨n, hh⟩ := rn_icmp (cc := .ne) (off := 8) (t := 59) rfl rfl hh
        rw [sg_ne (by decide)] at hh
        have no : ∀ n : Nat, pm_run PT n fr lo 65 (59, [some (.ref o), some (.int (nI ns)), some (.int (sgA f n0 p 40))], [], h, 198, sl) = some R → zC R o n0 cc sl f cs (false, p) (pc f (min n0 40) m 0 (ns + 1) (p + 1)) := by
          intro n hh
          obtain ⟨n, hh⟩ := rn_i rfl rfl rfl rfl hh
          exact zC_no q.1 (rn_ret rfl (Or.inr rfl) hh).2
        cases zo : decide (p < min n0 40 ∧ f p = nI 40) with
        | false =>
          rw [zo] at hh
          exact no n hh
        | true =>
          rw [zo] at hh
          have hl := (of_decide_eq_true zo).1
          have hh : pm_run PT n fr lo 65 (54, [some (.ref o), some (.int (nI ns)), some (.int (sgA f n0 p 40))], [], h, 198, sl) = some R := hh
          obtain ⟨n, hh⟩ := rn_i rfl rfl rfl rfl hh
          obtain ⟨n, hh⟩ := rn_i rfl rfl rfl rfl hh
          have hh : pm_run PT n fr lo 65 (56, [some (.ref o), some (.int (nI ns)), some (.int (sgA f n0 p 40))], [.int (nI 4), .int (nI ns)], h, 198, sl) = some R := hh
          obtain ⟨n, hh⟩ := rn_icmp (cc := .lt) (off := 5) (t := 61) rfl rfl hh
          rw [hI_lt (by omega) (by omega)] at hh
          by_cases z4 : ns < 4
          · rw [decide_eq_true z4] at hh
            rw [decide_eq_true z4]
            have hh : pm_run PT n fr lo 65 (61, [some (.ref o), some (.int (nI ns)), some (.int (sgA f n0 p 40))], [], h, 198, sl) = some R := hh
            obtain ⟨n, hh⟩ := rn_i rfl rfl rfl rfl hh
            obtain ⟨n, hh⟩ := rn_i rfl rfl rfl rfl hh
            obtain ⟨n, hh⟩ := rn_gfo (g := 5) rfl rfl ho.1.1 e0 e5 hh
            obtain ⟨n, hh⟩ := rn_i rfl rfl rfl rfl hh
            obtain ⟨n, hh⟩ := rn_i rfl rfl rfl rfl hh
            obtain ⟨n, hh⟩ := rn_i rfl rfl rfl (pf_eq (f := 5) rfl rfl (by decide) ho.1.1 e0 e5) hh
            have hh : pm_run PT n fr lo 65 (71, [some (.ref o), some (.int (nI ns)), some (.int (sgA f n0 p 40))], [], (va_up h o (.inr (6, rs.set 5 (.int (nI p + Int32.ofInt 1))))), 198, sl) = some R := hh
            rw [show nI p + Int32.ofInt 1 = nI (p + 1) from (Int32.ofNat_add p 1).symm] at hh
            have q3 := qC_at (p' := p + 1) ho e0 q
            generalize va_up h o (.inr (6, rs.set 5 (.int (nI (p + 1))))) = h3 at hh q3
            have hh : pm_run PT n fr lo 65 (71, [some (.ref o), some (.int (nI ns)), some (.int (sgA f n0 p 40))], [], h3, 198, sl) = some R := hh
            obtain ⟨n, hh⟩ := rn_i rfl rfl rfl rfl hh
            obtain ⟨n, hh⟩ := rn_i rfl rfl rfl rfl hh
            obtain ⟨n, hh⟩ := rn_i rfl rfl rfl rfl hh
            obtain ⟨n, hh⟩ := rn_i rfl rfl rfl rfl hh
            obtain ⟨n, hh⟩ := rn_i rfl rfl rfl rfl hh
            have hh : pm_run PT n fr lo 65 (76, [some (.ref o), some (.int (nI ns)), some (.int (sgA f n0 p 40))], [.int (nI ns + Int32.ofInt 1), .int (nI 0), .ref o], h3, 198, sl) = some R := hh
            rw [show nI ns + Int32.ofInt 1 = nI (ns + 1) from (Int32.ofNat_add ns 1).symm] at hh
            obtain ⟨n, fr', lo', r1, hr1, hh⟩ := rn_call (w := 0) (t := 62) rfl rfl hh
            obtain ⟨b1, b2, b3, b4⟩ := ih 0 (ns + 1) (p + 1) _ _ _ _ _ _ _ (by omega) (by omega) (by omega) (by omega) (by omega) q3 hr1
            obtain ⟨rv, h4, s4⟩ := r1
            dsimp only at b1 b2 b3 b4
            subst b1
            subst b3
            have hh : pm_run PT n fr lo 65 (79, [some (.ref o), some (.int (nI ns)), some (.int (sgA f n0 p 40))], [.int (cond (pz f (min n0 40) m 0 (ns + 1) (p + 1)).1 1 0)], h4, 198, sl) = some R := hh
            have hle := pz_le (f := f) (t := min n0 40) m 0 (ns + 1) (p + 1) (by omega)
            generalize pz f (min n0 40) m 0 (ns + 1) (p + 1) = r at *
            obtain ⟨rb, rp⟩ := r
            dsimp only at b2 b4 hle hh ⊢
            have hh : pm_run PT n fr lo 65 (79, [some (.ref o), some (.int (nI ns)), some (.int (sgA f n0 p 40))], [.int (cond rb 1 0)], h4, 198, sl) = some R := hh
            obtain ⟨n, hh⟩ := rn_if (cc := .eq) (off := 12) (t := 91) rfl rfl hh
            have no2 : ∀ n : Nat, pm_run PT n fr lo 65 (91, [some (.ref o), some (.int (nI ns)), some (.int (sgA f n0 p 40))], [], h4, 198, sl) = some R → zC R o n0 cc sl f cs (false, rp) (pc f (min n0 40) m 0 (ns + 1) (p + 1)) := by
              intro n hh
              obtain ⟨n, hh⟩ := rn_i rfl rfl rfl rfl hh
              exact zC_no b2 (rn_ret rfl (Or.inr rfl) hh).2
            cases rb with
            | false => exact no2 n hh
            | true =>
              have b2 := b4 rfl
              have hh : pm_run PT n fr lo 65 (82, [some (.ref o), some (.int (nI ns)), some (.int (sgA f n0 p 40))], [], h4, 198, sl) = some R := hh
              obtain ⟨n, hh⟩ := rn_i rfl rfl rfl rfl hh
              obtain ⟨n, fr', lo', r1, hr1, hh⟩ := rn_call (w := 0) (t := 61) rfl rfl hh
              have er := ns_run ho.1 hn (by omega) b2.1 hr1
              subst er
              obtain ⟨n, hh⟩ := rn_i rfl rfl rfl rfl hh
              have hh : pm_run PT n fr lo 65 (88, [some (.ref o), some (.int (nI ns)), some (.int (sgA f n0 p 40))], [.int (nI 41), .int (sgA f n0 rp 40)], h4, 198, sl) = some R := hh
              obtain ⟨n, hh⟩ := rn_icmp (cc := .eq) (off := 5) (t := 93) rfl rfl hh
              rw [sg_eq (by decide)] at hh
              cases zc : decide (rp < min n0 40 ∧ f rp = nI 41) with
              | false =>
                rw [zc] at hh
                exact no2 n hh
              | true =>
                rw [zc] at hh
                obtain ⟨⟨⟨rs, e0, e4, e5⟩, px⟩, kq⟩ := id b2
                have hh : pm_run PT n fr lo 65 (93, [some (.ref o), some (.int (nI ns)), some (.int (sgA f n0 p 40))], [], h4, 198, sl) = some R := hh
                obtain ⟨n, hh⟩ := rn_i rfl rfl rfl rfl hh
                obtain ⟨n, hh⟩ := rn_i rfl rfl rfl rfl hh
                obtain ⟨n, hh⟩ := rn_gfo (g := 5) rfl rfl ho.1.1 e0 e5 hh
                obtain ⟨n, hh⟩ := rn_i rfl rfl rfl rfl hh
                obtain ⟨n, hh⟩ := rn_i rfl rfl rfl rfl hh
                obtain ⟨n, hh⟩ := rn_i rfl rfl rfl (pf_eq (f := 5) rfl rfl (by decide) ho.1.1 e0 e5) hh
                have hh : pm_run PT n fr lo 65 (103, [some (.ref o), some (.int (nI ns)), some (.int (sgA f n0 p 40))], [], (va_up h4 o (.inr (6, rs.set 5 (.int (nI rp + Int32.ofInt 1))))), 198, sl) = some R := hh
                rw [show nI rp + Int32.ofInt 1 = nI (rp + 1) from (Int32.ofNat_add rp 1).symm] at hh
                have q5 := qC_at (p' := rp + 1) ho e0 b2
                generalize va_up h4 o (.inr (6, rs.set 5 (.int (nI (rp + 1))))) = h5 at hh q5
                have hh : pm_run PT n fr lo 65 (103, [some (.ref o), some (.int (nI ns)), some (.int (sgA f n0 p 40))], [], h5, 198, sl) = some R := hh
                obtain ⟨n, hh⟩ := rn_i rfl rfl rfl rfl hh
                exact zC_ok q5 (rn_ret rfl (Or.inr rfl) hh).2
          · rw [decide_eq_false z4] at hh
            rw [decide_eq_false z4]
            exact no n hh
    cases y : pm_cmp .lt (sgA f n0 p 40) (nI 48) with
    | true =>
      rw [y] at hh
      exact to23 n hh
    | false =>
      rw [y] at hh
      have hh : pm_run PT n fr lo 65 (11, [some (.ref o), some (.int (nI ns)), some (.int (sgA f n0 p 40))], [], h, 198, sl) = some R := hh
      obtain ⟨n, hh⟩ := rn_i rfl rfl rfl rfl hh
      obtain ⟨n, hh⟩ := rn_i rfl rfl rfl rfl hh
      have hh : pm_run PT n fr lo 65 (14, [some (.ref o), some (.int (nI ns)), some (.int (sgA f n0 p 40))], [.int (nI 57), .int (sgA f n0 p 40)], h, 198, sl) = some R := hh
      obtain ⟨n, hh⟩ := rn_icmp (cc := .gt) (off := 9) (t := 23) rfl rfl hh
      rw [sg_nd z y] at hh
      exact to23 n hh
theorem mic_loop {fr lo sl n0 cc o : Nat} {f : Nat → Int32} (ho : oOk2 o) (hn : n0 ≤ 80) {cs : List Int32} {ns : Nat} {R : pm_Rs} : ∀ (k i p n : Nat) (ng : Bool) (h : pm_H), i + k = 40 → p ≤ min n0 40 → qC h o p n0 cc f cs → pm_run PT n fr lo 64 (4, [some (.ref o), some (.int (nI ns)), some (.int (cond ng 1 0)), some (.int (nI i))], [], h, 198, sl) = some R → ∃ (q i' : Nat) (h' : pm_H), pm_run PT q fr lo 64 (45, [some (.ref o), some (.int (nI ns)), some (.int (cond (zng f (min n0 40) k p ng) 1 0)), some (.int (nI i'))], [], h', 198, sl) = some R ∧ qC h' o (zmi f (min n0 40) k p) n0 cc f cs := by
  intro k
  induction k with
  | zero =>
    intro i p n ng h hi hp q hh
    obtain ⟨n, hh⟩ := rn_i rfl rfl rfl rfl hh
    obtain ⟨n, hh⟩ := rn_i rfl rfl rfl rfl hh
    have hh : pm_run PT n fr lo 64 (7, [some (.ref o), some (.int (nI ns)), some (.int (cond ng 1 0)), some (.int (nI i))], [.int (nI 40), .int (nI i)], h, 198, sl) = some R := hh
    obtain ⟨n, hh⟩ := rn_icmp (cc := .ge) (off := 38) (t := 45) rfl rfl hh
    rw [hI_ge (by omega) (by omega), decide_eq_true (by omega)] at hh
    exact ⟨n, i, h, hh, q⟩
  | succ k ih =>
    intro i p n ng h hi hp q hh
    obtain ⟨⟨⟨rs, e0, e4, e5⟩, px⟩, kq⟩ := id q
    obtain ⟨n, hh⟩ := rn_i rfl rfl rfl rfl hh
    obtain ⟨n, hh⟩ := rn_i rfl rfl rfl rfl hh
    have hh : pm_run PT n fr lo 64 (7, [some (.ref o), some (.int (nI ns)), some (.int (cond ng 1 0)), some (.int (nI i))], [.int (nI 40), .int (nI i)], h, 198, sl) = some R := hh
    obtain ⟨n, hh⟩ := rn_icmp (cc := .ge) (off := 38) (t := 45) rfl rfl hh
    rw [hI_ge (by omega) (by omega), decide_eq_false (by omega)] at hh
    have hh : pm_run PT n fr lo 64 (10, [some (.ref o), some (.int (nI ns)), some (.int (cond ng 1 0)), some (.int (nI i))], [], h, 198, sl) = some R := hh
    obtain ⟨n, hh⟩ := rn_i rfl rfl rfl rfl hh
    obtain ⟨n, fr', lo', r1, hr1, hh⟩ := rn_call (w := 0) (t := 61) rfl rfl hh
    have er := ns_run ho.1 hn (by omega) q.1 hr1
    subst er
    obtain ⟨n, hh⟩ := rn_i rfl rfl rfl rfl hh
    have hh : pm_run PT n fr lo 64 (16, [some (.ref o), some (.int (nI ns)), some (.int (cond ng 1 0)), some (.int (nI i))], [.int (nI 45), .int (sgA f n0 p 40)], h, 198, sl) = some R := hh
    obtain ⟨n, hh⟩ := rn_icmp (cc := .ne) (off := 29) (t := 45) rfl rfl hh
    rw [sg_ne (by decide)] at hh
    show ∃ (q i' : Nat) (h' : pm_H), pm_run PT q fr lo 64 (45, [some (.ref o), some (.int (nI ns)), some (.int (cond (cond (decide (p < min n0 40 ∧ f p = nI 45)) (zng f (min n0 40) k (p + 1) (!ng)) ng) 1 0)), some (.int (nI i'))], [], h', 198, sl) = some R ∧ qC h' o (cond (decide (p < min n0 40 ∧ f p = nI 45)) (zmi f (min n0 40) k (p + 1)) p) n0 cc f cs
    cases z : decide (p < min n0 40 ∧ f p = nI 45) with
    | false =>
      rw [z] at hh
      exact ⟨n, i, h, hh, q⟩
    | true =>
      rw [z] at hh
      have hl := (of_decide_eq_true z).1
      have hh : pm_run PT n fr lo 64 (19, [some (.ref o), some (.int (nI ns)), some (.int (cond ng 1 0)), some (.int (nI i))], [], h, 198, sl) = some R := hh
      have fin : ∀ (n : Nat) (g2 : Bool), pm_run PT n fr lo 64 (28, [some (.ref o), some (.int (nI ns)), some (.int (cond ng 1 0)), some (.int (nI i))], [.int (cond g2 1 0)], h, 198, sl) = some R → ∃ (q i' : Nat) (h' : pm_H), pm_run PT q fr lo 64 (45, [some (.ref o), some (.int (nI ns)), some (.int (cond (zng f (min n0 40) k (p + 1) g2) 1 0)), some (.int (nI i'))], [], h', 198, sl) = some R ∧ qC h' o (zmi f (min n0 40) k (p + 1)) n0 cc f cs := by
        intro n g2 hh
        obtain ⟨n, hh⟩ := rn_i rfl rfl rfl rfl hh
        have hh : pm_run PT n fr lo 64 (29, [some (.ref o), some (.int (nI ns)), some (.int (cond g2 1 0)), some (.int (nI i))], [], h, 198, sl) = some R := hh
        obtain ⟨n, hh⟩ := rn_i rfl rfl rfl rfl hh
        obtain ⟨n, hh⟩ := rn_i rfl rfl rfl rfl hh
        obtain ⟨n, hh⟩ := rn_gfo (g := 5) rfl rfl ho.1.1 e0 e5 hh
        obtain ⟨n, hh⟩ := rn_i rfl rfl rfl rfl hh
        obtain ⟨n, hh⟩ := rn_i rfl rfl rfl rfl hh
        obtain ⟨n, hh⟩ := rn_i rfl rfl rfl (pf_eq (f := 5) rfl rfl (by decide) ho.1.1 e0 e5) hh
        have hh : pm_run PT n fr lo 64 (39, [some (.ref o), some (.int (nI ns)), some (.int (cond g2 1 0)), some (.int (nI i))], [], (va_up h o (.inr (6, rs.set 5 (.int (nI p + Int32.ofInt 1))))), 198, sl) = some R := hh
        rw [show nI p + Int32.ofInt 1 = nI (p + 1) from (Int32.ofNat_add p 1).symm] at hh
        have q2 := qC_at (p' := p + 1) ho e0 q
        generalize va_up h o (.inr (6, rs.set 5 (.int (nI (p + 1))))) = h2 at hh q2
        have hh : pm_run PT n fr lo 64 (39, [some (.ref o), some (.int (nI ns)), some (.int (cond g2 1 0)), some (.int (nI i))], [], h2, 198, sl) = some R := hh
        obtain ⟨n, hh⟩ := rn_i rfl rfl rfl rfl hh
        obtain ⟨n, hh⟩ := rn_i rfl rfl rfl rfl hh
        have hh : pm_run PT n fr lo 64 (4, [some (.ref o), some (.int (nI ns)), some (.int (cond g2 1 0)), some (.int ((nI i) + Int32.ofInt 1))], [], h2, 198, sl) = some R := hh
        rw [show nI i + Int32.ofInt 1 = nI (i + 1) from (Int32.ofNat_add i 1).symm] at hh
        exact ih (i + 1) (p + 1) n _ h2 (by omega) (by omega) q2 hh
      obtain ⟨n, hh⟩ := rn_i rfl rfl rfl rfl hh
      obtain ⟨n, hh⟩ := rn_if (cc := .ne) (off := 7) (t := 27) rfl rfl hh
      cases ng with
      | true =>
        obtain ⟨n, hh⟩ := rn_i rfl rfl rfl rfl hh
        exact fin n false hh
      | false =>
        obtain ⟨n, hh⟩ := rn_i rfl rfl rfl rfl hh
        obtain ⟨n, hh⟩ := rn_i rfl rfl rfl rfl hh
        exact fin n true hh
theorem sic_run {n fr lo sl n0 cc o : Nat} {f : Nat → Int32} (ho : oOk2 o) (hn : n0 ≤ 80) {cs : List Int32} {m ns p : Nat} {h : pm_H} {R : pm_Rs} (ih : cC m n0 cc o f) (hns : ns ≤ 4) (hm : 4 * (4 - ns) ≤ m) (hp : p ≤ min n0 40) (hl0 : cs.length ≤ p) (q : qC h o p n0 cc f cs) (hh : pm_run PT n fr lo 64 (0, pm_l0 [.ref o, .int (nI ns)] 4, [], h, 198, sl) = some R) : zC R o n0 cc sl f cs (zth (pz f (min n0 40) m 0 (ns + 1)) f (min n0 40) ns (zmi f (min n0 40) 40 p)) (cth (pc f (min n0 40) m 0 (ns + 1)) f (min n0 40) (zmi f (min n0 40) 40 p) ++ cond (zng f (min n0 40) 40 p false) [Int32.ofInt (-126)] []) := by
  obtain ⟨n, hh⟩ := rn_i rfl rfl rfl rfl hh
  obtain ⟨n, hh⟩ := rn_i rfl rfl rfl rfl hh
  obtain ⟨n, hh⟩ := rn_i rfl rfl rfl rfl hh
  obtain ⟨n, hh⟩ := rn_i rfl rfl rfl rfl hh
  have hh : pm_run PT n fr lo 64 (4, [some (.ref o), some (.int (nI ns)), some (.int 0), some (.int 0)], [], h, 198, sl) = some R := hh
  obtain ⟨n, i2, h2, hh, q2⟩ := mic_loop ho hn 40 0 p n false h (by omega) hp q hh
  have hz := zmi_le (f := f) (t := min n0 40) 40 p hp
  have hg := zmi_ge (f := f) (t := min n0 40) 40 p
  have hx := zng_gt (f := f) (t := min n0 40) 40 p
  generalize zng f (min n0 40) 40 p false = g2 at *
  generalize zmi f (min n0 40) 40 p = pq at *
  obtain ⟨n, hh⟩ := rn_i rfl rfl rfl rfl hh
  obtain ⟨n, hh⟩ := rn_i rfl rfl rfl rfl hh
  obtain ⟨n, fr', lo', r1, hr1, hh⟩ := rn_call (w := 0) (t := 65) rfl rfl hh
  obtain ⟨b1, b2, b3, b4⟩ := thc_run ho hn ih hns hm hz (by omega) q2 hr1
  obtain ⟨rv, h3, s3⟩ := r1
  dsimp only at b1 b2 b3 b4
  subst b1
  subst b3
  have hrl := zth_le (f := f) (fun q hq => pz_le (f := f) (t := min n0 40) m 0 (ns + 1) q hq) (ns := ns) hz
  have hlen := cth_len (f := f) (t := min n0 40) (m := m) (ns := ns) (q := pq)
  have hh : pm_run PT n fr lo 64 (50, [some (.ref o), some (.int (nI ns)), some (.int (cond g2 1 0)), some (.int (nI i2))], [.int (cond (zth (pz f (min n0 40) m 0 (ns + 1)) f (min n0 40) ns pq).1 1 0)], h3, 198, sl) = some R := hh
  generalize zth (pz f (min n0 40) m 0 (ns + 1)) f (min n0 40) ns pq = r at *
  generalize cth (pc f (min n0 40) m 0 (ns + 1)) f (min n0 40) pq = dt at *
  obtain ⟨rb, rp⟩ := r
  dsimp only at b2 b4 hh hlen hrl ⊢
  have hh : pm_run PT n fr lo 64 (50, [some (.ref o), some (.int (nI ns)), some (.int (cond g2 1 0)), some (.int (nI i2))], [.int (cond rb 1 0)], h3, 198, sl) = some R := hh
  obtain ⟨n, hh⟩ := rn_if (cc := .ne) (off := 5) (t := 55) rfl rfl hh
  cases rb with
  | false =>
    obtain ⟨n, hh⟩ := rn_i rfl rfl rfl rfl hh
    exact zC_no b2 (rn_ret rfl (Or.inr rfl) hh).2
  | true =>
    have hh : pm_run PT n fr lo 64 (55, [some (.ref o), some (.int (nI ns)), some (.int (cond g2 1 0)), some (.int (nI i2))], [], h3, 198, sl) = some R := hh
    have b5 := b4 rfl
    have hlen := hlen rfl
    obtain ⟨n, hh⟩ := rn_i rfl rfl rfl rfl hh
    obtain ⟨n, hh⟩ := rn_if (cc := .eq) (off := 9) (t := 65) rfl rfl hh
    cases g2 with
    | false =>
      obtain ⟨n, hh⟩ := rn_i rfl rfl rfl rfl hh
      exact zC_ok (by rw [show cond false [Int32.ofInt (-126)] ([] : List Int32) = [] from rfl, List.append_nil]; exact b5) (rn_ret rfl (Or.inr rfl) hh).2
    | true =>
      have hx := hx rfl
      have hh : pm_run PT n fr lo 64 (59, [some (.ref o), some (.int (nI ns)), some (.int (cond true 1 0)), some (.int (nI i2))], [], h3, 198, sl) = some R := hh
      obtain ⟨n, hh⟩ := rn_i rfl rfl rfl rfl hh
      obtain ⟨n, hh⟩ := rn_i rfl rfl rfl rfl hh
      obtain ⟨n, fr', lo', r1, hr1, hh⟩ := rn_call (w := 0) (t := 60) rfl rfl hh
      obtain ⟨d1, d2, d3⟩ := em_runC ho (by rw [List.length_append]; omega) b5 hr1
      obtain ⟨rv, h4, s4⟩ := r1
      dsimp only at d1 d2 d3
      subst d1
      subst d3
      have hh : pm_run PT n fr lo 64 (65, [some (.ref o), some (.int (nI ns)), some (.int (cond true 1 0)), some (.int (nI i2))], [], h4, 198, sl) = some R := hh
      obtain ⟨n, hh⟩ := rn_i rfl rfl rfl rfl hh
      rw [List.append_assoc] at d2
      exact zC_ok d2 (rn_ret rfl (Or.inr rfl) hh).2
theorem lpc_loop {n0 cc o : Nat} {f : Nat → Int32} (ho : oOk2 o) (hn : n0 ≤ 80) {m lv ns mo fr lo sl : Nat} {R : pm_Rs} (ih : cC m n0 cc o f) (hlv : lv < 3) (hns : ns ≤ 4) (hm : (4 - (lv + 1)) + 4 * (4 - ns) ≤ m) (hmo : mo < 100) : ∀ (k i p n : Nat) (x5 : Option Value) (h : pm_H) (cs : List Int32), i + k = mo → p ≤ min n0 40 → cs.length ≤ p → qC h o p n0 cc f cs → pm_run PT n fr lo 62 (38, [some (.ref o), some (.int (nI lv)), some (.int (nI ns)), some (.int (nI mo)), some (.int (nI i)), x5], [], h, 198, sl) = some R → zC R o n0 cc sl f cs (zlp (pz f (min n0 40) m (lv + 1) ns) f (min n0 40) lv k p) (clp (pc f (min n0 40) m (lv + 1) ns) (pz f (min n0 40) m (lv + 1) ns) f (min n0 40) lv k p) := by
  have yes : ∀ (n p i : Nat) (x5 : Option Value) (h : pm_H) (cs : List Int32), qC h o p n0 cc f cs → pm_run PT n fr lo 62 (97, [some (.ref o), some (.int (nI lv)), some (.int (nI ns)), some (.int (nI mo)), some (.int (nI i)), x5], [], h, 198, sl) = some R → zC R o n0 cc sl f cs (true, p) [] := by
    intro n p i x5 h cs q hh
    obtain ⟨n, hh⟩ := rn_i rfl rfl rfl rfl hh
    exact zC_ok (by rw [List.append_nil]; exact q) (rn_ret rfl (Or.inr rfl) hh).2
  intro k
  induction k with
  | zero =>
    intro i p n x5 h cs hi hp hl0 q hh
    obtain ⟨n, hh⟩ := rn_i rfl rfl rfl rfl hh
    obtain ⟨n, hh⟩ := rn_i rfl rfl rfl rfl hh
    have hh : pm_run PT n fr lo 62 (41, [some (.ref o), some (.int (nI lv)), some (.int (nI ns)), some (.int (nI mo)), some (.int (nI i)), x5], [.int (nI mo), .int (nI i)], h, 198, sl) = some R := hh
    obtain ⟨n, hh⟩ := rn_icmp (cc := .ge) (off := 56) (t := 97) rfl rfl hh
    rw [hI_ge (by omega) (by omega), decide_eq_true (by omega)] at hh
    exact yes n p i x5 h cs q hh
  | succ k ihk =>
    intro i p n x5 h cs hi hp hl0 q hh
    obtain ⟨⟨⟨rs, e0, e4, e5⟩, px⟩, kq⟩ := id q
    obtain ⟨n, hh⟩ := rn_i rfl rfl rfl rfl hh
    obtain ⟨n, hh⟩ := rn_i rfl rfl rfl rfl hh
    have hh : pm_run PT n fr lo 62 (41, [some (.ref o), some (.int (nI lv)), some (.int (nI ns)), some (.int (nI mo)), some (.int (nI i)), x5], [.int (nI mo), .int (nI i)], h, 198, sl) = some R := hh
    obtain ⟨n, hh⟩ := rn_icmp (cc := .ge) (off := 56) (t := 97) rfl rfl hh
    rw [hI_ge (by omega) (by omega), decide_eq_false (by omega)] at hh
    have hh : pm_run PT n fr lo 62 (44, [some (.ref o), some (.int (nI lv)), some (.int (nI ns)), some (.int (nI mo)), some (.int (nI i)), x5], [], h, 198, sl) = some R := hh
    obtain ⟨n, hh⟩ := rn_i rfl rfl rfl rfl hh
    obtain ⟨n, fr', lo', r1, hr1, hh⟩ := rn_call (w := 0) (t := 61) rfl rfl hh
    have er := ns_run ho.1 hn (by omega) q.1 hr1
    subst er
    have hh : pm_run PT n fr lo 62 (48, [some (.ref o), some (.int (nI lv)), some (.int (nI ns)), some (.int (nI mo)), some (.int (nI i)), x5], [.int (sgA f n0 p 40)], h, 198, sl) = some R := hh
    obtain ⟨n, fr', lo', r1, hr1, hh⟩ := rn_call (w := 2) (t := 63) rfl rfl hh
    have er := lvx_run hr1
    subst er
    obtain ⟨n, hh⟩ := rn_i rfl rfl rfl rfl hh
    have hh : pm_run PT n fr lo 62 (52, [some (.ref o), some (.int (nI lv)), some (.int (nI ns)), some (.int (nI mo)), some (.int (nI i)), x5], [.int (nI lv), .int (lvV (sgA f n0 p 40))], h, 198, sl) = some R := hh
    obtain ⟨n, hh⟩ := rn_icmp (cc := .ne) (off := 45) (t := 97) rfl rfl hh
    rw [sg_lev hlv] at hh
    show zC R o n0 cc sl f cs (cond (decide (p < min n0 40) && zlev lv (f p)) (cond (pz f (min n0 40) m (lv + 1) ns (p + 1)).1 (zlp (pz f (min n0 40) m (lv + 1) ns) f (min n0 40) lv k (pz f (min n0 40) m (lv + 1) ns (p + 1)).2) (false, (pz f (min n0 40) m (lv + 1) ns (p + 1)).2)) (true, p)) (cond (decide (p < min n0 40) && zlev lv (f p)) (pc f (min n0 40) m (lv + 1) ns (p + 1) ++ (-(f p)) :: clp (pc f (min n0 40) m (lv + 1) ns) (pz f (min n0 40) m (lv + 1) ns) f (min n0 40) lv k (pz f (min n0 40) m (lv + 1) ns (p + 1)).2) [])
    cases z : (decide (p < min n0 40) && zlev lv (f p)) with
    | false =>
      rw [z] at hh
      exact yes n p i x5 h cs q hh
    | true =>
      have hl : p < min n0 40 := by
        rw [Bool.and_eq_true] at z
        exact of_decide_eq_true z.1
      rw [z] at hh
      have hh : pm_run PT n fr lo 62 (55, [some (.ref o), some (.int (nI lv)), some (.int (nI ns)), some (.int (nI mo)), some (.int (nI i)), x5], [], h, 198, sl) = some R := hh
      obtain ⟨n, hh⟩ := rn_i rfl rfl rfl rfl hh
      obtain ⟨n, fr', lo', r1, hr1, hh⟩ := rn_call (w := 0) (t := 61) rfl rfl hh
      have er := ns_run ho.1 hn (by omega) q.1 hr1
      subst er
      have hh : pm_run PT n fr lo 62 (59, [some (.ref o), some (.int (nI lv)), some (.int (nI ns)), some (.int (nI mo)), some (.int (nI i)), x5], [.int (sgA f n0 p 40)], h, 198, sl) = some R := hh
      obtain ⟨n, hh⟩ := rn_i rfl rfl rfl rfl hh
      have hh : pm_run PT n fr lo 62 (61, [some (.ref o), some (.int (nI lv)), some (.int (nI ns)), some (.int (nI mo)), some (.int (nI i)), some (.int (sgA f n0 p 40))], [], h, 198, sl) = some R := hh
      obtain ⟨n, hh⟩ := rn_i rfl rfl rfl rfl hh
      obtain ⟨n, hh⟩ := rn_i rfl rfl rfl rfl hh
      obtain ⟨n, hh⟩ := rn_gfo (g := 5) rfl rfl ho.1.1 e0 e5 hh
      obtain ⟨n, hh⟩ := rn_i rfl rfl rfl rfl hh
      obtain ⟨n, hh⟩ := rn_i rfl rfl rfl rfl hh
      obtain ⟨n, hh⟩ := rn_i rfl rfl rfl (pf_eq (f := 5) rfl rfl (by decide) ho.1.1 e0 e5) hh
      have hh : pm_run PT n fr lo 62 (71, [some (.ref o), some (.int (nI lv)), some (.int (nI ns)), some (.int (nI mo)), some (.int (nI i)), some (.int (sgA f n0 p 40))], [], (va_up h o (.inr (6, rs.set 5 (.int (nI p + Int32.ofInt 1))))), 198, sl) = some R := hh
      rw [show nI p + Int32.ofInt 1 = nI (p + 1) from (Int32.ofNat_add p 1).symm] at hh
      have q2 := qC_at (p' := p + 1) ho e0 q
      generalize va_up h o (.inr (6, rs.set 5 (.int (nI (p + 1))))) = h2 at hh q2
      have hh : pm_run PT n fr lo 62 (71, [some (.ref o), some (.int (nI lv)), some (.int (nI ns)), some (.int (nI mo)), some (.int (nI i)), some (.int (sgA f n0 p 40))], [], h2, 198, sl) = some R := hh
      obtain ⟨n, hh⟩ := rn_i rfl rfl rfl rfl hh
      obtain ⟨n, hh⟩ := rn_i rfl rfl rfl rfl hh
      obtain ⟨n, hh⟩ := rn_i rfl rfl rfl rfl hh
      obtain ⟨n, hh⟩ := rn_i rfl rfl rfl rfl hh
      obtain ⟨n, hh⟩ := rn_i rfl rfl rfl rfl hh
      have hh : pm_run PT n fr lo 62 (76, [some (.ref o), some (.int (nI lv)), some (.int (nI ns)), some (.int (nI mo)), some (.int (nI i)), some (.int (sgA f n0 p 40))], [.int (nI ns), .int (nI lv + Int32.ofInt 1), .ref o], h2, 198, sl) = some R := hh
      rw [show nI lv + Int32.ofInt 1 = nI (lv + 1) from (Int32.ofNat_add lv 1).symm] at hh
      obtain ⟨n, fr', lo', r1, hr1, hh⟩ := rn_call (w := 0) (t := 62) rfl rfl hh
      obtain ⟨b1, b2, b3, b4⟩ := ih (lv + 1) ns (p + 1) _ _ _ _ _ _ _ (by omega) hns hm (by omega) (by omega) q2 hr1
      obtain ⟨rv, h3, s3⟩ := r1
      dsimp only at b1 b2 b3 b4
      subst b1
      subst b3
      have hle := pz_le (f := f) (t := min n0 40) m (lv + 1) ns (p + 1) (by omega)
      have hlen := pc_len (f := f) (t := min n0 40) m (lv + 1) ns (p + 1)
      have hh : pm_run PT n fr lo 62 (79, [some (.ref o), some (.int (nI lv)), some (.int (nI ns)), some (.int (nI mo)), some (.int (nI i)), some (.int (sgA f n0 p 40))], [.int (cond (pz f (min n0 40) m (lv + 1) ns (p + 1)).1 1 0)], h3, 198, sl) = some R := hh
      obtain ⟨n, hh⟩ := rn_if (cc := .ne) (off := 5) (t := 84) rfl rfl hh
      cases zr : (pz f (min n0 40) m (lv + 1) ns (p + 1)).1 with
      | false =>
        rw [zr] at hh
        obtain ⟨n, hh⟩ := rn_i rfl rfl rfl rfl hh
        exact zC_no b2 (rn_ret rfl (Or.inr rfl) hh).2
      | true =>
        rw [zr] at hh
        have b5 := b4 zr
        have hlen := hlen zr
        have hh : pm_run PT n fr lo 62 (84, [some (.ref o), some (.int (nI lv)), some (.int (nI ns)), some (.int (nI mo)), some (.int (nI i)), some (.int (sgA f n0 p 40))], [], h3, 198, sl) = some R := hh
        obtain ⟨n, hh⟩ := rn_i rfl rfl rfl rfl hh
        obtain ⟨n, hh⟩ := rn_i rfl rfl rfl rfl hh
        obtain ⟨n, hh⟩ := rn_i rfl rfl rfl rfl hh
        have hh : pm_run PT n fr lo 62 (88, [some (.ref o), some (.int (nI lv)), some (.int (nI ns)), some (.int (nI mo)), some (.int (nI i)), some (.int (sgA f n0 p 40))], [.int (-(sgA f n0 p 40)), .ref o], h3, 198, sl) = some R := hh
        obtain ⟨n, fr', lo', r1, hr1, hh⟩ := rn_call (w := 0) (t := 60) rfl rfl hh
        obtain ⟨d1, d2, d3⟩ := em_runC ho (by rw [List.length_append]; omega) b5 hr1
        obtain ⟨rv, h4, s4⟩ := r1
        dsimp only at d1 d2 d3
        subst d1
        subst d3
        have hh : pm_run PT n fr lo 62 (91, [some (.ref o), some (.int (nI lv)), some (.int (nI ns)), some (.int (nI mo)), some (.int (nI i)), some (.int (sgA f n0 p 40))], [], h4, 198, sl) = some R := hh
        obtain ⟨n, hh⟩ := rn_i rfl rfl rfl rfl hh
        obtain ⟨n, hh⟩ := rn_i rfl rfl rfl rfl hh
        have hh : pm_run PT n fr lo 62 (38, [some (.ref o), some (.int (nI lv)), some (.int (nI ns)), some (.int (nI mo)), some (.int ((nI i) + Int32.ofInt 1)), some (.int (sgA f n0 p 40))], [], h4, 198, sl) = some R := hh
        rw [show nI i + Int32.ofInt 1 = nI (i + 1) from (Int32.ofNat_add i 1).symm] at hh
        rw [sg_val hl] at d2
        have q9 := ihk (i + 1) _ n _ h4 _ (by omega) hle (by rw [List.length_append, List.length_append]; show _ + _ + 1 ≤ _; omega) d2 hh
        obtain ⟨r1, r2, r3, r4⟩ := q9
        exact ⟨r1, r2, r3, fun y => by have y := r4 y; rw [List.append_assoc, List.append_assoc] at y; exact y⟩
theorem cC_all {n0 cc o : Nat} {f : Nat → Int32} (ho : oOk2 o) (hn : n0 ≤ 80) : ∀ m, cC m n0 cc o f
  | 0 => by
    intro lv ns p n fr lo sl h R cs h1 h2 h3 hp hl0 q hh
    omega
  | m + 1 => by
    intro lv ns p n fr lo sl h R cs h1 h2 h3 hp hl0 q hh
    have ih := cC_all (cc := cc) (f := f) ho hn m
    obtain ⟨n, hh⟩ := rn_i rfl rfl rfl rfl hh
    obtain ⟨n, hh⟩ := rn_i rfl rfl rfl rfl hh
    have hh : pm_run PT n fr lo 62 (2, [some (.ref o), some (.int (nI lv)), some (.int (nI ns)), none, none, none], [.int (nI 3), .int (nI lv)], h, 198, sl) = some R := hh
    obtain ⟨n, hh⟩ := rn_icmp (cc := .lt) (off := 9) (t := 11) rfl rfl hh
    rw [hI_lt (by omega) (by omega)] at hh
    by_cases z : lv < 3
    · rw [decide_eq_true z] at hh
      have hh : pm_run PT n fr lo 62 (11, [some (.ref o), some (.int (nI lv)), some (.int (nI ns)), none, none, none], [], h, 198, sl) = some R := hh
      have e3 : Nat.ble 3 lv = false := by
        cases e : Nat.ble 3 lv with
        | true => exact absurd (Nat.le_of_ble_eq_true e) (by omega)
        | false => rfl
      show zC R o n0 cc sl f cs (cond (Nat.ble 3 lv) (zth (pz f (min n0 40) m 0 (ns + 1)) f (min n0 40) ns (zmi f (min n0 40) 40 p)) (cond (pz f (min n0 40) m (lv + 1) ns p).1 (zlp (pz f (min n0 40) m (lv + 1) ns) f (min n0 40) lv (cond (Nat.beq lv 0) 1 40) (pz f (min n0 40) m (lv + 1) ns p).2) (false, (pz f (min n0 40) m (lv + 1) ns p).2))) (cond (Nat.ble 3 lv) (cth (pc f (min n0 40) m 0 (ns + 1)) f (min n0 40) (zmi f (min n0 40) 40 p) ++ cond (zng f (min n0 40) 40 p false) [Int32.ofInt (-126)] []) (pc f (min n0 40) m (lv + 1) ns p ++ clp (pc f (min n0 40) m (lv + 1) ns) (pz f (min n0 40) m (lv + 1) ns) f (min n0 40) lv (cond (Nat.beq lv 0) 1 40) (pz f (min n0 40) m (lv + 1) ns p).2))
      rw [e3]
      obtain ⟨n, hh⟩ := rn_i rfl rfl rfl rfl hh
      obtain ⟨n, hh⟩ := rn_i rfl rfl rfl rfl hh
      obtain ⟨n, hh⟩ := rn_i rfl rfl rfl rfl hh
      obtain ⟨n, hh⟩ := rn_i rfl rfl rfl rfl hh
      obtain ⟨n, hh⟩ := rn_i rfl rfl rfl rfl hh
      have hh : pm_run PT n fr lo 62 (16, [some (.ref o), some (.int (nI lv)), some (.int (nI ns)), none, none, none], [.int (nI ns), .int (nI lv + Int32.ofInt 1), .ref o], h, 198, sl) = some R := hh
      rw [show nI lv + Int32.ofInt 1 = nI (lv + 1) from (Int32.ofNat_add lv 1).symm] at hh
      obtain ⟨n, fr', lo', r1, hr1, hh⟩ := rn_call (w := 0) (t := 62) rfl rfl hh
      obtain ⟨b1, b2, b3, b4⟩ := ih (lv + 1) ns p _ _ _ _ _ _ _ (by omega) h2 (by omega) hp hl0 q hr1
      obtain ⟨rv, h3, s3⟩ := r1
      dsimp only at b1 b2 b3 b4
      subst b1
      subst b3
      have hle := pz_le (f := f) (t := min n0 40) m (lv + 1) ns p hp
      have hlen := pc_len (f := f) (t := min n0 40) m (lv + 1) ns p
      have hh : pm_run PT n fr lo 62 (19, [some (.ref o), some (.int (nI lv)), some (.int (nI ns)), none, none, none], [.int (cond (pz f (min n0 40) m (lv + 1) ns p).1 1 0)], h3, 198, sl) = some R := hh
      obtain ⟨n, hh⟩ := rn_if (cc := .ne) (off := 5) (t := 24) rfl rfl hh
      show zC R o n0 cc sl f cs (cond (pz f (min n0 40) m (lv + 1) ns p).1 (zlp (pz f (min n0 40) m (lv + 1) ns) f (min n0 40) lv (cond (Nat.beq lv 0) 1 40) (pz f (min n0 40) m (lv + 1) ns p).2) (false, (pz f (min n0 40) m (lv + 1) ns p).2)) (pc f (min n0 40) m (lv + 1) ns p ++ clp (pc f (min n0 40) m (lv + 1) ns) (pz f (min n0 40) m (lv + 1) ns) f (min n0 40) lv (cond (Nat.beq lv 0) 1 40) (pz f (min n0 40) m (lv + 1) ns p).2)
      cases zr : (pz f (min n0 40) m (lv + 1) ns p).1 with
      | false =>
        rw [zr] at hh
        obtain ⟨n, hh⟩ := rn_i rfl rfl rfl rfl hh
        exact zC_no b2 (rn_ret rfl (Or.inr rfl) hh).2
      | true =>
        rw [zr] at hh
        have b5 := b4 zr
        have hlen := hlen zr
        have wr : ∀ (r : Bool × Nat) (ds : List Int32), zC R o n0 cc sl f (cs ++ pc f (min n0 40) m (lv + 1) ns p) r ds → zC R o n0 cc sl f cs r (pc f (min n0 40) m (lv + 1) ns p ++ ds) := fun r ds q9 => ⟨q9.1, q9.2.1, q9.2.2.1, fun y => by have y := q9.2.2.2 y; rw [List.append_assoc] at y; exact y⟩
        have hh : pm_run PT n fr lo 62 (24, [some (.ref o), some (.int (nI lv)), some (.int (nI ns)), none, none, none], [], h3, 198, sl) = some R := hh
        obtain ⟨n, hh⟩ := rn_i rfl rfl rfl rfl hh
        obtain ⟨n, hh⟩ := rn_if (cc := .ne) (off := 7) (t := 32) rfl rfl hh
        have e0 : pm_cmp .ne (nI lv) 0 = !(Nat.beq lv 0) := by
          rcases (by omega : lv = 0 ∨ lv = 1 ∨ lv = 2) with rfl | rfl | rfl <;> decide +kernel
        rw [e0] at hh
        cases zb : Nat.beq lv 0 with
        | true =>
          rw [zb] at hh
          have hh : pm_run PT n fr lo 62 (28, [some (.ref o), some (.int (nI lv)), some (.int (nI ns)), none, none, none], [], h3, 198, sl) = some R := hh
          obtain ⟨n, hh⟩ := rn_i rfl rfl rfl rfl hh
          obtain ⟨n, hh⟩ := rn_i rfl rfl rfl rfl hh
          obtain ⟨n, hh⟩ := rn_i rfl rfl rfl rfl hh
          obtain ⟨n, hh⟩ := rn_i rfl rfl rfl rfl hh
          obtain ⟨n, hh⟩ := rn_i rfl rfl rfl rfl hh
          have hh : pm_run PT n fr lo 62 (38, [some (.ref o), some (.int (nI lv)), some (.int (nI ns)), some (.int 1), some (.int 0), none], [], h3, 198, sl) = some R := hh
          exact wr _ _ (lpc_loop (mo := 1) ho hn ih z h2 (by omega) (by decide) 1 0 _ n _ h3 _ (by omega) hle (by rw [List.length_append]; omega) b5 hh)
        | false =>
          rw [zb] at hh
          have hh : pm_run PT n fr lo 62 (32, [some (.ref o), some (.int (nI lv)), some (.int (nI ns)), none, none, none], [], h3, 198, sl) = some R := hh
          obtain ⟨n, hh⟩ := rn_i rfl rfl rfl rfl hh
          obtain ⟨n, hh⟩ := rn_i rfl rfl rfl rfl hh
          obtain ⟨n, hh⟩ := rn_i rfl rfl rfl rfl hh
          obtain ⟨n, hh⟩ := rn_i rfl rfl rfl rfl hh
          have hh : pm_run PT n fr lo 62 (38, [some (.ref o), some (.int (nI lv)), some (.int (nI ns)), some (.int 40), some (.int 0), none], [], h3, 198, sl) = some R := hh
          exact wr _ _ (lpc_loop (mo := 40) ho hn ih z h2 (by omega) (by decide) 40 0 _ n _ h3 _ (by omega) hle (by rw [List.length_append]; omega) b5 hh)
    · rw [decide_eq_false z] at hh
      have e3 : lv = 3 := by omega
      subst e3
      have hh : pm_run PT n fr lo 62 (5, [some (.ref o), some (.int (nI 3)), some (.int (nI ns)), none, none, none], [], h, 198, sl) = some R := hh
      obtain ⟨n, hh⟩ := rn_i rfl rfl rfl rfl hh
      obtain ⟨n, hh⟩ := rn_i rfl rfl rfl rfl hh
      obtain ⟨n, fr', lo', r1, hr1, hh⟩ := rn_call (w := 0) (t := 64) rfl rfl hh
      obtain ⟨b1, b2, b3, b4⟩ := sic_run ho hn ih h2 (by omega) hp hl0 q hr1
      obtain ⟨rv, h3, s3⟩ := r1
      dsimp only at b1 b2 b3 b4
      subst b1
      subst b3
      have hh : pm_run PT n fr lo 62 (10, [some (.ref o), some (.int (nI 3)), some (.int (nI ns)), none, none, none], [.int (cond (zth (pz f (min n0 40) m 0 (ns + 1)) f (min n0 40) ns (zmi f (min n0 40) 40 p)).1 1 0)], h3, 198, sl) = some R := hh
      have e := (rn_ret rfl (Or.inr rfl) hh).2
      rw [e]
      exact ⟨rfl, b2, rfl, b4⟩
end ZCX
end MH95zux5
section MH95zux6
/-! the code that the reference's reader of rules lays: functions alone -/
section ZRL
variable {f : Nat → Int32} {t : Nat}
def rlt (x : Int32) : Int32 := if x = nI 119 then nI 1000 else if x = nI 107 then nI 1001 else if x = nI 114 then nI 1002 else if x = nI 115 then nI 1003 else if x = nI 104 then nI 1004 else if x = nI 101 then nI 1005 else nI 1006
def rop (o : Nat) (x : Int32) : Int32 := cond (Nat.beq o 0) (if x = nI 60 then nI 2000 else if x = nI 62 then nI 2001 else nI 2002) (cond (Nat.beq o 1) (if x = nI 43 then nI 2003 else nI 2004) (if x = nI 42 then nI 2005 else nI 2006))
def rth (sc : Nat → List Int32) (f : Nat → Int32) (t q : Nat) : List Int32 := cond (dg f q t) [(nbr f t 3 q 0).2] (cond (decide (q < t) && zlet (f q)) [rlt (f q)] (sc (q + 1)))
def rlp (sc : Nat → List Int32) (st : Nat → Bool × Nat) (f : Nat → Int32) (t o : Nat) : Nat → Nat → List Int32
  | 0, _ => []
  | k + 1, p => cond (decide (p < t) && zlev o (f p)) (sc (p + 1) ++ rop o (f p) :: rlp sc st f t o k (st (p + 1)).2) []
def pr (f : Nat → Int32) (t : Nat) : Nat → Nat → Nat → Nat → List Int32
  | 0, _, _, _ => []
  | m + 1, o, ns, p => cond (Nat.ble 3 o) (rth (pr f t m 0 (ns + 1)) f t (zmi f t 40 p) ++ List.replicate (zmi f t 40 p - p) (nI 3000)) (pr f t m (o + 1) ns p ++ rlp (pr f t m (o + 1) ns) (pz f t m (o + 1) ns) f t o (cond (Nat.beq o 0) 1 40) (pz f t m (o + 1) ns p).2)
def rthm (f : Nat → Int32) (t m ns p : Nat) : List Int32 := rth (pr f t m 0 (ns + 1)) f t (zmi f t 40 p) ++ List.replicate (zmi f t 40 p - p) (nI 3000)
theorem rth_len0 {st : Nat → Bool × Nat} {sc : Nat → List Int32} {ns q : Nat} (hs : ∀ q, (st q).1 = true → (sc q).length + q ≤ (st q).2) (e : (zth st f t ns q).1 = true) : (rth sc f t q).length + q ≤ (zth st f t ns q).2 := by
  have h := cth_len0 (f := f) (t := t) (st := st) (sc := sc) (ns := ns) (q := q) hs e
  have e2 : (rth sc f t q).length = (cth sc f t q).length := by
    unfold rth cth
    cases dg f q t with
    | true => rfl
    | false =>
      cases (decide (q < t) && zlet (f q)) <;> rfl
  omega
theorem rlp_len {st : Nat → Bool × Nat} {sc : Nat → List Int32} {o : Nat} (hs : ∀ q, (st q).1 = true → (sc q).length + q ≤ (st q).2) (k p : Nat) (e : (zlp st f t o k p).1 = true) : (rlp sc st f t o k p).length + p ≤ (zlp st f t o k p).2 := by
  have h := clp_len (f := f) (t := t) (st := st) (sc := sc) (o := o) hs k p e
  have e2 : ∀ k p, (rlp sc st f t o k p).length = (clp sc st f t o k p).length := by
    intro k
    induction k with
    | zero => intro p; rfl
    | succ k ih =>
      intro p
      show (cond (decide (p < t) && zlev o (f p)) (sc (p + 1) ++ rop o (f p) :: rlp sc st f t o k (st (p + 1)).2) []).length = (cond (decide (p < t) && zlev o (f p)) (sc (p + 1) ++ (-(f p)) :: clp sc st f t o k (st (p + 1)).2) []).length
      cases (decide (p < t) && zlev o (f p)) with
      | false => rfl
      | true =>
        show (sc (p + 1) ++ rop o (f p) :: rlp sc st f t o k (st (p + 1)).2).length = (sc (p + 1) ++ (-(f p)) :: clp sc st f t o k (st (p + 1)).2).length
        rw [List.length_append, List.length_append, List.length_cons, List.length_cons, ih]
  rw [e2]
  exact h
theorem pr_len : ∀ (m o ns p : Nat), (pz f t m o ns p).1 = true → (pr f t m o ns p).length + p ≤ (pz f t m o ns p).2
  | 0, _, _, _, e => by cases e
  | m + 1, o, ns, p, e => by
    have e : (cond (Nat.ble 3 o) (zth (pz f t m 0 (ns + 1)) f t ns (zmi f t 40 p)) (cond (pz f t m (o + 1) ns p).1 (zlp (pz f t m (o + 1) ns) f t o (cond (Nat.beq o 0) 1 40) (pz f t m (o + 1) ns p).2) (false, (pz f t m (o + 1) ns p).2))).1 = true := e
    show (cond (Nat.ble 3 o) (rth (pr f t m 0 (ns + 1)) f t (zmi f t 40 p) ++ List.replicate (zmi f t 40 p - p) (nI 3000)) (pr f t m (o + 1) ns p ++ rlp (pr f t m (o + 1) ns) (pz f t m (o + 1) ns) f t o (cond (Nat.beq o 0) 1 40) (pz f t m (o + 1) ns p).2)).length + p ≤ (cond (Nat.ble 3 o) (zth (pz f t m 0 (ns + 1)) f t ns (zmi f t 40 p)) (cond (pz f t m (o + 1) ns p).1 (zlp (pz f t m (o + 1) ns) f t o (cond (Nat.beq o 0) 1 40) (pz f t m (o + 1) ns p).2) (false, (pz f t m (o + 1) ns p).2))).2
    cases z1 : Nat.ble 3 o with
    | true =>
      rw [z1] at e
      have h1 := rth_len0 (sc := pr f t m 0 (ns + 1)) (pr_len m 0 (ns + 1)) e
      have h2 := zmi_ge (f := f) (t := t) 40 p
      show (rth (pr f t m 0 (ns + 1)) f t (zmi f t 40 p) ++ List.replicate (zmi f t 40 p - p) (nI 3000)).length + p ≤ (zth (pz f t m 0 (ns + 1)) f t ns (zmi f t 40 p)).2
      rw [List.length_append, List.length_replicate]
      omega
    | false =>
      rw [z1] at e
      have e : (cond (pz f t m (o + 1) ns p).1 (zlp (pz f t m (o + 1) ns) f t o (cond (Nat.beq o 0) 1 40) (pz f t m (o + 1) ns p).2) (false, (pz f t m (o + 1) ns p).2)).1 = true := e
      cases z2 : (pz f t m (o + 1) ns p).1 with
      | false =>
        rw [z2] at e
        cases e
      | true =>
        rw [z2] at e
        have h1 := pr_len m (o + 1) ns p z2
        have h2 := rlp_len (sc := pr f t m (o + 1) ns) (pr_len m (o + 1) ns) _ _ e
        show (pr f t m (o + 1) ns p ++ rlp (pr f t m (o + 1) ns) (pz f t m (o + 1) ns) f t o (cond (Nat.beq o 0) 1 40) (pz f t m (o + 1) ns p).2).length + p ≤ (zlp (pz f t m (o + 1) ns) f t o (cond (Nat.beq o 0) 1 40) (pz f t m (o + 1) ns p).2).2
        rw [List.length_append]
        omega
theorem rthm_len {m ns p : Nat} (e : (zth (pz f t m 0 (ns + 1)) f t ns (zmi f t 40 p)).1 = true) : (rthm f t m ns p).length + p ≤ (zth (pz f t m 0 (ns + 1)) f t ns (zmi f t 40 p)).2 := by
  unfold rthm
  have h1 := rth_len0 (f := f) (t := t) (sc := pr f t m 0 (ns + 1)) (pr_len m 0 (ns + 1)) e
  have h2 := zmi_ge (f := f) (t := t) 40 p
  rw [List.length_append, List.length_replicate]
  omega
end ZRL
/-! the reference's reader with its code -/
section ZRN
variable {n fr lo sl p t ns : Nat} {h : pm_H} {R : pm_Rs} {tp : Nat → Int32} {v : Int32} {v18 : Value} {cs ds : List Int32}
theorem tko_val {i : Nat} : ∀ {n k j : Nat}, tko i tp p t n k = some j → (st_tx i).getD j 0 = tp p
  | 0, _, _, e => by cases e
  | n + 1, k, j, e => by
    have e : cond (decide (p < t) && decide ((st_tx i).getD k 0 = tp p)) (some k) (tko i tp p t n (k + 1)) = some j := e
    cases z : (decide (p < t) && decide ((st_tx i).getD k 0 = tp p)) with
    | true =>
      rw [z] at e
      have e : some k = some j := e
      cases e
      rw [Bool.and_eq_true] at z
      exact of_decide_eq_true z.2
    | false =>
      rw [z] at e
      exact tko_val e
theorem rlt_of {j : Nat} (e : tko 0 tp p t (st_tx 0).length 0 = some j) : nI 1000 + nI j = rlt (tp p) := by
  have h1 := tko_some e
  have h2 := tko_val e
  have hl : (st_tx 0).length = 7 := by decide +kernel
  rw [hl] at h1
  have hj : j < 7 := by omega
  rw [← h2]
  have : ∀ j, j < 7 → nI 1000 + nI j = rlt ((st_tx 0).getD j 0) := by decide +kernel
  exact this j hj
theorem rop_0 {j : Nat} (e : tko 1 tp p t (st_tx 1).length 0 = some j) : nI 2000 + nI j + 0 = rop 0 (tp p) := by
  have h1 := tko_some e
  have h2 := tko_val e
  have hl : (st_tx 1).length = 3 := by decide +kernel
  rw [hl] at h1
  rw [← h2]
  have : ∀ j, j < 3 → nI 2000 + nI j + 0 = rop 0 ((st_tx 1).getD j 0) := by decide +kernel
  exact this j (by omega)
theorem rop_1 {j : Nat} (e : tko 2 tp p t (st_tx 2).length 0 = some j) : nI 2000 + nI j + nI 3 = rop 1 (tp p) := by
  have h1 := tko_some e
  have h2 := tko_val e
  have hl : (st_tx 2).length = 2 := by decide +kernel
  rw [hl] at h1
  rw [← h2]
  have : ∀ j, j < 2 → nI 2000 + nI j + nI 3 = rop 1 ((st_tx 2).getD j 0) := by decide +kernel
  exact this j (by omega)
theorem rop_2 {j : Nat} (e : tko 3 tp p t (st_tx 3).length 0 = some j) : nI 2000 + nI j + nI 5 = rop 2 (tp p) := by
  have h1 := tko_some e
  have h2 := tko_val e
  have hl : (st_tx 3).length = 2 := by decide +kernel
  rw [hl] at h1
  rw [← h2]
  have : ∀ j, j < 2 → nI 2000 + nI j + nI 5 = rop 2 ((st_tx 3).getD j 0) := by decide +kernel
  exact this j (by omega)
def kN (h : pm_H) (cs : List Int32) : Prop := mF h 24 (.int (nI cs.length)) ∧ ∃ D, h 175 = .inl (0, 80, .inl D) ∧ ∀ j, j < cs.length → cs[j]? = some (D j)
def qN (h : pm_H) (p t : Nat) (tp : Nat → Int32) (cs : List Int32) : Prop := qM h p t tp ∧ kN h cs
theorem kN_set {g : Nat} {w : Value} (hg : g ≠ 24) (k : kN h cs) : kN (mset h g w) cs := by
  obtain ⟨k1, D, k2, k3⟩ := k
  exact ⟨mF_ne hg k1, D, mset_arr (by decide) k2, k3⟩
theorem qN_16 {p' : Nat} (q : qN h p t tp cs) : qN (mset h 16 (.int (nI p'))) p' t tp cs := ⟨qM_16 q.1, kN_set (by decide) q.2⟩
theorem qN_18 {w : Value} (q : qN h p t tp cs) : qN (mset h 18 w) p t tp cs := ⟨qM_18 q.1, kN_set (by decide) q.2⟩
theorem nu_runV (ht : t ≤ 40) (hp : p ≤ t) (q : qM h p t tp) (z : dg tp p t = true) (hh : pm_run PT n fr lo 184 (0, pm_l0 [.ref 162, .int (nI 3)] 4, [], h, 198, sl) = some R) : R = (some (.int (nbr tp t 3 p 0).2), mset h 16 (.int (nI (znb tp t 3 p))), 198, sl) := by
  have e := rn_dt (F := 10) (Lo := 1000) (hd_number (fr := 10) (lo := 1000) (sl := sl) q.1.1 q.1.2.1 q.1.2.2.1 q.1.2.2.2 (by omega) (by omega) (by omega) (by omega) (d := 3) (by omega)) hh
  rw [z, nbr_z] at e
  exact e
theorem cod_runN (hl0 : cs.length < 80) (q : qN h p t tp cs) (hh : pm_run PT n fr lo 193 (0, pm_l0 [.ref 162, .int v] 2, [], h, 198, sl) = some R) : R.1 = none ∧ qN R.2.1 p t tp (cs ++ [v]) ∧ (∀ w, mF h 18 w → mF R.2.1 18 w) ∧ R.2.2 = (198, sl) := by
  obtain ⟨a1, a2, a3, a4⟩ := cod_run q.1 hh
  refine ⟨a1, ⟨a2, ?_⟩, a3, a4⟩
  obtain ⟨⟨-, a5, -⟩, k1, D, k2, k3⟩ := q
  obtain ⟨n, hh⟩ := rn_i rfl rfl rfl rfl hh
  obtain ⟨n, hh⟩ := rn_gfm rfl rfl a5 hh
  obtain ⟨n, hh⟩ := rn_i rfl rfl rfl rfl hh
  obtain ⟨n, hh⟩ := rn_gfm rfl rfl k1 hh
  obtain ⟨n, hh⟩ := rn_i rfl rfl rfl rfl hh
  have hh : pm_run PT n fr lo 193 (9, [some (.ref 162), some (.int v)], [.int v, .int (nI cs.length), .ref 175], h, 198, sl) = some R := hh
  obtain ⟨n, hh⟩ := rn_ism rfl k2 (hI_in hl0 (by decide)) (by decide) hh
  rw [nI_clamp (by omega)] at hh
  have j1 : mF (aset h 175 80 (upd D cs.length v)) 24 (.int (nI cs.length)) := mF_as (by decide) k1
  have hh : pm_run PT n fr lo 193 (10, [some (.ref 162), some (.int v)], [], aset h 175 80 (upd D cs.length v), 198, sl) = some R := hh
  obtain ⟨n, hh⟩ := rn_i rfl rfl rfl rfl hh
  obtain ⟨n, hh⟩ := rn_i rfl rfl rfl rfl hh
  obtain ⟨n, hh⟩ := rn_gfm rfl rfl j1 hh
  obtain ⟨n, hh⟩ := rn_i rfl rfl rfl rfl hh
  obtain ⟨n, hh⟩ := rn_i rfl rfl rfl rfl hh
  have hh : pm_run PT n fr lo 193 (17, [some (.ref 162), some (.int v)], [.int (nI cs.length + nI 1), .ref 162], aset h 175 80 (upd D cs.length v), 198, sl) = some R := hh
  rw [nI_add] at hh
  obtain ⟨n, hh⟩ := rn_pfm (w := .int (nI cs.length)) rfl rfl rfl (by decide) j1 hh
  have e := rn_vret rfl rfl hh
  rw [e]
  dsimp only
  refine ⟨by rw [List.length_append]; exact mF_self j1, upd D cs.length v, mset_arr (by decide) asR_self, fun j hj => ?_⟩
  rw [List.length_append] at hj
  have hj : j < cs.length + 1 := hj
  unfold upd
  by_cases z : j = cs.length
  · subst z
    rw [if_pos rfl, List.getElem?_append_right (Nat.le_refl _), Nat.sub_self]
    rfl
  · rw [if_neg z, List.getElem?_append_left (by omega)]
    exact k3 j (by omega)
def zN (R : pm_Rs) (t sl ns : Nat) (tp : Nat → Int32) (cs : List Int32) (r : Bool × Nat) (ds : List Int32) : Prop := R.1 = some (.int (cond r.1 1 0)) ∧ qM R.2.1 r.2 t tp ∧ (r.1 = true → mF R.2.1 18 (.int (nI ns)) ∧ qN R.2.1 r.2 t tp (cs ++ ds)) ∧ R.2.2 = (198, sl)
theorem zN_ok (q : qN h p t tp (cs ++ ds)) (g : mF h 18 (.int (nI ns))) (e : R = (some (.int 1), h, 198, sl)) : zN R t sl ns tp cs (true, p) ds := by
  rw [e]
  exact ⟨rfl, q.1, fun _ => ⟨g, q⟩, rfl⟩
theorem zN_no (q : qM h p t tp) (e : R = (some (.int 0), h, 198, sl)) : zN R t sl ns tp cs (false, p) ds := by
  rw [e]
  exact ⟨rfl, q, fun y => (by cases y), rfl⟩
def rN (m t : Nat) (tp : Nat → Int32) : Prop := ∀ (lv ns p n fr lo sl : Nat) (h : pm_H) (R : pm_Rs) (cs : List Int32), lv ≤ 3 → ns ≤ 4 → (4 - lv) + 4 * (4 - ns) ≤ m → p ≤ t → cs.length ≤ p → qN h p t tp cs → mF h 18 (.int (nI ns)) → pm_run PT n fr lo 195 (0, pm_l0 [.ref 162, .int (nI lv)] 4, [], h, 198, sl) = some R → zN R t sl ns tp cs (pz tp t m lv ns p) (pr tp t m lv ns p)
theorem thn_run {m ns : Nat} {tp : Nat → Int32} {cs : List Int32} (ht : t ≤ 40) (ih : rN m t tp) (hns : ns ≤ 4) (hm : 4 * (4 - ns) ≤ m) : ∀ (d p n fr lo sl : Nat) (h : pm_H) (R : pm_Rs), t - p ≤ d → p ≤ t → cs.length ≤ p → qN h p t tp cs → mF h 18 (.int (nI ns)) → pm_run PT n fr lo 194 (0, pm_l0 [.ref 162] 2, [], h, 198, sl) = some R → zN R t sl ns tp cs (zth (pz tp t m 0 (ns + 1)) tp t ns (zmi tp t 40 p)) (rthm tp t m ns p) := by
  intro d
  induction d with
  | zero =>
    intro p n fr lo sl h R hd hp hl0 q h18 hh
    obtain ⟨n, hh⟩ := rn_i rfl rfl rfl rfl hh
    obtain ⟨n, hh⟩ := rn_i rfl rfl rfl rfl hh
    have hh : pm_run PT n fr lo 194 (3, [some (.ref 162), none], [.int (nI 45), .ref 162], h, 198, sl) = some R := hh
    obtain ⟨n, fr', lo', r1, hr1, hh⟩ := rn_call (w := 0) (t := 181) rfl rfl hh
    have er := tk_run (c := 45) ht hp q.1 hr1
    subst er
    cases zb : decide (p < t ∧ tp p = nI 45) with
    | false =>
      rw [zb] at hh
      have q1 := qN_16 (p' := p + 0) q
      have g18 : mF (mset h 16 (.int (nI (p + 0)))) 18 (.int (nI ns)) := mF_ne (by decide) h18
      have hh : pm_run PT n fr lo 194 (6, [some (.ref 162), none], [.int 0], (mset h 16 (.int (nI (p + 0)))), 198, sl) = some R := hh
      generalize mset h 16 (.int (nI (p + 0))) = h1 at *
      have q1 : qN h1 p t tp cs := q1
      have hh : pm_run PT n fr lo 194 (6, [some (.ref 162), none], [.int 0], h1, 198, sl) = some R := hh
      obtain ⟨n, hh⟩ := rn_if (cc := .eq) (off := 17) (t := 23) rfl rfl hh
      have hh : pm_run PT n fr lo 194 (23, [some (.ref 162), none], [], h1, 198, sl) = some R := hh
      have ez : zmi tp t 40 p = p := by
        show cond (decide (p < t ∧ tp p = nI 45)) (zmi tp t 39 (p + 1)) p = p
        rw [zb]
        rfl
      unfold rthm
      rw [ez, Nat.sub_self, show List.replicate 0 (nI 3000) = ([] : List Int32) from rfl, List.append_nil]
      unfold zth rth
      obtain ⟨n, hh⟩ := rn_i rfl rfl rfl rfl hh
      obtain ⟨n, fr', lo', r1, hr1, hh⟩ := rn_call (w := 0) (t := 182) rfl rfl hh
      have er := ig_run ht hp q1.1 hr1
      subst er
      have hh : pm_run PT n fr lo 194 (27, [some (.ref 162), none], [.int (cond (dg tp p t) 1 0)], h1, 198, sl) = some R := hh
      obtain ⟨n, hh⟩ := rn_if (cc := .eq) (off := 14) (t := 41) rfl rfl hh
      cases zd : dg tp p t with
      | true =>
        rw [zd] at hh
        have hh : pm_run PT n fr lo 194 (30, [some (.ref 162), none], [], h1, 198, sl) = some R := hh
        obtain ⟨n, hh⟩ := rn_i rfl rfl rfl rfl hh
        obtain ⟨n, hh⟩ := rn_i rfl rfl rfl rfl hh
        obtain ⟨n, hh⟩ := rn_i rfl rfl rfl rfl hh
        have hh : pm_run PT n fr lo 194 (33, [some (.ref 162), none], [.int (nI 3), .ref 162, .ref 162], h1, 198, sl) = some R := hh
        obtain ⟨n, fr', lo', r1, hr1, hh⟩ := rn_call (w := 0) (t := 184) rfl rfl hh
        have er := nu_runV ht hp q1.1 zd hr1
        subst er
        have q2 := qN_16 (p' := znb tp t 3 p) q1
        have g2 : mF (mset h1 16 (.int (nI (znb tp t 3 p)))) 18 (.int (nI ns)) := mF_ne (by decide) g18
        have hh : pm_run PT n fr lo 194 (36, [some (.ref 162), none], [.int (nbr tp t 3 p 0).2, .ref 162], (mset h1 16 (.int (nI (znb tp t 3 p)))), 198, sl) = some R := hh
        generalize mset h1 16 (.int (nI (znb tp t 3 p))) = h2 at *
        have hh : pm_run PT n fr lo 194 (36, [some (.ref 162), none], [.int (nbr tp t 3 p 0).2, .ref 162], h2, 198, sl) = some R := hh
        obtain ⟨n, fr', lo', r1, hr1, hh⟩ := rn_call (w := 0) (t := 193) rfl rfl hh
        obtain ⟨b1, b2, b3, b4⟩ := cod_runN (by omega) q2 hr1
        obtain ⟨rv, h3, s3⟩ := r1
        dsimp only at b1 b2 b3 b4
        subst b1
        subst b4
        have hh : pm_run PT n fr lo 194 (39, [some (.ref 162), none], [], h3, 198, sl) = some R := hh
        obtain ⟨n, hh⟩ := rn_i rfl rfl rfl rfl hh
        exact zN_ok b2 (b3 _ g2) (rn_ret rfl (Or.inr rfl) hh).2
      | false =>
        rw [zd] at hh
        have hh : pm_run PT n fr lo 194 (41, [some (.ref 162), none], [], h1, 198, sl) = some R := hh
        obtain ⟨n, hh⟩ := rn_i rfl rfl rfl rfl hh
        obtain ⟨n, hh⟩ := rn_i rfl rfl rfl rfl hh
        have hh : pm_run PT n fr lo 194 (44, [some (.ref 162), none], [.retAddr 0, .ref 162], h1, 198, sl) = some R := hh
        obtain ⟨n, fr', lo', r1, hr1, hh⟩ := rn_call (w := 0) (t := 183) rfl rfl hh
        have er := to_run (i := 0) (by decide) ht hp q1.1 hr1
        have el : (tko 0 tp p t (st_tx 0).length 0).isSome = (decide (p < t) && zlet (tp p)) := by
          by_cases y : p < t
          · rw [decide_eq_true y, Bool.true_and]
            exact tk_let y
          · rw [decide_eq_false y, Bool.false_and]
            exact tk_no y
        rw [← el]
        cases zt : tko 0 tp p t (st_tx 0).length 0 with
        | some j =>
          have hj := tko_some zt
          rw [zt] at er
          have er : r1 = (some (.int (nI j)), mset h1 16 (.int (nI (p + 1))), 198, sl) := er
          subst er
          have hj2 : j < 7 := by
            have : (st_tx 0).length = 7 := by decide +kernel
            omega
          have q2 := qN_16 (p' := p + 1) q1
          have g2 : mF (mset h1 16 (.int (nI (p + 1)))) 18 (.int (nI ns)) := mF_ne (by decide) g18
          have hh : pm_run PT n fr lo 194 (47, [some (.ref 162), none], [.int (nI j)], (mset h1 16 (.int (nI (p + 1)))), 198, sl) = some R := hh
          generalize mset h1 16 (.int (nI (p + 1))) = h2 at *
          have hh : pm_run PT n fr lo 194 (47, [some (.ref 162), none], [.int (nI j)], h2, 198, sl) = some R := hh
          obtain ⟨n, hh⟩ := rn_i rfl rfl rfl rfl hh
          obtain ⟨n, hh⟩ := rn_i rfl rfl rfl rfl hh
          have hh : pm_run PT n fr lo 194 (49, [some (.ref 162), some (.int (nI j))], [.int (nI j)], h2, 198, sl) = some R := hh
          obtain ⟨n, hh⟩ := rn_if (cc := .lt) (off := 14) (t := 63) rfl rfl hh
          rw [lt0_val (by rw [nI_toInt (by omega)]; omega)] at hh
          have hh : pm_run PT n fr lo 194 (52, [some (.ref 162), some (.int (nI j))], [], h2, 198, sl) = some R := hh
          obtain ⟨n, hh⟩ := rn_i rfl rfl rfl rfl hh
          obtain ⟨n, hh⟩ := rn_i rfl rfl rfl rfl hh
          obtain ⟨n, hh⟩ := rn_i rfl rfl rfl rfl hh
          obtain ⟨n, hh⟩ := rn_i rfl rfl rfl rfl hh
          have hh : pm_run PT n fr lo 194 (58, [some (.ref 162), some (.int (nI j))], [.int (1000 + (nI j)), .ref 162], h2, 198, sl) = some R := hh
          obtain ⟨n, fr', lo', r1, hr1, hh⟩ := rn_call (w := 0) (t := 193) rfl rfl hh
          obtain ⟨b1, b2, b3, b4⟩ := cod_runN (by omega) q2 hr1
          obtain ⟨rv, h3, s3⟩ := r1
          dsimp only at b1 b2 b3 b4
          subst b1
          subst b4
          have hh : pm_run PT n fr lo 194 (61, [some (.ref 162), some (.int (nI j))], [], h3, 198, sl) = some R := hh
          obtain ⟨n, hh⟩ := rn_i rfl rfl rfl rfl hh
          rw [show (1000 : Int32) + nI j = rlt (tp p) from rlt_of zt] at b2
          exact zN_ok b2 (b3 _ g2) (rn_ret rfl (Or.inr rfl) hh).2
        | none =>
          rw [zt] at er
          have er : r1 = (some (.int (-1)), h1, 198, sl) := er
          subst er
          have hh : pm_run PT n fr lo 194 (47, [some (.ref 162), none], [.int (-1)], h1, 198, sl) = some R := hh
          obtain ⟨n, hh⟩ := rn_i rfl rfl rfl rfl hh
          obtain ⟨n, hh⟩ := rn_i rfl rfl rfl rfl hh
          have hh : pm_run PT n fr lo 194 (49, [some (.ref 162), some (.int (-1))], [.int (-1)], h1, 198, sl) = some R := hh
          obtain ⟨n, hh⟩ := rn_if (cc := .lt) (off := 14) (t := 63) rfl rfl hh
          have hh : pm_run PT n fr lo 194 (63, [some (.ref 162), some (.int (-1))], [], h1, 198, sl) = some R := hh
          have no : ∀ (n : Nat) (h2 : pm_H) (ds : List Int32), qM h2 p t tp → pm_run PT n fr lo 194 (80, [some (.ref 162), some (.int (-1))], [], h2, 198, sl) = some R → zN R t sl ns tp cs (false, p) ds := by
            intro n h2 ds q2 hh
            obtain ⟨n, hh⟩ := rn_i rfl rfl rfl rfl hh
            exact zN_no q2 (rn_ret rfl (Or.inr rfl) hh).2
          obtain ⟨n, hh⟩ := rn_i rfl rfl rfl rfl hh
          obtain ⟨n, hh⟩ := rn_gfm rfl rfl g18 hh
          obtain ⟨n, hh⟩ := rn_i rfl rfl rfl rfl hh
          have hh : pm_run PT n fr lo 194 (68, [some (.ref 162), some (.int (-1))], [.int (nI 4), .int (nI ns)], h1, 198, sl) = some R := hh
          obtain ⟨n, hh⟩ := rn_icmp (cc := .eq) (off := 12) (t := 80) rfl rfl hh
          rw [hI_eq (by omega) (by omega)] at hh
          by_cases z4 : ns = 4
          · rw [decide_eq_true z4] at hh
            rw [decide_eq_false (show ¬ ns < 4 by omega), Bool.and_false]
            exact no n h1 _ q1.1 hh
          · rw [decide_eq_false z4] at hh
            rw [decide_eq_true (show ns < 4 by omega), Bool.and_true]
            have hh : pm_run PT n fr lo 194 (71, [some (.ref 162), some (.int (-1))], [], h1, 198, sl) = some R := hh
            obtain ⟨n, hh⟩ := rn_i rfl rfl rfl rfl hh
            obtain ⟨n, hh⟩ := rn_i rfl rfl rfl rfl hh
            have hh : pm_run PT n fr lo 194 (74, [some (.ref 162), some (.int (-1))], [.int (nI 40), .ref 162], h1, 198, sl) = some R := hh
            obtain ⟨n, fr', lo', r1, hr1, hh⟩ := rn_call (w := 0) (t := 181) rfl rfl hh
            have er := tk_run (c := 40) ht hp q1.1 hr1
            subst er
            cases zo : decide (p < t ∧ tp p = nI 40) with
            | false =>
              rw [zo] at hh
              have q2 := qN_16 (p' := p + 0) q1
              have hh : pm_run PT n fr lo 194 (77, [some (.ref 162), some (.int (-1))], [.int 0], mset h1 16 (.int (nI (p + 0))), 198, sl) = some R := hh
              obtain ⟨n, hh⟩ := rn_i rfl rfl rfl rfl hh
              exact no n _ _ q2.1 hh
            | true =>
              rw [zo] at hh
              have hl := (of_decide_eq_true zo).1
              have q2 := qN_16 (p' := p + 1) q1
              have g2 : mF (mset h1 16 (.int (nI (p + 1)))) 18 (.int (nI ns)) := mF_ne (by decide) g18
              have hh : pm_run PT n fr lo 194 (77, [some (.ref 162), some (.int (-1))], [.int 1], (mset h1 16 (.int (nI (p + 1)))), 198, sl) = some R := hh
              generalize mset h1 16 (.int (nI (p + 1))) = h2 at *
              have hh : pm_run PT n fr lo 194 (77, [some (.ref 162), some (.int (-1))], [.int 1], h2, 198, sl) = some R := hh
              obtain ⟨n, hh⟩ := rn_if (cc := .ne) (off := 5) (t := 82) rfl rfl hh
              have hh : pm_run PT n fr lo 194 (82, [some (.ref 162), some (.int (-1))], [], h2, 198, sl) = some R := hh
              obtain ⟨n, hh⟩ := rn_i rfl rfl rfl rfl hh
              obtain ⟨n, hh⟩ := rn_i rfl rfl rfl rfl hh
              obtain ⟨n, hh⟩ := rn_gfm rfl rfl g2 hh
              obtain ⟨n, hh⟩ := rn_i rfl rfl rfl rfl hh
              obtain ⟨n, hh⟩ := rn_i rfl rfl rfl rfl hh
              have hh : pm_run PT n fr lo 194 (89, [some (.ref 162), some (.int (-1))], [.int ((nI ns) + 1), .ref 162], h2, 198, sl) = some R := hh
              obtain ⟨n, hh⟩ := rn_pfm (w := .int (nI ns)) rfl rfl rfl (by decide) g2 hh
              have hh : pm_run PT n fr lo 194 (92, [some (.ref 162), some (.int (-1))], [], (mset h2 18 (.int (nI ns + Int32.ofInt 1))), 198, sl) = some R := hh
              rw [show nI ns + Int32.ofInt 1 = nI (ns + 1) from (Int32.ofNat_add ns 1).symm] at hh
              have q3 := qN_18 (w := .int (nI (ns + 1))) q2
              have g3 : mF (mset h2 18 (.int (nI (ns + 1)))) 18 (.int (nI (ns + 1))) := mF_self g2
              generalize mset h2 18 (.int (nI (ns + 1))) = h3 at *
              have hh : pm_run PT n fr lo 194 (92, [some (.ref 162), some (.int (-1))], [], h3, 198, sl) = some R := hh
              obtain ⟨n, hh⟩ := rn_i rfl rfl rfl rfl hh
              obtain ⟨n, hh⟩ := rn_i rfl rfl rfl rfl hh
              have hh : pm_run PT n fr lo 194 (94, [some (.ref 162), some (.int (-1))], [.int (nI 0), .ref 162], h3, 198, sl) = some R := hh
              obtain ⟨n, fr', lo', r1, hr1, hh⟩ := rn_call (w := 0) (t := 195) rfl rfl hh
              obtain ⟨b1, b2, b3, b4⟩ := ih 0 (ns + 1) (p + 1) _ _ _ _ _ _ _ (by omega) (by omega) (by omega) (by omega) (by omega) q3 g3 hr1
              obtain ⟨rv, h4, s4⟩ := r1
              dsimp only at b1 b2 b3 b4
              subst b1
              subst b4
              have hle := pz_le (f := tp) (t := t) m 0 (ns + 1) (p + 1) (by omega)
              have hh : pm_run PT n fr lo 194 (97, [some (.ref 162), some (.int (-1))], [.int (cond (pz tp t m 0 (ns + 1) (p + 1)).1 1 0)], h4, 198, sl) = some R := hh
              generalize pz tp t m 0 (ns + 1) (p + 1) = r at *
              obtain ⟨rb, rp⟩ := r
              dsimp only at b2 b3 hle hh ⊢
              have hh : pm_run PT n fr lo 194 (97, [some (.ref 162), some (.int (-1))], [.int (cond rb 1 0)], h4, 198, sl) = some R := hh
              obtain ⟨n, hh⟩ := rn_if (cc := .eq) (off := 12) (t := 109) rfl rfl hh
              have no2 : ∀ (n : Nat) (h5 : pm_H) (ds : List Int32), qM h5 rp t tp → pm_run PT n fr lo 194 (109, [some (.ref 162), some (.int (-1))], [], h5, 198, sl) = some R → zN R t sl ns tp cs (false, rp) ds := by
                intro n h5 ds q5 hh
                obtain ⟨n, hh⟩ := rn_i rfl rfl rfl rfl hh
                exact zN_no q5 (rn_ret rfl (Or.inr rfl) hh).2
              cases rb with
              | false => exact no2 n h4 _ b2 hh
              | true =>
                obtain ⟨g4, b5⟩ := b3 rfl
                have hh : pm_run PT n fr lo 194 (100, [some (.ref 162), some (.int (-1))], [], h4, 198, sl) = some R := hh
                obtain ⟨n, hh⟩ := rn_i rfl rfl rfl rfl hh
                obtain ⟨n, hh⟩ := rn_i rfl rfl rfl rfl hh
                have hh : pm_run PT n fr lo 194 (103, [some (.ref 162), some (.int (-1))], [.int (nI 41), .ref 162], h4, 198, sl) = some R := hh
                obtain ⟨n, fr', lo', r1, hr1, hh⟩ := rn_call (w := 0) (t := 181) rfl rfl hh
                have er := tk_run (c := 41) ht hle b5.1 hr1
                subst er
                cases zc : decide (rp < t ∧ tp rp = nI 41) with
                | false =>
                  rw [zc] at hh
                  have q5 := qN_16 (p' := rp + 0) b5
                  have hh : pm_run PT n fr lo 194 (106, [some (.ref 162), some (.int (-1))], [.int 0], mset h4 16 (.int (nI (rp + 0))), 198, sl) = some R := hh
                  obtain ⟨n, hh⟩ := rn_i rfl rfl rfl rfl hh
                  exact no2 n _ _ q5.1 hh
                | true =>
                  rw [zc] at hh
                  have q5 := qN_16 (p' := rp + 1) b5
                  have g5 : mF (mset h4 16 (.int (nI (rp + 1)))) 18 (.int (nI (ns + 1))) := mF_ne (by decide) g4
                  have hh : pm_run PT n fr lo 194 (106, [some (.ref 162), some (.int (-1))], [.int 1], (mset h4 16 (.int (nI (rp + 1)))), 198, sl) = some R := hh
                  generalize mset h4 16 (.int (nI (rp + 1))) = h5 at *
                  have hh : pm_run PT n fr lo 194 (106, [some (.ref 162), some (.int (-1))], [.int 1], h5, 198, sl) = some R := hh
                  obtain ⟨n, hh⟩ := rn_if (cc := .ne) (off := 5) (t := 111) rfl rfl hh
                  have hh : pm_run PT n fr lo 194 (111, [some (.ref 162), some (.int (-1))], [], h5, 198, sl) = some R := hh
                  obtain ⟨n, hh⟩ := rn_i rfl rfl rfl rfl hh
                  obtain ⟨n, hh⟩ := rn_i rfl rfl rfl rfl hh
                  obtain ⟨n, hh⟩ := rn_gfm rfl rfl g5 hh
                  obtain ⟨n, hh⟩ := rn_i rfl rfl rfl rfl hh
                  obtain ⟨n, hh⟩ := rn_i rfl rfl rfl rfl hh
                  have hh : pm_run PT n fr lo 194 (118, [some (.ref 162), some (.int (-1))], [.int ((nI (ns + 1)) - 1), .ref 162], h5, 198, sl) = some R := hh
                  rw [show nI (ns + 1) - 1 = nI ns from nI_pr1 ns] at hh
                  obtain ⟨n, hh⟩ := rn_pfm (w := .int (nI (ns + 1))) rfl rfl rfl (by decide) g5 hh
                  have q6 := qN_18 (w := .int (nI ns)) q5
                  have g6 : mF (mset h5 18 (.int (nI ns))) 18 (.int (nI ns)) := mF_self g5
                  obtain ⟨n, hh⟩ := rn_i rfl rfl rfl rfl hh
                  exact zN_ok q6 g6 (rn_ret rfl (Or.inr rfl) hh).2
    | true =>
      have hl := (of_decide_eq_true zb).1
      omega
  | succ d ihd =>
    intro p n fr lo sl h R hd hp hl0 q h18 hh
    obtain ⟨n, hh⟩ := rn_i rfl rfl rfl rfl hh
    obtain ⟨n, hh⟩ := rn_i rfl rfl rfl rfl hh
    have hh : pm_run PT n fr lo 194 (3, [some (.ref 162), none], [.int (nI 45), .ref 162], h, 198, sl) = some R := hh
    obtain ⟨n, fr', lo', r1, hr1, hh⟩ := rn_call (w := 0) (t := 181) rfl rfl hh
    have er := tk_run (c := 45) ht hp q.1 hr1
    subst er
    cases zb : decide (p < t ∧ tp p = nI 45) with
    | false =>
      rw [zb] at hh
      have q1 := qN_16 (p' := p + 0) q
      have g18 : mF (mset h 16 (.int (nI (p + 0)))) 18 (.int (nI ns)) := mF_ne (by decide) h18
      have hh : pm_run PT n fr lo 194 (6, [some (.ref 162), none], [.int 0], (mset h 16 (.int (nI (p + 0)))), 198, sl) = some R := hh
      generalize mset h 16 (.int (nI (p + 0))) = h1 at *
      have q1 : qN h1 p t tp cs := q1
      have hh : pm_run PT n fr lo 194 (6, [some (.ref 162), none], [.int 0], h1, 198, sl) = some R := hh
      obtain ⟨n, hh⟩ := rn_if (cc := .eq) (off := 17) (t := 23) rfl rfl hh
      have hh : pm_run PT n fr lo 194 (23, [some (.ref 162), none], [], h1, 198, sl) = some R := hh
      have ez : zmi tp t 40 p = p := by
        show cond (decide (p < t ∧ tp p = nI 45)) (zmi tp t 39 (p + 1)) p = p
        rw [zb]
        rfl
      unfold rthm
      rw [ez, Nat.sub_self, show List.replicate 0 (nI 3000) = ([] : List Int32) from rfl, List.append_nil]
      unfold zth rth
      obtain ⟨n, hh⟩ := rn_i rfl rfl rfl rfl hh
      obtain ⟨n, fr', lo', r1, hr1, hh⟩ := rn_call (w := 0) (t := 182) rfl rfl hh
      have er := ig_run ht hp q1.1 hr1
      subst er
      have hh : pm_run PT n fr lo 194 (27, [some (.ref 162), none], [.int (cond (dg tp p t) 1 0)], h1, 198, sl) = some R := hh
      obtain ⟨n, hh⟩ := rn_if (cc := .eq) (off := 14) (t := 41) rfl rfl hh
      cases zd : dg tp p t with
      | true =>
        rw [zd] at hh
        have hh : pm_run PT n fr lo 194 (30, [some (.ref 162), none], [], h1, 198, sl) = some R := hh
        obtain ⟨n, hh⟩ := rn_i rfl rfl rfl rfl hh
        obtain ⟨n, hh⟩ := rn_i rfl rfl rfl rfl hh
        obtain ⟨n, hh⟩ := rn_i rfl rfl rfl rfl hh
        have hh : pm_run PT n fr lo 194 (33, [some (.ref 162), none], [.int (nI 3), .ref 162, .ref 162], h1, 198, sl) = some R := hh
        obtain ⟨n, fr', lo', r1, hr1, hh⟩ := rn_call (w := 0) (t := 184) rfl rfl hh
        have er := nu_runV ht hp q1.1 zd hr1
        subst er
        have q2 := qN_16 (p' := znb tp t 3 p) q1
        have g2 : mF (mset h1 16 (.int (nI (znb tp t 3 p)))) 18 (.int (nI ns)) := mF_ne (by decide) g18
        have hh : pm_run PT n fr lo 194 (36, [some (.ref 162), none], [.int (nbr tp t 3 p 0).2, .ref 162], (mset h1 16 (.int (nI (znb tp t 3 p)))), 198, sl) = some R := hh
        generalize mset h1 16 (.int (nI (znb tp t 3 p))) = h2 at *
        have hh : pm_run PT n fr lo 194 (36, [some (.ref 162), none], [.int (nbr tp t 3 p 0).2, .ref 162], h2, 198, sl) = some R := hh
        obtain ⟨n, fr', lo', r1, hr1, hh⟩ := rn_call (w := 0) (t := 193) rfl rfl hh
        obtain ⟨b1, b2, b3, b4⟩ := cod_runN (by omega) q2 hr1
        obtain ⟨rv, h3, s3⟩ := r1
        dsimp only at b1 b2 b3 b4
        subst b1
        subst b4
        have hh : pm_run PT n fr lo 194 (39, [some (.ref 162), none], [], h3, 198, sl) = some R := hh
        obtain ⟨n, hh⟩ := rn_i rfl rfl rfl rfl hh
        exact zN_ok b2 (b3 _ g2) (rn_ret rfl (Or.inr rfl) hh).2
      | false =>
        rw [zd] at hh
        have hh : pm_run PT n fr lo 194 (41, [some (.ref 162), none], [], h1, 198, sl) = some R := hh
        obtain ⟨n, hh⟩ := rn_i rfl rfl rfl rfl hh
        obtain ⟨n, hh⟩ := rn_i rfl rfl rfl rfl hh
        have hh : pm_run PT n fr lo 194 (44, [some (.ref 162), none], [.retAddr 0, .ref 162], h1, 198, sl) = some R := hh
        obtain ⟨n, fr', lo', r1, hr1, hh⟩ := rn_call (w := 0) (t := 183) rfl rfl hh
        have er := to_run (i := 0) (by decide) ht hp q1.1 hr1
        have el : (tko 0 tp p t (st_tx 0).length 0).isSome = (decide (p < t) && zlet (tp p)) := by
          by_cases y : p < t
          · rw [decide_eq_true y, Bool.true_and]
            exact tk_let y
          · rw [decide_eq_false y, Bool.false_and]
            exact tk_no y
        rw [← el]
        cases zt : tko 0 tp p t (st_tx 0).length 0 with
        | some j =>
          have hj := tko_some zt
          rw [zt] at er
          have er : r1 = (some (.int (nI j)), mset h1 16 (.int (nI (p + 1))), 198, sl) := er
          subst er
          have hj2 : j < 7 := by
            have : (st_tx 0).length = 7 := by decide +kernel
            omega
          have q2 := qN_16 (p' := p + 1) q1
          have g2 : mF (mset h1 16 (.int (nI (p + 1)))) 18 (.int (nI ns)) := mF_ne (by decide) g18
          have hh : pm_run PT n fr lo 194 (47, [some (.ref 162), none], [.int (nI j)], (mset h1 16 (.int (nI (p + 1)))), 198, sl) = some R := hh
          generalize mset h1 16 (.int (nI (p + 1))) = h2 at *
          have hh : pm_run PT n fr lo 194 (47, [some (.ref 162), none], [.int (nI j)], h2, 198, sl) = some R := hh
          obtain ⟨n, hh⟩ := rn_i rfl rfl rfl rfl hh
          obtain ⟨n, hh⟩ := rn_i rfl rfl rfl rfl hh
          have hh : pm_run PT n fr lo 194 (49, [some (.ref 162), some (.int (nI j))], [.int (nI j)], h2, 198, sl) = some R := hh
          obtain ⟨n, hh⟩ := rn_if (cc := .lt) (off := 14) (t := 63) rfl rfl hh
          rw [lt0_val (by rw [nI_toInt (by omega)]; omega)] at hh
          have hh : pm_run PT n fr lo 194 (52, [some (.ref 162), some (.int (nI j))], [], h2, 198, sl) = some R := hh
          obtain ⟨n, hh⟩ := rn_i rfl rfl rfl rfl hh
          obtain ⟨n, hh⟩ := rn_i rfl rfl rfl rfl hh
          obtain ⟨n, hh⟩ := rn_i rfl rfl rfl rfl hh
          obtain ⟨n, hh⟩ := rn_i rfl rfl rfl rfl hh
          have hh : pm_run PT n fr lo 194 (58, [some (.ref 162), some (.int (nI j))], [.int (1000 + (nI j)), .ref 162], h2, 198, sl) = some R := hh
          obtain ⟨n, fr', lo', r1, hr1, hh⟩ := rn_call (w := 0) (t := 193) rfl rfl hh
          obtain ⟨b1, b2, b3, b4⟩ := cod_runN (by omega) q2 hr1
          obtain ⟨rv, h3, s3⟩ := r1
          dsimp only at b1 b2 b3 b4
          subst b1
          subst b4
          have hh : pm_run PT n fr lo 194 (61, [some (.ref 162), some (.int (nI j))], [], h3, 198, sl) = some R := hh
          obtain ⟨n, hh⟩ := rn_i rfl rfl rfl rfl hh
          rw [show (1000 : Int32) + nI j = rlt (tp p) from rlt_of zt] at b2
          exact zN_ok b2 (b3 _ g2) (rn_ret rfl (Or.inr rfl) hh).2
        | none =>
          rw [zt] at er
          have er : r1 = (some (.int (-1)), h1, 198, sl) := er
          subst er
          have hh : pm_run PT n fr lo 194 (47, [some (.ref 162), none], [.int (-1)], h1, 198, sl) = some R := hh
          obtain ⟨n, hh⟩ := rn_i rfl rfl rfl rfl hh
          obtain ⟨n, hh⟩ := rn_i rfl rfl rfl rfl hh
          have hh : pm_run PT n fr lo 194 (49, [some (.ref 162), some (.int (-1))], [.int (-1)], h1, 198, sl) = some R := hh
          obtain ⟨n, hh⟩ := rn_if (cc := .lt) (off := 14) (t := 63) rfl rfl hh
          have hh : pm_run PT n fr lo 194 (63, [some (.ref 162), some (.int (-1))], [], h1, 198, sl) = some R := hh
          have no : ∀ (n : Nat) (h2 : pm_H) (ds : List Int32), qM h2 p t tp → pm_run PT n fr lo 194 (80, [some (.ref 162), some (.int (-1))], [], h2, 198, sl) = some R → zN R t sl ns tp cs (false, p) ds := by
            intro n h2 ds q2 hh
            obtain ⟨n, hh⟩ := rn_i rfl rfl rfl rfl hh
            exact zN_no q2 (rn_ret rfl (Or.inr rfl) hh).2
          obtain ⟨n, hh⟩ := rn_i rfl rfl rfl rfl hh
          obtain ⟨n, hh⟩ := rn_gfm rfl rfl g18 hh
          obtain ⟨n, hh⟩ := rn_i rfl rfl rfl rfl hh
          have hh : pm_run PT n fr lo 194 (68, [some (.ref 162), some (.int (-1))], [.int (nI 4), .int (nI ns)], h1, 198, sl) = some R := hh
          obtain ⟨n, hh⟩ := rn_icmp (cc := .eq) (off := 12) (t := 80) rfl rfl hh
          rw [hI_eq (by omega) (by omega)] at hh
          by_cases z4 : ns = 4
          · rw [decide_eq_true z4] at hh
            rw [decide_eq_false (show ¬ ns < 4 by omega), Bool.and_false]
            exact no n h1 _ q1.1 hh
          · rw [decide_eq_false z4] at hh
            rw [decide_eq_true (show ns < 4 by omega), Bool.and_true]
            have hh : pm_run PT n fr lo 194 (71, [some (.ref 162), some (.int (-1))], [], h1, 198, sl) = some R := hh
            obtain ⟨n, hh⟩ := rn_i rfl rfl rfl rfl hh
            obtain ⟨n, hh⟩ := rn_i rfl rfl rfl rfl hh
            have hh : pm_run PT n fr lo 194 (74, [some (.ref 162), some (.int (-1))], [.int (nI 40), .ref 162], h1, 198, sl) = some R := hh
            obtain ⟨n, fr', lo', r1, hr1, hh⟩ := rn_call (w := 0) (t := 181) rfl rfl hh
            have er := tk_run (c := 40) ht hp q1.1 hr1
            subst er
            cases zo : decide (p < t ∧ tp p = nI 40) with
            | false =>
              rw [zo] at hh
              have q2 := qN_16 (p' := p + 0) q1
              have hh : pm_run PT n fr lo 194 (77, [some (.ref 162), some (.int (-1))], [.int 0], mset h1 16 (.int (nI (p + 0))), 198, sl) = some R := hh
              obtain ⟨n, hh⟩ := rn_i rfl rfl rfl rfl hh
              exact no n _ _ q2.1 hh
            | true =>
              rw [zo] at hh
              have hl := (of_decide_eq_true zo).1
              have q2 := qN_16 (p' := p + 1) q1
              have g2 : mF (mset h1 16 (.int (nI (p + 1)))) 18 (.int (nI ns)) := mF_ne (by decide) g18
              have hh : pm_run PT n fr lo 194 (77, [some (.ref 162), some (.int (-1))], [.int 1], (mset h1 16 (.int (nI (p + 1)))), 198, sl) = some R := hh
              generalize mset h1 16 (.int (nI (p + 1))) = h2 at *
              have hh : pm_run PT n fr lo 194 (77, [some (.ref 162), some (.int (-1))], [.int 1], h2, 198, sl) = some R := hh
              obtain ⟨n, hh⟩ := rn_if (cc := .ne) (off := 5) (t := 82) rfl rfl hh
              have hh : pm_run PT n fr lo 194 (82, [some (.ref 162), some (.int (-1))], [], h2, 198, sl) = some R := hh
              obtain ⟨n, hh⟩ := rn_i rfl rfl rfl rfl hh
              obtain ⟨n, hh⟩ := rn_i rfl rfl rfl rfl hh
              obtain ⟨n, hh⟩ := rn_gfm rfl rfl g2 hh
              obtain ⟨n, hh⟩ := rn_i rfl rfl rfl rfl hh
              obtain ⟨n, hh⟩ := rn_i rfl rfl rfl rfl hh
              have hh : pm_run PT n fr lo 194 (89, [some (.ref 162), some (.int (-1))], [.int ((nI ns) + 1), .ref 162], h2, 198, sl) = some R := hh
              obtain ⟨n, hh⟩ := rn_pfm (w := .int (nI ns)) rfl rfl rfl (by decide) g2 hh
              have hh : pm_run PT n fr lo 194 (92, [some (.ref 162), some (.int (-1))], [], (mset h2 18 (.int (nI ns + Int32.ofInt 1))), 198, sl) = some R := hh
              rw [show nI ns + Int32.ofInt 1 = nI (ns + 1) from (Int32.ofNat_add ns 1).symm] at hh
              have q3 := qN_18 (w := .int (nI (ns + 1))) q2
              have g3 : mF (mset h2 18 (.int (nI (ns + 1)))) 18 (.int (nI (ns + 1))) := mF_self g2
              generalize mset h2 18 (.int (nI (ns + 1))) = h3 at *
              have hh : pm_run PT n fr lo 194 (92, [some (.ref 162), some (.int (-1))], [], h3, 198, sl) = some R := hh
              obtain ⟨n, hh⟩ := rn_i rfl rfl rfl rfl hh
              obtain ⟨n, hh⟩ := rn_i rfl rfl rfl rfl hh
              have hh : pm_run PT n fr lo 194 (94, [some (.ref 162), some (.int (-1))], [.int (nI 0), .ref 162], h3, 198, sl) = some R := hh
              obtain ⟨n, fr', lo', r1, hr1, hh⟩ := rn_call (w := 0) (t := 195) rfl rfl hh
              obtain ⟨b1, b2, b3, b4⟩ := ih 0 (ns + 1) (p + 1) _ _ _ _ _ _ _ (by omega) (by omega) (by omega) (by omega) (by omega) q3 g3 hr1
              obtain ⟨rv, h4, s4⟩ := r1
              dsimp only at b1 b2 b3 b4
              subst b1
              subst b4
              have hle := pz_le (f := tp) (t := t) m 0 (ns + 1) (p + 1) (by omega)
              have hh : pm_run PT n fr lo 194 (97, [some (.ref 162), some (.int (-1))], [.int (cond (pz tp t m 0 (ns + 1) (p + 1)).1 1 0)], h4, 198, sl) = some R := hh
              generalize pz tp t m 0 (ns + 1) (p + 1) = r at *
              obtain ⟨rb, rp⟩ := r
              dsimp only at b2 b3 hle hh ⊢
              have hh : pm_run PT n fr lo 194 (97, [some (.ref 162), some (.int (-1))], [.int (cond rb 1 0)], h4, 198, sl) = some R := hh
              obtain ⟨n, hh⟩ := rn_if (cc := .eq) (off := 12) (t := 109) rfl rfl hh
              have no2 : ∀ (n : Nat) (h5 : pm_H) (ds : List Int32), qM h5 rp t tp → pm_run PT n fr lo 194 (109, [some (.ref 162), some (.int (-1))], [], h5, 198, sl) = some R → zN R t sl ns tp cs (false, rp) ds := by
                intro n h5 ds q5 hh
                obtain ⟨n, hh⟩ := rn_i rfl rfl rfl rfl hh
                exact zN_no q5 (rn_ret rfl (Or.inr rfl) hh).2
              cases rb with
              | false => exact no2 n h4 _ b2 hh
              | true =>
                obtain ⟨g4, b5⟩ := b3 rfl
                have hh : pm_run PT n fr lo 194 (100, [some (.ref 162), some (.int (-1))], [], h4, 198, sl) = some R := hh
                obtain ⟨n, hh⟩ := rn_i rfl rfl rfl rfl hh
                obtain ⟨n, hh⟩ := rn_i rfl rfl rfl rfl hh
                have hh : pm_run PT n fr lo 194 (103, [some (.ref 162), some (.int (-1))], [.int (nI 41), .ref 162], h4, 198, sl) = some R := hh
                obtain ⟨n, fr', lo', r1, hr1, hh⟩ := rn_call (w := 0) (t := 181) rfl rfl hh
                have er := tk_run (c := 41) ht hle b5.1 hr1
                subst er
                cases zc : decide (rp < t ∧ tp rp = nI 41) with
                | false =>
                  rw [zc] at hh
                  have q5 := qN_16 (p' := rp + 0) b5
                  have hh : pm_run PT n fr lo 194 (106, [some (.ref 162), some (.int (-1))], [.int 0], mset h4 16 (.int (nI (rp + 0))), 198, sl) = some R := hh
                  obtain ⟨n, hh⟩ := rn_i rfl rfl rfl rfl hh
                  exact no2 n _ _ q5.1 hh
                | true =>
                  rw [zc] at hh
                  have q5 := qN_16 (p' := rp + 1) b5
                  have g5 : mF (mset h4 16 (.int (nI (rp + 1)))) 18 (.int (nI (ns + 1))) := mF_ne (by decide) g4
                  have hh : pm_run PT n fr lo 194 (106, [some (.ref 162), some (.int (-1))], [.int 1], (mset h4 16 (.int (nI (rp + 1)))), 198, sl) = some R := hh
                  generalize mset h4 16 (.int (nI (rp + 1))) = h5 at *
                  have hh : pm_run PT n fr lo 194 (106, [some (.ref 162), some (.int (-1))], [.int 1], h5, 198, sl) = some R := hh
                  obtain ⟨n, hh⟩ := rn_if (cc := .ne) (off := 5) (t := 111) rfl rfl hh
                  have hh : pm_run PT n fr lo 194 (111, [some (.ref 162), some (.int (-1))], [], h5, 198, sl) = some R := hh
                  obtain ⟨n, hh⟩ := rn_i rfl rfl rfl rfl hh
                  obtain ⟨n, hh⟩ := rn_i rfl rfl rfl rfl hh
                  obtain ⟨n, hh⟩ := rn_gfm rfl rfl g5 hh
                  obtain ⟨n, hh⟩ := rn_i rfl rfl rfl rfl hh
                  obtain ⟨n, hh⟩ := rn_i rfl rfl rfl rfl hh
                  have hh : pm_run PT n fr lo 194 (118, [some (.ref 162), some (.int (-1))], [.int ((nI (ns + 1)) - 1), .ref 162], h5, 198, sl) = some R := hh
                  rw [show nI (ns + 1) - 1 = nI ns from nI_pr1 ns] at hh
                  obtain ⟨n, hh⟩ := rn_pfm (w := .int (nI (ns + 1))) rfl rfl rfl (by decide) g5 hh
                  have q6 := qN_18 (w := .int (nI ns)) q5
                  have g6 : mF (mset h5 18 (.int (nI ns))) 18 (.int (nI ns)) := mF_self g5
                  obtain ⟨n, hh⟩ := rn_i rfl rfl rfl rfl hh
                  exact zN_ok q6 g6 (rn_ret rfl (Or.inr rfl) hh).2
    | true =>
      rw [zb] at hh
      have hl := (of_decide_eq_true zb).1
      have q1 := qN_16 (p' := p + 1) q
      have g18 : mF (mset h 16 (.int (nI (p + 1)))) 18 (.int (nI ns)) := mF_ne (by decide) h18
      have hh : pm_run PT n fr lo 194 (6, [some (.ref 162), none], [.int 1], (mset h 16 (.int (nI (p + 1)))), 198, sl) = some R := hh
      generalize mset h 16 (.int (nI (p + 1))) = h1 at *
      have hh : pm_run PT n fr lo 194 (6, [some (.ref 162), none], [.int 1], h1, 198, sl) = some R := hh
      obtain ⟨n, hh⟩ := rn_if (cc := .eq) (off := 17) (t := 23) rfl rfl hh
      have hh : pm_run PT n fr lo 194 (9, [some (.ref 162), none], [], h1, 198, sl) = some R := hh
      obtain ⟨n, hh⟩ := rn_i rfl rfl rfl rfl hh
      have ez : zmi tp t 40 p = zmi tp t 40 (p + 1) := by
        show cond (decide (p < t ∧ tp p = nI 45)) (zmi tp t 39 (p + 1)) p = zmi tp t 40 (p + 1)
        rw [zb, zmi_fix 39 (p + 1) (by omega)]
        rfl
      have eq9 : rthm tp t m ns p = rthm tp t m ns (p + 1) ++ [nI 3000] := by
        unfold rthm
        have hg := zmi_ge (f := tp) (t := t) 40 (p + 1)
        rw [ez, show zmi tp t 40 (p + 1) - p = (zmi tp t 40 (p + 1) - (p + 1)) + 1 by omega, List.replicate_succ', List.append_assoc]
      rw [ez, eq9]
      have hlen := rthm_len (f := tp) (t := t) (m := m) (ns := ns) (p := p + 1)
      have hrl := zth_le (f := tp) (fun q hq => pz_le (f := tp) (t := t) m 0 (ns + 1) q hq) (ns := ns) (zmi_le (f := tp) (t := t) 40 (p + 1) (by omega))
      obtain ⟨n, fr', lo', r1, hr1, hh⟩ := rn_call (w := 0) (t := 194) rfl rfl hh
      obtain ⟨b1, b2, b3, b4⟩ := ihd (p + 1) _ _ _ _ h1 _ (by omega) (by omega) (by omega) q1 g18 hr1
      obtain ⟨rv, h2, s2⟩ := r1
      dsimp only at b1 b2 b3 b4
      subst b1
      subst b4
      have hh : pm_run PT n fr lo 194 (13, [some (.ref 162), none], [.int (cond (zth (pz tp t m 0 (ns + 1)) tp t ns (zmi tp t 40 (p + 1))).1 1 0)], h2, 198, sl) = some R := hh
      generalize zth (pz tp t m 0 (ns + 1)) tp t ns (zmi tp t 40 (p + 1)) = r at *
      generalize rthm tp t m ns (p + 1) = dt at *
      obtain ⟨rb, rp⟩ := r
      dsimp only at b2 b3 hh hlen hrl ⊢
      have hh : pm_run PT n fr lo 194 (13, [some (.ref 162), none], [.int (cond rb 1 0)], h2, 198, sl) = some R := hh
      obtain ⟨n, hh⟩ := rn_i rfl rfl rfl rfl hh
      obtain ⟨n, hh⟩ := rn_i rfl rfl rfl rfl hh
      obtain ⟨n, hh⟩ := rn_i rfl rfl rfl rfl hh
      have hh : pm_run PT n fr lo 194 (18, [some (.ref 162), some (.int (cond rb 1 0))], [.int (nI 3000), .ref 162], h2, 198, sl) = some R := hh
      cases rb with
      | false =>
        obtain ⟨n, fr', lo', r1, hr1, hh⟩ := rn_call (w := 0) (t := 193) rfl rfl hh
        obtain ⟨d1, d2, d3, d4⟩ := cod_run b2 hr1
        obtain ⟨rv, h3, s3⟩ := r1
        dsimp only at d1 d2 d3 d4
        subst d1
        subst d4
        have hh : pm_run PT n fr lo 194 (21, [some (.ref 162), some (.int (cond false 1 0))], [], h3, 198, sl) = some R := hh
        obtain ⟨n, hh⟩ := rn_i rfl rfl rfl rfl hh
        exact zN_no d2 (rn_ret rfl (Or.inr rfl) hh).2
      | true =>
        obtain ⟨g4, b5⟩ := b3 rfl
        have hlen := hlen rfl
        obtain ⟨n, fr', lo', r1, hr1, hh⟩ := rn_call (w := 0) (t := 193) rfl rfl hh
        obtain ⟨d1, d2, d3, d4⟩ := cod_runN (by rw [List.length_append]; omega) b5 hr1
        obtain ⟨rv, h3, s3⟩ := r1
        dsimp only at d1 d2 d3 d4
        subst d1
        subst d4
        have hh : pm_run PT n fr lo 194 (21, [some (.ref 162), some (.int (cond true 1 0))], [], h3, 198, sl) = some R := hh
        obtain ⟨n, hh⟩ := rn_i rfl rfl rfl rfl hh
        rw [List.append_assoc] at d2
        exact zN_ok d2 (d3 _ g4) (rn_ret rfl (Or.inr rfl) hh).2
theorem lpn_0 {m ns : Nat} {tp : Nat → Int32} {cs : List Int32} {x3 : Option Value} (ht : t ≤ 40) (ih : rN m t tp) (hns : ns ≤ 4) (hm : 3 + 4 * (4 - ns) ≤ m) (hp : p ≤ t) (hl0 : cs.length ≤ p) (q : qN h p t tp cs) (h18 : mF h 18 (.int (nI ns))) (hh : pm_run PT n fr lo 195 (24, [some (.ref 162), some (.int (nI 0)), some (.int 1), x3], [], h, 198, sl) = some R) : zN R t sl ns tp cs (zlp (pz tp t m 1 ns) tp t 0 1 p) (rlp (pr tp t m 1 ns) (pz tp t m 1 ns) tp t 0 1 p) := by
  obtain ⟨n, hh⟩ := rn_i rfl rfl rfl rfl hh
  obtain ⟨n, hh⟩ := rn_if (cc := .eq) (off := 88) (t := 113) rfl rfl hh
  have hh : pm_run PT n fr lo 195 (28, [some (.ref 162), some (.int (nI 0)), some (.int 1), x3], [], h, 198, sl) = some R := hh
  obtain ⟨n, hh⟩ := rn_i rfl rfl rfl rfl hh
  obtain ⟨n, hh⟩ := rn_i rfl rfl rfl rfl hh
  obtain ⟨n, hh⟩ := rn_if (cc := .ne) (off := 8) (t := 38) rfl rfl hh
  have hh : pm_run PT n fr lo 195 (33, [some (.ref 162), some (.int (nI 0)), some (.int 1), x3], [.ref 162], h, 198, sl) = some R := hh
  obtain ⟨n, hh⟩ := rn_i rfl rfl rfl rfl hh
  obtain ⟨n, hh⟩ := rn_i rfl rfl rfl rfl hh
  have hh : pm_run PT n fr lo 195 (50, [some (.ref 162), some (.int (nI 0)), some (.int 1), x3], [.retAddr 1, .ref 162], h, 198, sl) = some R := hh
  obtain ⟨n, fr', lo', r1, hr1, hh⟩ := rn_call (w := 0) (t := 183) rfl rfl hh
  have er := to_run (i := 1) (by decide) ht hp q.1 hr1
  have el : (tko 1 tp p t (st_tx 1).length 0).isSome = (decide (p < t) && zlev 0 (tp p)) := by
    by_cases y : p < t
    · rw [decide_eq_true y, Bool.true_and]
      exact tk_l0 y
    · rw [decide_eq_false y, Bool.false_and]
      exact tk_no y
  show zN R t sl ns tp cs (cond (decide (p < t) && zlev 0 (tp p)) (cond (pz tp t m 1 ns (p + 1)).1 (true, (pz tp t m 1 ns (p + 1)).2) (false, (pz tp t m 1 ns (p + 1)).2)) (true, p)) (cond (decide (p < t) && zlev 0 (tp p)) (pr tp t m 1 ns (p + 1) ++ rop 0 (tp p) :: []) [])
  rw [← el]
  cases zt : tko 1 tp p t (st_tx 1).length 0 with
  | none =>
    rw [zt] at er
    have er : r1 = (some (.int (-1)), h, 198, sl) := er
    subst er
    have hh : pm_run PT n fr lo 195 (53, [some (.ref 162), some (.int (nI 0)), some (.int 1), x3], [.int (-1)], h, 198, sl) = some R := hh
    obtain ⟨n, hh⟩ := rn_i rfl rfl rfl rfl hh
    obtain ⟨n, hh⟩ := rn_i rfl rfl rfl rfl hh
    have hh : pm_run PT n fr lo 195 (55, [some (.ref 162), some (.int (nI 0)), some (.int 1), some (.int (-1))], [.int (-1)], h, 198, sl) = some R := hh
    obtain ⟨n, hh⟩ := rn_if (cc := .ge) (off := 5) (t := 60) rfl rfl hh
    have hh : pm_run PT n fr lo 195 (58, [some (.ref 162), some (.int (nI 0)), some (.int 1), some (.int (-1))], [], h, 198, sl) = some R := hh
    obtain ⟨n, hh⟩ := rn_i rfl rfl rfl rfl hh
    exact zN_ok (by show qN h p t tp (cs ++ []); rw [List.append_nil]; exact q) h18 (rn_ret rfl (Or.inr rfl) hh).2
  | some j =>
    have hj := tko_some zt
    have hl : p < t := hj.1
    rw [zt] at er
    have er : r1 = (some (.int (nI j)), mset h 16 (.int (nI (p + 1))), 198, sl) := er
    subst er
    have hj2 : j < 3 := by
      have : (st_tx 1).length = 3 := by decide +kernel
      omega
    have q2 := qN_16 (p' := p + 1) q
    have g2 : mF (mset h 16 (.int (nI (p + 1)))) 18 (.int (nI ns)) := mF_ne (by decide) h18
    have hh : pm_run PT n fr lo 195 (53, [some (.ref 162), some (.int (nI 0)), some (.int 1), x3], [.int (nI j)], (mset h 16 (.int (nI (p + 1)))), 198, sl) = some R := hh
    generalize mset h 16 (.int (nI (p + 1))) = h2 at hh q2 g2
    have hh : pm_run PT n fr lo 195 (53, [some (.ref 162), some (.int (nI 0)), some (.int 1), x3], [.int (nI j)], h2, 198, sl) = some R := hh
    obtain ⟨n, hh⟩ := rn_i rfl rfl rfl rfl hh
    obtain ⟨n, hh⟩ := rn_i rfl rfl rfl rfl hh
    have hh : pm_run PT n fr lo 195 (55, [some (.ref 162), some (.int (nI 0)), some (.int 1), some (.int (nI j))], [.int (nI j)], h2, 198, sl) = some R := hh
    obtain ⟨n, hh⟩ := rn_if (cc := .ge) (off := 5) (t := 60) rfl rfl hh
    rw [ge0_val (by rw [nI_toInt (by omega)]; omega)] at hh
    have hh : pm_run PT n fr lo 195 (60, [some (.ref 162), some (.int (nI 0)), some (.int 1), some (.int (nI j))], [], h2, 198, sl) = some R := hh
    obtain ⟨n, hh⟩ := rn_i rfl rfl rfl rfl hh
    obtain ⟨n, hh⟩ := rn_i rfl rfl rfl rfl hh
    obtain ⟨n, hh⟩ := rn_i rfl rfl rfl rfl hh
    obtain ⟨n, hh⟩ := rn_i rfl rfl rfl rfl hh
    have hh : pm_run PT n fr lo 195 (64, [some (.ref 162), some (.int (nI 0)), some (.int 1), some (.int (nI j))], [.int (nI 1), .ref 162], h2, 198, sl) = some R := hh
    obtain ⟨n, fr', lo', r1, hr1, hh⟩ := rn_call (w := 0) (t := 195) rfl rfl hh
    obtain ⟨b1, b2, b3, b4⟩ := ih 1 ns (p + 1) _ _ _ _ _ _ _ (by omega) hns (by omega) (by omega) (by omega) q2 g2 hr1
    obtain ⟨rv, h4, s4⟩ := r1
    dsimp only at b1 b2 b3 b4
    subst b1
    subst b4
    have hle := pz_le (f := tp) (t := t) m 1 ns (p + 1) (by omega)
    have hge := pz_ge (f := tp) (t := t) m 1 ns (p + 1)
    have hlen := pr_len (f := tp) (t := t) m 1 ns (p + 1)
    have hh : pm_run PT n fr lo 195 (67, [some (.ref 162), some (.int (nI 0)), some (.int 1), some (.int (nI j))], [.int (cond (pz tp t m 1 ns (p + 1)).1 1 0)], h4, 198, sl) = some R := hh
    obtain ⟨n, hh⟩ := rn_if (cc := .ne) (off := 5) (t := 72) rfl rfl hh
    cases zr : (pz tp t m 1 ns (p + 1)).1 with
    | false =>
      rw [zr] at hh
      have hh : pm_run PT n fr lo 195 (70, [some (.ref 162), some (.int (nI 0)), some (.int 1), some (.int (nI j))], [], h4, 198, sl) = some R := hh
      obtain ⟨n, hh⟩ := rn_i rfl rfl rfl rfl hh
      exact zN_no b2 (rn_ret rfl (Or.inr rfl) hh).2
    | true =>
      rw [zr] at hh b3
      obtain ⟨g4, b5⟩ := b3 rfl
      have hlen := hlen zr
      have hh : pm_run PT n fr lo 195 (72, [some (.ref 162), some (.int (nI 0)), some (.int 1), some (.int (nI j))], [], h4, 198, sl) = some R := hh
      obtain ⟨n, hh⟩ := rn_i rfl rfl rfl rfl hh
      obtain ⟨n, hh⟩ := rn_i rfl rfl rfl rfl hh
      obtain ⟨n, hh⟩ := rn_i rfl rfl rfl rfl hh
      obtain ⟨n, hh⟩ := rn_i rfl rfl rfl rfl hh
      obtain ⟨n, hh⟩ := rn_i rfl rfl rfl rfl hh
      have hh : pm_run PT n fr lo 195 (79, [some (.ref 162), some (.int (nI 0)), some (.int 1), some (.int (nI j))], [.int (nI 0), .int (2000 + (nI j)), .ref 162], h4, 198, sl) = some R := hh
      obtain ⟨n, hh⟩ := rn_if (cc := .ne) (off := 7) (t := 86) rfl rfl hh
      have hh : pm_run PT n fr lo 195 (82, [some (.ref 162), some (.int (nI 0)), some (.int 1), some (.int (nI j))], [.int (2000 + (nI j)), .ref 162], h4, 198, sl) = some R := hh
      obtain ⟨n, hh⟩ := rn_i rfl rfl rfl rfl hh
      obtain ⟨n, hh⟩ := rn_i rfl rfl rfl rfl hh
      have hh : pm_run PT n fr lo 195 (96, [some (.ref 162), some (.int (nI 0)), some (.int 1), some (.int (nI j))], [.int 0, .int (2000 + (nI j)), .ref 162], h4, 198, sl) = some R := hh
      obtain ⟨n, hh⟩ := rn_i rfl rfl rfl rfl hh
      have hh : pm_run PT n fr lo 195 (97, [some (.ref 162), some (.int (nI 0)), some (.int 1), some (.int (nI j))], [.int ((2000 + (nI j)) + 0), .ref 162], h4, 198, sl) = some R := hh
      rw [show (2000 : Int32) + nI j + 0 = rop 0 (tp p) from rop_0 zt] at hh
      have hh : pm_run PT n fr lo 195 (97, [some (.ref 162), some (.int (nI 0)), some (.int 1), some (.int (nI j))], [.int (rop 0 (tp p)), .ref 162], h4, 198, sl) = some R := hh
      obtain ⟨n, fr', lo', r1, hr1, hh⟩ := rn_call (w := 0) (t := 193) rfl rfl hh
      obtain ⟨d1, d2, d3, d4⟩ := cod_runN (by rw [List.length_append]; omega) b5 hr1
      obtain ⟨rv, h5, s5⟩ := r1
      dsimp only at d1 d2 d3 d4
      subst d1
      subst d4
      have g5 := d3 _ g4
      have hh : pm_run PT n fr lo 195 (100, [some (.ref 162), some (.int (nI 0)), some (.int 1), some (.int (nI j))], [], h5, 198, sl) = some R := hh
      obtain ⟨n, hh⟩ := rn_i rfl rfl rfl rfl hh
      obtain ⟨n, hh⟩ := rn_if (cc := .le) (off := 7) (t := 108) rfl rfl hh
      have hh : pm_run PT n fr lo 195 (108, [some (.ref 162), some (.int (nI 0)), some (.int 1), some (.int (nI j))], [], h5, 198, sl) = some R := hh
      obtain ⟨n, hh⟩ := rn_i rfl rfl rfl rfl hh
      obtain ⟨n, hh⟩ := rn_i rfl rfl rfl rfl hh
      obtain ⟨n, hh⟩ := rn_i rfl rfl rfl rfl hh
      have hh : pm_run PT n fr lo 195 (24, [some (.ref 162), some (.int (nI 0)), some (.int 0), some (.int (nI j))], [], h5, 198, sl) = some R := hh
      obtain ⟨n, hh⟩ := rn_i rfl rfl rfl rfl hh
      obtain ⟨n, hh⟩ := rn_if (cc := .eq) (off := 88) (t := 113) rfl rfl hh
      have hh : pm_run PT n fr lo 195 (113, [some (.ref 162), some (.int (nI 0)), some (.int 0), some (.int (nI j))], [], h5, 198, sl) = some R := hh
      obtain ⟨n, hh⟩ := rn_i rfl rfl rfl rfl hh
      rw [List.append_assoc] at d2
      exact zN_ok d2 g5 (rn_ret rfl (Or.inr rfl) hh).2
theorem lpn_1 {m ns : Nat} {tp : Nat → Int32} (ht : t ≤ 40) (ih : rN m t tp) (hns : ns ≤ 4) (hm : 2 + 4 * (4 - ns) ≤ m) : ∀ (k p n : Nat) (x3 : Option Value) (h : pm_H) (cs : List Int32), t ≤ p + k → p ≤ t → cs.length ≤ p → qN h p t tp cs → mF h 18 (.int (nI ns)) → pm_run PT n fr lo 195 (24, [some (.ref 162), some (.int (nI 1)), some (.int 1), x3], [], h, 198, sl) = some R → zN R t sl ns tp cs (zlp (pz tp t m 2 ns) tp t 1 k p) (rlp (pr tp t m 2 ns) (pz tp t m 2 ns) tp t 1 k p) := by
  have stopR : ∀ (k p : Nat), ¬ p < t → rlp (pr tp t m 2 ns) (pz tp t m 2 ns) tp t 1 k p = [] := by
    intro k p y
    cases k with
    | zero => rfl
    | succ k =>
      show cond (decide (p < t) && zlev 1 (tp p)) _ [] = []
      rw [decide_eq_false y]
      rfl
  have stop : ∀ (k p : Nat), ¬ p < t → zlp (pz tp t m 2 ns) tp t 1 k p = (true, p) := by
    intro k p y
    cases k with
    | zero => rfl
    | succ k =>
      show cond (decide (p < t) && zlev 1 (tp p)) _ (true, p) = (true, p)
      rw [decide_eq_false y]
      rfl
  intro k
  induction k with
  | zero =>
    intro p n x3 h cs hk hp hl0 q h18 hh
    rw [show zlp (pz tp t m 2 ns) tp t 1 0 p = zlp (pz tp t m 2 ns) tp t 1 1 p from (stop 0 p (by omega)).trans (stop 1 p (by omega)).symm, show rlp (pr tp t m 2 ns) (pz tp t m 2 ns) tp t 1 0 p = rlp (pr tp t m 2 ns) (pz tp t m 2 ns) tp t 1 1 p from (stopR 0 p (by omega)).trans (stopR 1 p (by omega)).symm]
    have y : ¬ p < t := by omega
    obtain ⟨n, hh⟩ := rn_i rfl rfl rfl rfl hh
    obtain ⟨n, hh⟩ := rn_if (cc := .eq) (off := 88) (t := 113) rfl rfl hh
    have hh : pm_run PT n fr lo 195 (28, [some (.ref 162), some (.int (nI 1)), some (.int 1), x3], [], h, 198, sl) = some R := hh
    obtain ⟨n, hh⟩ := rn_i rfl rfl rfl rfl hh
    obtain ⟨n, hh⟩ := rn_i rfl rfl rfl rfl hh
    obtain ⟨n, hh⟩ := rn_if (cc := .ne) (off := 8) (t := 38) rfl rfl hh
    have hh : pm_run PT n fr lo 195 (38, [some (.ref 162), some (.int (nI 1)), some (.int 1), x3], [.ref 162], h, 198, sl) = some R := hh
    obtain ⟨n, hh⟩ := rn_i rfl rfl rfl rfl hh
    obtain ⟨n, hh⟩ := rn_i rfl rfl rfl rfl hh
    obtain ⟨n, hh⟩ := rn_icmp (cc := .ne) (off := 8) (t := 48) rfl rfl hh
    have hh : pm_run PT n fr lo 195 (43, [some (.ref 162), some (.int (nI 1)), some (.int 1), x3], [.ref 162], h, 198, sl) = some R := hh
    obtain ⟨n, hh⟩ := rn_i rfl rfl rfl rfl hh
    obtain ⟨n, hh⟩ := rn_i rfl rfl rfl rfl hh
    have hh : pm_run PT n fr lo 195 (50, [some (.ref 162), some (.int (nI 1)), some (.int 1), x3], [.retAddr 2, .ref 162], h, 198, sl) = some R := hh
    obtain ⟨n, fr', lo', r1, hr1, hh⟩ := rn_call (w := 0) (t := 183) rfl rfl hh
    have er := to_run (i := 2) (by decide) ht hp q.1 hr1
    have el : (tko 2 tp p t (st_tx 2).length 0).isSome = (decide (p < t) && zlev 1 (tp p)) := by
      by_cases y : p < t
      · rw [decide_eq_true y, Bool.true_and]
        exact tk_l1 y
      · rw [decide_eq_false y, Bool.false_and]
        exact tk_no y
    show zN R t sl ns tp cs (cond (decide (p < t) && zlev 1 (tp p)) (cond (pz tp t m 2 ns (p + 1)).1 (zlp (pz tp t m 2 ns) tp t 1 0 (pz tp t m 2 ns (p + 1)).2) (false, (pz tp t m 2 ns (p + 1)).2)) (true, p)) (cond (decide (p < t) && zlev 1 (tp p)) (pr tp t m 2 ns (p + 1) ++ rop 1 (tp p) :: rlp (pr tp t m 2 ns) (pz tp t m 2 ns) tp t 1 0 (pz tp t m 2 ns (p + 1)).2) [])
    rw [← el]
    cases zt : tko 2 tp p t (st_tx 2).length 0 with
    | none =>
      rw [zt] at er
      have er : r1 = (some (.int (-1)), h, 198, sl) := er
      subst er
      have hh : pm_run PT n fr lo 195 (53, [some (.ref 162), some (.int (nI 1)), some (.int 1), x3], [.int (-1)], h, 198, sl) = some R := hh
      obtain ⟨n, hh⟩ := rn_i rfl rfl rfl rfl hh
      obtain ⟨n, hh⟩ := rn_i rfl rfl rfl rfl hh
      have hh : pm_run PT n fr lo 195 (55, [some (.ref 162), some (.int (nI 1)), some (.int 1), some (.int (-1))], [.int (-1)], h, 198, sl) = some R := hh
      obtain ⟨n, hh⟩ := rn_if (cc := .ge) (off := 5) (t := 60) rfl rfl hh
      have hh : pm_run PT n fr lo 195 (58, [some (.ref 162), some (.int (nI 1)), some (.int 1), some (.int (-1))], [], h, 198, sl) = some R := hh
      obtain ⟨n, hh⟩ := rn_i rfl rfl rfl rfl hh
      exact zN_ok (by show qN h p t tp (cs ++ []); rw [List.append_nil]; exact q) h18 (rn_ret rfl (Or.inr rfl) hh).2
    | some j =>
      have hj := tko_some zt
      have hl : p < t := hj.1
      rw [zt] at er
      have er : r1 = (some (.int (nI j)), mset h 16 (.int (nI (p + 1))), 198, sl) := er
      subst er
      have hj2 : j < 2 := by
        have : (st_tx 2).length = 2 := by decide +kernel
        omega
      have q2 := qN_16 (p' := p + 1) q
      have g2 : mF (mset h 16 (.int (nI (p + 1)))) 18 (.int (nI ns)) := mF_ne (by decide) h18
      have hh : pm_run PT n fr lo 195 (53, [some (.ref 162), some (.int (nI 1)), some (.int 1), x3], [.int (nI j)], (mset h 16 (.int (nI (p + 1)))), 198, sl) = some R := hh
      generalize mset h 16 (.int (nI (p + 1))) = h2 at hh q2 g2
      have hh : pm_run PT n fr lo 195 (53, [some (.ref 162), some (.int (nI 1)), some (.int 1), x3], [.int (nI j)], h2, 198, sl) = some R := hh
      obtain ⟨n, hh⟩ := rn_i rfl rfl rfl rfl hh
      obtain ⟨n, hh⟩ := rn_i rfl rfl rfl rfl hh
      have hh : pm_run PT n fr lo 195 (55, [some (.ref 162), some (.int (nI 1)), some (.int 1), some (.int (nI j))], [.int (nI j)], h2, 198, sl) = some R := hh
      obtain ⟨n, hh⟩ := rn_if (cc := .ge) (off := 5) (t := 60) rfl rfl hh
      rw [ge0_val (by rw [nI_toInt (by omega)]; omega)] at hh
      have hh : pm_run PT n fr lo 195 (60, [some (.ref 162), some (.int (nI 1)), some (.int 1), some (.int (nI j))], [], h2, 198, sl) = some R := hh
      obtain ⟨n, hh⟩ := rn_i rfl rfl rfl rfl hh
      obtain ⟨n, hh⟩ := rn_i rfl rfl rfl rfl hh
      obtain ⟨n, hh⟩ := rn_i rfl rfl rfl rfl hh
      obtain ⟨n, hh⟩ := rn_i rfl rfl rfl rfl hh
      have hh : pm_run PT n fr lo 195 (64, [some (.ref 162), some (.int (nI 1)), some (.int 1), some (.int (nI j))], [.int (nI 2), .ref 162], h2, 198, sl) = some R := hh
      obtain ⟨n, fr', lo', r1, hr1, hh⟩ := rn_call (w := 0) (t := 195) rfl rfl hh
      obtain ⟨b1, b2, b3, b4⟩ := ih 2 ns (p + 1) _ _ _ _ _ _ _ (by omega) hns (by omega) (by omega) (by omega) q2 g2 hr1
      obtain ⟨rv, h4, s4⟩ := r1
      dsimp only at b1 b2 b3 b4
      subst b1
      subst b4
      have hle := pz_le (f := tp) (t := t) m 2 ns (p + 1) (by omega)
      have hge := pz_ge (f := tp) (t := t) m 2 ns (p + 1)
      have hlen := pr_len (f := tp) (t := t) m 2 ns (p + 1)
      have hh : pm_run PT n fr lo 195 (67, [some (.ref 162), some (.int (nI 1)), some (.int 1), some (.int (nI j))], [.int (cond (pz tp t m 2 ns (p + 1)).1 1 0)], h4, 198, sl) = some R := hh
      obtain ⟨n, hh⟩ := rn_if (cc := .ne) (off := 5) (t := 72) rfl rfl hh
      cases zr : (pz tp t m 2 ns (p + 1)).1 with
      | false =>
        rw [zr] at hh
        have hh : pm_run PT n fr lo 195 (70, [some (.ref 162), some (.int (nI 1)), some (.int 1), some (.int (nI j))], [], h4, 198, sl) = some R := hh
        obtain ⟨n, hh⟩ := rn_i rfl rfl rfl rfl hh
        exact zN_no b2 (rn_ret rfl (Or.inr rfl) hh).2
      | true =>
        rw [zr] at hh b3
        obtain ⟨g4, b5⟩ := b3 rfl
        have hlen := hlen zr
        have hh : pm_run PT n fr lo 195 (72, [some (.ref 162), some (.int (nI 1)), some (.int 1), some (.int (nI j))], [], h4, 198, sl) = some R := hh
        obtain ⟨n, hh⟩ := rn_i rfl rfl rfl rfl hh
        obtain ⟨n, hh⟩ := rn_i rfl rfl rfl rfl hh
        obtain ⟨n, hh⟩ := rn_i rfl rfl rfl rfl hh
        obtain ⟨n, hh⟩ := rn_i rfl rfl rfl rfl hh
        obtain ⟨n, hh⟩ := rn_i rfl rfl rfl rfl hh
        have hh : pm_run PT n fr lo 195 (79, [some (.ref 162), some (.int (nI 1)), some (.int 1), some (.int (nI j))], [.int (nI 1), .int (2000 + (nI j)), .ref 162], h4, 198, sl) = some R := hh
        obtain ⟨n, hh⟩ := rn_if (cc := .ne) (off := 7) (t := 86) rfl rfl hh
        have hh : pm_run PT n fr lo 195 (86, [some (.ref 162), some (.int (nI 1)), some (.int 1), some (.int (nI j))], [.int (2000 + (nI j)), .ref 162], h4, 198, sl) = some R := hh
        obtain ⟨n, hh⟩ := rn_i rfl rfl rfl rfl hh
        obtain ⟨n, hh⟩ := rn_i rfl rfl rfl rfl hh
        obtain ⟨n, hh⟩ := rn_icmp (cc := .ne) (off := 7) (t := 95) rfl rfl hh
        have hh : pm_run PT n fr lo 195 (91, [some (.ref 162), some (.int (nI 1)), some (.int 1), some (.int (nI j))], [.int (2000 + (nI j)), .ref 162], h4, 198, sl) = some R := hh
        obtain ⟨n, hh⟩ := rn_i rfl rfl rfl rfl hh
        obtain ⟨n, hh⟩ := rn_i rfl rfl rfl rfl hh
        have hh : pm_run PT n fr lo 195 (96, [some (.ref 162), some (.int (nI 1)), some (.int 1), some (.int (nI j))], [.int 3, .int (2000 + (nI j)), .ref 162], h4, 198, sl) = some R := hh
        obtain ⟨n, hh⟩ := rn_i rfl rfl rfl rfl hh
        have hh : pm_run PT n fr lo 195 (97, [some (.ref 162), some (.int (nI 1)), some (.int 1), some (.int (nI j))], [.int ((2000 + (nI j)) + 3), .ref 162], h4, 198, sl) = some R := hh
        rw [show (2000 : Int32) + nI j + 3 = rop 1 (tp p) from rop_1 zt] at hh
        have hh : pm_run PT n fr lo 195 (97, [some (.ref 162), some (.int (nI 1)), some (.int 1), some (.int (nI j))], [.int (rop 1 (tp p)), .ref 162], h4, 198, sl) = some R := hh
        obtain ⟨n, fr', lo', r1, hr1, hh⟩ := rn_call (w := 0) (t := 193) rfl rfl hh
        obtain ⟨d1, d2, d3, d4⟩ := cod_runN (by rw [List.length_append]; omega) b5 hr1
        obtain ⟨rv, h5, s5⟩ := r1
        dsimp only at d1 d2 d3 d4
        subst d1
        subst d4
        have g5 := d3 _ g4
        have hh : pm_run PT n fr lo 195 (100, [some (.ref 162), some (.int (nI 1)), some (.int 1), some (.int (nI j))], [], h5, 198, sl) = some R := hh
        obtain ⟨n, hh⟩ := rn_i rfl rfl rfl rfl hh
        obtain ⟨n, hh⟩ := rn_if (cc := .le) (off := 7) (t := 108) rfl rfl hh
        have hh : pm_run PT n fr lo 195 (104, [some (.ref 162), some (.int (nI 1)), some (.int 1), some (.int (nI j))], [], h5, 198, sl) = some R := hh
        obtain ⟨n, hh⟩ := rn_i rfl rfl rfl rfl hh
        obtain ⟨n, hh⟩ := rn_i rfl rfl rfl rfl hh
        obtain ⟨n, hh⟩ := rn_i rfl rfl rfl rfl hh
        obtain ⟨n, hh⟩ := rn_i rfl rfl rfl rfl hh
        have hh : pm_run PT n fr lo 195 (24, [some (.ref 162), some (.int (nI 1)), some (.int 1), some (.int (nI j))], [], h5, 198, sl) = some R := hh
        exact absurd hl y
  | succ k ihk =>
    intro p n x3 h cs hk hp hl0 q h18 hh
    obtain ⟨n, hh⟩ := rn_i rfl rfl rfl rfl hh
    obtain ⟨n, hh⟩ := rn_if (cc := .eq) (off := 88) (t := 113) rfl rfl hh
    have hh : pm_run PT n fr lo 195 (28, [some (.ref 162), some (.int (nI 1)), some (.int 1), x3], [], h, 198, sl) = some R := hh
    obtain ⟨n, hh⟩ := rn_i rfl rfl rfl rfl hh
    obtain ⟨n, hh⟩ := rn_i rfl rfl rfl rfl hh
    obtain ⟨n, hh⟩ := rn_if (cc := .ne) (off := 8) (t := 38) rfl rfl hh
    have hh : pm_run PT n fr lo 195 (38, [some (.ref 162), some (.int (nI 1)), some (.int 1), x3], [.ref 162], h, 198, sl) = some R := hh
    obtain ⟨n, hh⟩ := rn_i rfl rfl rfl rfl hh
    obtain ⟨n, hh⟩ := rn_i rfl rfl rfl rfl hh
    obtain ⟨n, hh⟩ := rn_icmp (cc := .ne) (off := 8) (t := 48) rfl rfl hh
    have hh : pm_run PT n fr lo 195 (43, [some (.ref 162), some (.int (nI 1)), some (.int 1), x3], [.ref 162], h, 198, sl) = some R := hh
    obtain ⟨n, hh⟩ := rn_i rfl rfl rfl rfl hh
    obtain ⟨n, hh⟩ := rn_i rfl rfl rfl rfl hh
    have hh : pm_run PT n fr lo 195 (50, [some (.ref 162), some (.int (nI 1)), some (.int 1), x3], [.retAddr 2, .ref 162], h, 198, sl) = some R := hh
    obtain ⟨n, fr', lo', r1, hr1, hh⟩ := rn_call (w := 0) (t := 183) rfl rfl hh
    have er := to_run (i := 2) (by decide) ht hp q.1 hr1
    have el : (tko 2 tp p t (st_tx 2).length 0).isSome = (decide (p < t) && zlev 1 (tp p)) := by
      by_cases y : p < t
      · rw [decide_eq_true y, Bool.true_and]
        exact tk_l1 y
      · rw [decide_eq_false y, Bool.false_and]
        exact tk_no y
    show zN R t sl ns tp cs (cond (decide (p < t) && zlev 1 (tp p)) (cond (pz tp t m 2 ns (p + 1)).1 (zlp (pz tp t m 2 ns) tp t 1 k (pz tp t m 2 ns (p + 1)).2) (false, (pz tp t m 2 ns (p + 1)).2)) (true, p)) (cond (decide (p < t) && zlev 1 (tp p)) (pr tp t m 2 ns (p + 1) ++ rop 1 (tp p) :: rlp (pr tp t m 2 ns) (pz tp t m 2 ns) tp t 1 k (pz tp t m 2 ns (p + 1)).2) [])
    rw [← el]
    cases zt : tko 2 tp p t (st_tx 2).length 0 with
    | none =>
      rw [zt] at er
      have er : r1 = (some (.int (-1)), h, 198, sl) := er
      subst er
      have hh : pm_run PT n fr lo 195 (53, [some (.ref 162), some (.int (nI 1)), some (.int 1), x3], [.int (-1)], h, 198, sl) = some R := hh
      obtain ⟨n, hh⟩ := rn_i rfl rfl rfl rfl hh
      obtain ⟨n, hh⟩ := rn_i rfl rfl rfl rfl hh
      have hh : pm_run PT n fr lo 195 (55, [some (.ref 162), some (.int (nI 1)), some (.int 1), some (.int (-1))], [.int (-1)], h, 198, sl) = some R := hh
      obtain ⟨n, hh⟩ := rn_if (cc := .ge) (off := 5) (t := 60) rfl rfl hh
      have hh : pm_run PT n fr lo 195 (58, [some (.ref 162), some (.int (nI 1)), some (.int 1), some (.int (-1))], [], h, 198, sl) = some R := hh
      obtain ⟨n, hh⟩ := rn_i rfl rfl rfl rfl hh
      exact zN_ok (by show qN h p t tp (cs ++ []); rw [List.append_nil]; exact q) h18 (rn_ret rfl (Or.inr rfl) hh).2
    | some j =>
      have hj := tko_some zt
      have hl : p < t := hj.1
      rw [zt] at er
      have er : r1 = (some (.int (nI j)), mset h 16 (.int (nI (p + 1))), 198, sl) := er
      subst er
      have hj2 : j < 2 := by
        have : (st_tx 2).length = 2 := by decide +kernel
        omega
      have q2 := qN_16 (p' := p + 1) q
      have g2 : mF (mset h 16 (.int (nI (p + 1)))) 18 (.int (nI ns)) := mF_ne (by decide) h18
      have hh : pm_run PT n fr lo 195 (53, [some (.ref 162), some (.int (nI 1)), some (.int 1), x3], [.int (nI j)], (mset h 16 (.int (nI (p + 1)))), 198, sl) = some R := hh
      generalize mset h 16 (.int (nI (p + 1))) = h2 at hh q2 g2
      have hh : pm_run PT n fr lo 195 (53, [some (.ref 162), some (.int (nI 1)), some (.int 1), x3], [.int (nI j)], h2, 198, sl) = some R := hh
      obtain ⟨n, hh⟩ := rn_i rfl rfl rfl rfl hh
      obtain ⟨n, hh⟩ := rn_i rfl rfl rfl rfl hh
      have hh : pm_run PT n fr lo 195 (55, [some (.ref 162), some (.int (nI 1)), some (.int 1), some (.int (nI j))], [.int (nI j)], h2, 198, sl) = some R := hh
      obtain ⟨n, hh⟩ := rn_if (cc := .ge) (off := 5) (t := 60) rfl rfl hh
      rw [ge0_val (by rw [nI_toInt (by omega)]; omega)] at hh
      have hh : pm_run PT n fr lo 195 (60, [some (.ref 162), some (.int (nI 1)), some (.int 1), some (.int (nI j))], [], h2, 198, sl) = some R := hh
      obtain ⟨n, hh⟩ := rn_i rfl rfl rfl rfl hh
      obtain ⟨n, hh⟩ := rn_i rfl rfl rfl rfl hh
      obtain ⟨n, hh⟩ := rn_i rfl rfl rfl rfl hh
      obtain ⟨n, hh⟩ := rn_i rfl rfl rfl rfl hh
      have hh : pm_run PT n fr lo 195 (64, [some (.ref 162), some (.int (nI 1)), some (.int 1), some (.int (nI j))], [.int (nI 2), .ref 162], h2, 198, sl) = some R := hh
      obtain ⟨n, fr', lo', r1, hr1, hh⟩ := rn_call (w := 0) (t := 195) rfl rfl hh
      obtain ⟨b1, b2, b3, b4⟩ := ih 2 ns (p + 1) _ _ _ _ _ _ _ (by omega) hns (by omega) (by omega) (by omega) q2 g2 hr1
      obtain ⟨rv, h4, s4⟩ := r1
      dsimp only at b1 b2 b3 b4
      subst b1
      subst b4
      have hle := pz_le (f := tp) (t := t) m 2 ns (p + 1) (by omega)
      have hge := pz_ge (f := tp) (t := t) m 2 ns (p + 1)
      have hlen := pr_len (f := tp) (t := t) m 2 ns (p + 1)
      have hh : pm_run PT n fr lo 195 (67, [some (.ref 162), some (.int (nI 1)), some (.int 1), some (.int (nI j))], [.int (cond (pz tp t m 2 ns (p + 1)).1 1 0)], h4, 198, sl) = some R := hh
      obtain ⟨n, hh⟩ := rn_if (cc := .ne) (off := 5) (t := 72) rfl rfl hh
      cases zr : (pz tp t m 2 ns (p + 1)).1 with
      | false =>
        rw [zr] at hh
        have hh : pm_run PT n fr lo 195 (70, [some (.ref 162), some (.int (nI 1)), some (.int 1), some (.int (nI j))], [], h4, 198, sl) = some R := hh
        obtain ⟨n, hh⟩ := rn_i rfl rfl rfl rfl hh
        exact zN_no b2 (rn_ret rfl (Or.inr rfl) hh).2
      | true =>
        rw [zr] at hh b3
        obtain ⟨g4, b5⟩ := b3 rfl
        have hlen := hlen zr
        have hh : pm_run PT n fr lo 195 (72, [some (.ref 162), some (.int (nI 1)), some (.int 1), some (.int (nI j))], [], h4, 198, sl) = some R := hh
        obtain ⟨n, hh⟩ := rn_i rfl rfl rfl rfl hh
        obtain ⟨n, hh⟩ := rn_i rfl rfl rfl rfl hh
        obtain ⟨n, hh⟩ := rn_i rfl rfl rfl rfl hh
        obtain ⟨n, hh⟩ := rn_i rfl rfl rfl rfl hh
        obtain ⟨n, hh⟩ := rn_i rfl rfl rfl rfl hh
        have hh : pm_run PT n fr lo 195 (79, [some (.ref 162), some (.int (nI 1)), some (.int 1), some (.int (nI j))], [.int (nI 1), .int (2000 + (nI j)), .ref 162], h4, 198, sl) = some R := hh
        obtain ⟨n, hh⟩ := rn_if (cc := .ne) (off := 7) (t := 86) rfl rfl hh
        have hh : pm_run PT n fr lo 195 (86, [some (.ref 162), some (.int (nI 1)), some (.int 1), some (.int (nI j))], [.int (2000 + (nI j)), .ref 162], h4, 198, sl) = some R := hh
        obtain ⟨n, hh⟩ := rn_i rfl rfl rfl rfl hh
        obtain ⟨n, hh⟩ := rn_i rfl rfl rfl rfl hh
        obtain ⟨n, hh⟩ := rn_icmp (cc := .ne) (off := 7) (t := 95) rfl rfl hh
        have hh : pm_run PT n fr lo 195 (91, [some (.ref 162), some (.int (nI 1)), some (.int 1), some (.int (nI j))], [.int (2000 + (nI j)), .ref 162], h4, 198, sl) = some R := hh
        obtain ⟨n, hh⟩ := rn_i rfl rfl rfl rfl hh
        obtain ⟨n, hh⟩ := rn_i rfl rfl rfl rfl hh
        have hh : pm_run PT n fr lo 195 (96, [some (.ref 162), some (.int (nI 1)), some (.int 1), some (.int (nI j))], [.int 3, .int (2000 + (nI j)), .ref 162], h4, 198, sl) = some R := hh
        obtain ⟨n, hh⟩ := rn_i rfl rfl rfl rfl hh
        have hh : pm_run PT n fr lo 195 (97, [some (.ref 162), some (.int (nI 1)), some (.int 1), some (.int (nI j))], [.int ((2000 + (nI j)) + 3), .ref 162], h4, 198, sl) = some R := hh
        rw [show (2000 : Int32) + nI j + 3 = rop 1 (tp p) from rop_1 zt] at hh
        have hh : pm_run PT n fr lo 195 (97, [some (.ref 162), some (.int (nI 1)), some (.int 1), some (.int (nI j))], [.int (rop 1 (tp p)), .ref 162], h4, 198, sl) = some R := hh
        obtain ⟨n, fr', lo', r1, hr1, hh⟩ := rn_call (w := 0) (t := 193) rfl rfl hh
        obtain ⟨d1, d2, d3, d4⟩ := cod_runN (by rw [List.length_append]; omega) b5 hr1
        obtain ⟨rv, h5, s5⟩ := r1
        dsimp only at d1 d2 d3 d4
        subst d1
        subst d4
        have g5 := d3 _ g4
        have hh : pm_run PT n fr lo 195 (100, [some (.ref 162), some (.int (nI 1)), some (.int 1), some (.int (nI j))], [], h5, 198, sl) = some R := hh
        obtain ⟨n, hh⟩ := rn_i rfl rfl rfl rfl hh
        obtain ⟨n, hh⟩ := rn_if (cc := .le) (off := 7) (t := 108) rfl rfl hh
        have hh : pm_run PT n fr lo 195 (104, [some (.ref 162), some (.int (nI 1)), some (.int 1), some (.int (nI j))], [], h5, 198, sl) = some R := hh
        obtain ⟨n, hh⟩ := rn_i rfl rfl rfl rfl hh
        obtain ⟨n, hh⟩ := rn_i rfl rfl rfl rfl hh
        obtain ⟨n, hh⟩ := rn_i rfl rfl rfl rfl hh
        obtain ⟨n, hh⟩ := rn_i rfl rfl rfl rfl hh
        have hh : pm_run PT n fr lo 195 (24, [some (.ref 162), some (.int (nI 1)), some (.int 1), some (.int (nI j))], [], h5, 198, sl) = some R := hh
        have q9 := ihk _ n _ h5 _ (by omega) hle (by rw [List.length_append, List.length_append]; show _ + _ + 1 ≤ _; omega) d2 g5 hh
        obtain ⟨r1, r2, r3, r4⟩ := q9
        exact ⟨r1, r2, fun y => ⟨(r3 y).1, by have y := (r3 y).2; rw [List.append_assoc, List.append_assoc] at y; exact y⟩, r4⟩
theorem lpn_2 {m ns : Nat} {tp : Nat → Int32} (ht : t ≤ 40) (ih : rN m t tp) (hns : ns ≤ 4) (hm : 1 + 4 * (4 - ns) ≤ m) : ∀ (k p n : Nat) (x3 : Option Value) (h : pm_H) (cs : List Int32), t ≤ p + k → p ≤ t → cs.length ≤ p → qN h p t tp cs → mF h 18 (.int (nI ns)) → pm_run PT n fr lo 195 (24, [some (.ref 162), some (.int (nI 2)), some (.int 1), x3], [], h, 198, sl) = some R → zN R t sl ns tp cs (zlp (pz tp t m 3 ns) tp t 2 k p) (rlp (pr tp t m 3 ns) (pz tp t m 3 ns) tp t 2 k p) := by
  have stopR : ∀ (k p : Nat), ¬ p < t → rlp (pr tp t m 3 ns) (pz tp t m 3 ns) tp t 2 k p = [] := by
    intro k p y
    cases k with
    | zero => rfl
    | succ k =>
      show cond (decide (p < t) && zlev 2 (tp p)) _ [] = []
      rw [decide_eq_false y]
      rfl
  have stop : ∀ (k p : Nat), ¬ p < t → zlp (pz tp t m 3 ns) tp t 2 k p = (true, p) := by
    intro k p y
    cases k with
    | zero => rfl
    | succ k =>
      show cond (decide (p < t) && zlev 2 (tp p)) _ (true, p) = (true, p)
      rw [decide_eq_false y]
      rfl
  intro k
  induction k with
  | zero =>
    intro p n x3 h cs hk hp hl0 q h18 hh
    rw [show zlp (pz tp t m 3 ns) tp t 2 0 p = zlp (pz tp t m 3 ns) tp t 2 1 p from (stop 0 p (by omega)).trans (stop 1 p (by omega)).symm, show rlp (pr tp t m 3 ns) (pz tp t m 3 ns) tp t 2 0 p = rlp (pr tp t m 3 ns) (pz tp t m 3 ns) tp t 2 1 p from (stopR 0 p (by omega)).trans (stopR 1 p (by omega)).symm]
    have y : ¬ p < t := by omega
    obtain ⟨n, hh⟩ := rn_i rfl rfl rfl rfl hh
    obtain ⟨n, hh⟩ := rn_if (cc := .eq) (off := 88) (t := 113) rfl rfl hh
    have hh : pm_run PT n fr lo 195 (28, [some (.ref 162), some (.int (nI 2)), some (.int 1), x3], [], h, 198, sl) = some R := hh
    obtain ⟨n, hh⟩ := rn_i rfl rfl rfl rfl hh
    obtain ⟨n, hh⟩ := rn_i rfl rfl rfl rfl hh
    obtain ⟨n, hh⟩ := rn_if (cc := .ne) (off := 8) (t := 38) rfl rfl hh
    have hh : pm_run PT n fr lo 195 (38, [some (.ref 162), some (.int (nI 2)), some (.int 1), x3], [.ref 162], h, 198, sl) = some R := hh
    obtain ⟨n, hh⟩ := rn_i rfl rfl rfl rfl hh
    obtain ⟨n, hh⟩ := rn_i rfl rfl rfl rfl hh
    obtain ⟨n, hh⟩ := rn_icmp (cc := .ne) (off := 8) (t := 48) rfl rfl hh
    have hh : pm_run PT n fr lo 195 (48, [some (.ref 162), some (.int (nI 2)), some (.int 1), x3], [.ref 162], h, 198, sl) = some R := hh
    obtain ⟨n, hh⟩ := rn_i rfl rfl rfl rfl hh
    have hh : pm_run PT n fr lo 195 (50, [some (.ref 162), some (.int (nI 2)), some (.int 1), x3], [.retAddr 3, .ref 162], h, 198, sl) = some R := hh
    obtain ⟨n, fr', lo', r1, hr1, hh⟩ := rn_call (w := 0) (t := 183) rfl rfl hh
    have er := to_run (i := 3) (by decide) ht hp q.1 hr1
    have el : (tko 3 tp p t (st_tx 3).length 0).isSome = (decide (p < t) && zlev 2 (tp p)) := by
      by_cases y : p < t
      · rw [decide_eq_true y, Bool.true_and]
        exact tk_l2 y
      · rw [decide_eq_false y, Bool.false_and]
        exact tk_no y
    show zN R t sl ns tp cs (cond (decide (p < t) && zlev 2 (tp p)) (cond (pz tp t m 3 ns (p + 1)).1 (zlp (pz tp t m 3 ns) tp t 2 0 (pz tp t m 3 ns (p + 1)).2) (false, (pz tp t m 3 ns (p + 1)).2)) (true, p)) (cond (decide (p < t) && zlev 2 (tp p)) (pr tp t m 3 ns (p + 1) ++ rop 2 (tp p) :: rlp (pr tp t m 3 ns) (pz tp t m 3 ns) tp t 2 0 (pz tp t m 3 ns (p + 1)).2) [])
    rw [← el]
    cases zt : tko 3 tp p t (st_tx 3).length 0 with
    | none =>
      rw [zt] at er
      have er : r1 = (some (.int (-1)), h, 198, sl) := er
      subst er
      have hh : pm_run PT n fr lo 195 (53, [some (.ref 162), some (.int (nI 2)), some (.int 1), x3], [.int (-1)], h, 198, sl) = some R := hh
      obtain ⟨n, hh⟩ := rn_i rfl rfl rfl rfl hh
      obtain ⟨n, hh⟩ := rn_i rfl rfl rfl rfl hh
      have hh : pm_run PT n fr lo 195 (55, [some (.ref 162), some (.int (nI 2)), some (.int 1), some (.int (-1))], [.int (-1)], h, 198, sl) = some R := hh
      obtain ⟨n, hh⟩ := rn_if (cc := .ge) (off := 5) (t := 60) rfl rfl hh
      have hh : pm_run PT n fr lo 195 (58, [some (.ref 162), some (.int (nI 2)), some (.int 1), some (.int (-1))], [], h, 198, sl) = some R := hh
      obtain ⟨n, hh⟩ := rn_i rfl rfl rfl rfl hh
      exact zN_ok (by show qN h p t tp (cs ++ []); rw [List.append_nil]; exact q) h18 (rn_ret rfl (Or.inr rfl) hh).2
    | some j =>
      have hj := tko_some zt
      have hl : p < t := hj.1
      rw [zt] at er
      have er : r1 = (some (.int (nI j)), mset h 16 (.int (nI (p + 1))), 198, sl) := er
      subst er
      have hj2 : j < 2 := by
        have : (st_tx 3).length = 2 := by decide +kernel
        omega
      have q2 := qN_16 (p' := p + 1) q
      have g2 : mF (mset h 16 (.int (nI (p + 1)))) 18 (.int (nI ns)) := mF_ne (by decide) h18
      have hh : pm_run PT n fr lo 195 (53, [some (.ref 162), some (.int (nI 2)), some (.int 1), x3], [.int (nI j)], (mset h 16 (.int (nI (p + 1)))), 198, sl) = some R := hh
      generalize mset h 16 (.int (nI (p + 1))) = h2 at hh q2 g2
      have hh : pm_run PT n fr lo 195 (53, [some (.ref 162), some (.int (nI 2)), some (.int 1), x3], [.int (nI j)], h2, 198, sl) = some R := hh
      obtain ⟨n, hh⟩ := rn_i rfl rfl rfl rfl hh
      obtain ⟨n, hh⟩ := rn_i rfl rfl rfl rfl hh
      have hh : pm_run PT n fr lo 195 (55, [some (.ref 162), some (.int (nI 2)), some (.int 1), some (.int (nI j))], [.int (nI j)], h2, 198, sl) = some R := hh
      obtain ⟨n, hh⟩ := rn_if (cc := .ge) (off := 5) (t := 60) rfl rfl hh
      rw [ge0_val (by rw [nI_toInt (by omega)]; omega)] at hh
      have hh : pm_run PT n fr lo 195 (60, [some (.ref 162), some (.int (nI 2)), some (.int 1), some (.int (nI j))], [], h2, 198, sl) = some R := hh
      obtain ⟨n, hh⟩ := rn_i rfl rfl rfl rfl hh
      obtain ⟨n, hh⟩ := rn_i rfl rfl rfl rfl hh
      obtain ⟨n, hh⟩ := rn_i rfl rfl rfl rfl hh
      obtain ⟨n, hh⟩ := rn_i rfl rfl rfl rfl hh
      have hh : pm_run PT n fr lo 195 (64, [some (.ref 162), some (.int (nI 2)), some (.int 1), some (.int (nI j))], [.int (nI 3), .ref 162], h2, 198, sl) = some R := hh
      obtain ⟨n, fr', lo', r1, hr1, hh⟩ := rn_call (w := 0) (t := 195) rfl rfl hh
      obtain ⟨b1, b2, b3, b4⟩ := ih 3 ns (p + 1) _ _ _ _ _ _ _ (by omega) hns (by omega) (by omega) (by omega) q2 g2 hr1
      obtain ⟨rv, h4, s4⟩ := r1
      dsimp only at b1 b2 b3 b4
      subst b1
      subst b4
      have hle := pz_le (f := tp) (t := t) m 3 ns (p + 1) (by omega)
      have hge := pz_ge (f := tp) (t := t) m 3 ns (p + 1)
      have hlen := pr_len (f := tp) (t := t) m 3 ns (p + 1)
      have hh : pm_run PT n fr lo 195 (67, [some (.ref 162), some (.int (nI 2)), some (.int 1), some (.int (nI j))], [.int (cond (pz tp t m 3 ns (p + 1)).1 1 0)], h4, 198, sl) = some R := hh
      obtain ⟨n, hh⟩ := rn_if (cc := .ne) (off := 5) (t := 72) rfl rfl hh
      cases zr : (pz tp t m 3 ns (p + 1)).1 with
      | false =>
        rw [zr] at hh
        have hh : pm_run PT n fr lo 195 (70, [some (.ref 162), some (.int (nI 2)), some (.int 1), some (.int (nI j))], [], h4, 198, sl) = some R := hh
        obtain ⟨n, hh⟩ := rn_i rfl rfl rfl rfl hh
        exact zN_no b2 (rn_ret rfl (Or.inr rfl) hh).2
      | true =>
        rw [zr] at hh b3
        obtain ⟨g4, b5⟩ := b3 rfl
        have hlen := hlen zr
        have hh : pm_run PT n fr lo 195 (72, [some (.ref 162), some (.int (nI 2)), some (.int 1), some (.int (nI j))], [], h4, 198, sl) = some R := hh
        obtain ⟨n, hh⟩ := rn_i rfl rfl rfl rfl hh
        obtain ⟨n, hh⟩ := rn_i rfl rfl rfl rfl hh
        obtain ⟨n, hh⟩ := rn_i rfl rfl rfl rfl hh
        obtain ⟨n, hh⟩ := rn_i rfl rfl rfl rfl hh
        obtain ⟨n, hh⟩ := rn_i rfl rfl rfl rfl hh
        have hh : pm_run PT n fr lo 195 (79, [some (.ref 162), some (.int (nI 2)), some (.int 1), some (.int (nI j))], [.int (nI 2), .int (2000 + (nI j)), .ref 162], h4, 198, sl) = some R := hh
        obtain ⟨n, hh⟩ := rn_if (cc := .ne) (off := 7) (t := 86) rfl rfl hh
        have hh : pm_run PT n fr lo 195 (86, [some (.ref 162), some (.int (nI 2)), some (.int 1), some (.int (nI j))], [.int (2000 + (nI j)), .ref 162], h4, 198, sl) = some R := hh
        obtain ⟨n, hh⟩ := rn_i rfl rfl rfl rfl hh
        obtain ⟨n, hh⟩ := rn_i rfl rfl rfl rfl hh
        obtain ⟨n, hh⟩ := rn_icmp (cc := .ne) (off := 7) (t := 95) rfl rfl hh
        have hh : pm_run PT n fr lo 195 (95, [some (.ref 162), some (.int (nI 2)), some (.int 1), some (.int (nI j))], [.int (2000 + (nI j)), .ref 162], h4, 198, sl) = some R := hh
        obtain ⟨n, hh⟩ := rn_i rfl rfl rfl rfl hh
        have hh : pm_run PT n fr lo 195 (96, [some (.ref 162), some (.int (nI 2)), some (.int 1), some (.int (nI j))], [.int 5, .int (2000 + (nI j)), .ref 162], h4, 198, sl) = some R := hh
        obtain ⟨n, hh⟩ := rn_i rfl rfl rfl rfl hh
        have hh : pm_run PT n fr lo 195 (97, [some (.ref 162), some (.int (nI 2)), some (.int 1), some (.int (nI j))], [.int ((2000 + (nI j)) + 5), .ref 162], h4, 198, sl) = some R := hh
        rw [show (2000 : Int32) + nI j + 5 = rop 2 (tp p) from rop_2 zt] at hh
        have hh : pm_run PT n fr lo 195 (97, [some (.ref 162), some (.int (nI 2)), some (.int 1), some (.int (nI j))], [.int (rop 2 (tp p)), .ref 162], h4, 198, sl) = some R := hh
        obtain ⟨n, fr', lo', r1, hr1, hh⟩ := rn_call (w := 0) (t := 193) rfl rfl hh
        obtain ⟨d1, d2, d3, d4⟩ := cod_runN (by rw [List.length_append]; omega) b5 hr1
        obtain ⟨rv, h5, s5⟩ := r1
        dsimp only at d1 d2 d3 d4
        subst d1
        subst d4
        have g5 := d3 _ g4
        have hh : pm_run PT n fr lo 195 (100, [some (.ref 162), some (.int (nI 2)), some (.int 1), some (.int (nI j))], [], h5, 198, sl) = some R := hh
        obtain ⟨n, hh⟩ := rn_i rfl rfl rfl rfl hh
        obtain ⟨n, hh⟩ := rn_if (cc := .le) (off := 7) (t := 108) rfl rfl hh
        have hh : pm_run PT n fr lo 195 (104, [some (.ref 162), some (.int (nI 2)), some (.int 1), some (.int (nI j))], [], h5, 198, sl) = some R := hh
        obtain ⟨n, hh⟩ := rn_i rfl rfl rfl rfl hh
        obtain ⟨n, hh⟩ := rn_i rfl rfl rfl rfl hh
        obtain ⟨n, hh⟩ := rn_i rfl rfl rfl rfl hh
        obtain ⟨n, hh⟩ := rn_i rfl rfl rfl rfl hh
        have hh : pm_run PT n fr lo 195 (24, [some (.ref 162), some (.int (nI 2)), some (.int 1), some (.int (nI j))], [], h5, 198, sl) = some R := hh
        exact absurd hl y
  | succ k ihk =>
    intro p n x3 h cs hk hp hl0 q h18 hh
    obtain ⟨n, hh⟩ := rn_i rfl rfl rfl rfl hh
    obtain ⟨n, hh⟩ := rn_if (cc := .eq) (off := 88) (t := 113) rfl rfl hh
    have hh : pm_run PT n fr lo 195 (28, [some (.ref 162), some (.int (nI 2)), some (.int 1), x3], [], h, 198, sl) = some R := hh
    obtain ⟨n, hh⟩ := rn_i rfl rfl rfl rfl hh
    obtain ⟨n, hh⟩ := rn_i rfl rfl rfl rfl hh
    obtain ⟨n, hh⟩ := rn_if (cc := .ne) (off := 8) (t := 38) rfl rfl hh
    have hh : pm_run PT n fr lo 195 (38, [some (.ref 162), some (.int (nI 2)), some (.int 1), x3], [.ref 162], h, 198, sl) = some R := hh
    obtain ⟨n, hh⟩ := rn_i rfl rfl rfl rfl hh
    obtain ⟨n, hh⟩ := rn_i rfl rfl rfl rfl hh
    obtain ⟨n, hh⟩ := rn_icmp (cc := .ne) (off := 8) (t := 48) rfl rfl hh
    have hh : pm_run PT n fr lo 195 (48, [some (.ref 162), some (.int (nI 2)), some (.int 1), x3], [.ref 162], h, 198, sl) = some R := hh
    obtain ⟨n, hh⟩ := rn_i rfl rfl rfl rfl hh
    have hh : pm_run PT n fr lo 195 (50, [some (.ref 162), some (.int (nI 2)), some (.int 1), x3], [.retAddr 3, .ref 162], h, 198, sl) = some R := hh
    obtain ⟨n, fr', lo', r1, hr1, hh⟩ := rn_call (w := 0) (t := 183) rfl rfl hh
    have er := to_run (i := 3) (by decide) ht hp q.1 hr1
    have el : (tko 3 tp p t (st_tx 3).length 0).isSome = (decide (p < t) && zlev 2 (tp p)) := by
      by_cases y : p < t
      · rw [decide_eq_true y, Bool.true_and]
        exact tk_l2 y
      · rw [decide_eq_false y, Bool.false_and]
        exact tk_no y
    show zN R t sl ns tp cs (cond (decide (p < t) && zlev 2 (tp p)) (cond (pz tp t m 3 ns (p + 1)).1 (zlp (pz tp t m 3 ns) tp t 2 k (pz tp t m 3 ns (p + 1)).2) (false, (pz tp t m 3 ns (p + 1)).2)) (true, p)) (cond (decide (p < t) && zlev 2 (tp p)) (pr tp t m 3 ns (p + 1) ++ rop 2 (tp p) :: rlp (pr tp t m 3 ns) (pz tp t m 3 ns) tp t 2 k (pz tp t m 3 ns (p + 1)).2) [])
    rw [← el]
    cases zt : tko 3 tp p t (st_tx 3).length 0 with
    | none =>
      rw [zt] at er
      have er : r1 = (some (.int (-1)), h, 198, sl) := er
      subst er
      have hh : pm_run PT n fr lo 195 (53, [some (.ref 162), some (.int (nI 2)), some (.int 1), x3], [.int (-1)], h, 198, sl) = some R := hh
      obtain ⟨n, hh⟩ := rn_i rfl rfl rfl rfl hh
      obtain ⟨n, hh⟩ := rn_i rfl rfl rfl rfl hh
      have hh : pm_run PT n fr lo 195 (55, [some (.ref 162), some (.int (nI 2)), some (.int 1), some (.int (-1))], [.int (-1)], h, 198, sl) = some R := hh
      obtain ⟨n, hh⟩ := rn_if (cc := .ge) (off := 5) (t := 60) rfl rfl hh
      have hh : pm_run PT n fr lo 195 (58, [some (.ref 162), some (.int (nI 2)), some (.int 1), some (.int (-1))], [], h, 198, sl) = some R := hh
      obtain ⟨n, hh⟩ := rn_i rfl rfl rfl rfl hh
      exact zN_ok (by show qN h p t tp (cs ++ []); rw [List.append_nil]; exact q) h18 (rn_ret rfl (Or.inr rfl) hh).2
    | some j =>
      have hj := tko_some zt
      have hl : p < t := hj.1
      rw [zt] at er
      have er : r1 = (some (.int (nI j)), mset h 16 (.int (nI (p + 1))), 198, sl) := er
      subst er
      have hj2 : j < 2 := by
        have : (st_tx 3).length = 2 := by decide +kernel
        omega
      have q2 := qN_16 (p' := p + 1) q
      have g2 : mF (mset h 16 (.int (nI (p + 1)))) 18 (.int (nI ns)) := mF_ne (by decide) h18
      have hh : pm_run PT n fr lo 195 (53, [some (.ref 162), some (.int (nI 2)), some (.int 1), x3], [.int (nI j)], (mset h 16 (.int (nI (p + 1)))), 198, sl) = some R := hh
      generalize mset h 16 (.int (nI (p + 1))) = h2 at hh q2 g2
      have hh : pm_run PT n fr lo 195 (53, [some (.ref 162), some (.int (nI 2)), some (.int 1), x3], [.int (nI j)], h2, 198, sl) = some R := hh
      obtain ⟨n, hh⟩ := rn_i rfl rfl rfl rfl hh
      obtain ⟨n, hh⟩ := rn_i rfl rfl rfl rfl hh
      have hh : pm_run PT n fr lo 195 (55, [some (.ref 162), some (.int (nI 2)), some (.int 1), some (.int (nI j))], [.int (nI j)], h2, 198, sl) = some R := hh
      obtain ⟨n, hh⟩ := rn_if (cc := .ge) (off := 5) (t := 60) rfl rfl hh
      rw [ge0_val (by rw [nI_toInt (by omega)]; omega)] at hh
      have hh : pm_run PT n fr lo 195 (60, [some (.ref 162), some (.int (nI 2)), some (.int 1), some (.int (nI j))], [], h2, 198, sl) = some R := hh
      obtain ⟨n, hh⟩ := rn_i rfl rfl rfl rfl hh
      obtain ⟨n, hh⟩ := rn_i rfl rfl rfl rfl hh
      obtain ⟨n, hh⟩ := rn_i rfl rfl rfl rfl hh
      obtain ⟨n, hh⟩ := rn_i rfl rfl rfl rfl hh
      have hh : pm_run PT n fr lo 195 (64, [some (.ref 162), some (.int (nI 2)), some (.int 1), some (.int (nI j))], [.int (nI 3), .ref 162], h2, 198, sl) = some R := hh
      obtain ⟨n, fr', lo', r1, hr1, hh⟩ := rn_call (w := 0) (t := 195) rfl rfl hh
      obtain ⟨b1, b2, b3, b4⟩ := ih 3 ns (p + 1) _ _ _ _ _ _ _ (by omega) hns (by omega) (by omega) (by omega) q2 g2 hr1
      obtain ⟨rv, h4, s4⟩ := r1
      dsimp only at b1 b2 b3 b4
      subst b1
      subst b4
      have hle := pz_le (f := tp) (t := t) m 3 ns (p + 1) (by omega)
      have hge := pz_ge (f := tp) (t := t) m 3 ns (p + 1)
      have hlen := pr_len (f := tp) (t := t) m 3 ns (p + 1)
      have hh : pm_run PT n fr lo 195 (67, [some (.ref 162), some (.int (nI 2)), some (.int 1), some (.int (nI j))], [.int (cond (pz tp t m 3 ns (p + 1)).1 1 0)], h4, 198, sl) = some R := hh
      obtain ⟨n, hh⟩ := rn_if (cc := .ne) (off := 5) (t := 72) rfl rfl hh
      cases zr : (pz tp t m 3 ns (p + 1)).1 with
      | false =>
        rw [zr] at hh
        have hh : pm_run PT n fr lo 195 (70, [some (.ref 162), some (.int (nI 2)), some (.int 1), some (.int (nI j))], [], h4, 198, sl) = some R := hh
        obtain ⟨n, hh⟩ := rn_i rfl rfl rfl rfl hh
        exact zN_no b2 (rn_ret rfl (Or.inr rfl) hh).2
      | true =>
        rw [zr] at hh b3
        obtain ⟨g4, b5⟩ := b3 rfl
        have hlen := hlen zr
        have hh : pm_run PT n fr lo 195 (72, [some (.ref 162), some (.int (nI 2)), some (.int 1), some (.int (nI j))], [], h4, 198, sl) = some R := hh
        obtain ⟨n, hh⟩ := rn_i rfl rfl rfl rfl hh
        obtain ⟨n, hh⟩ := rn_i rfl rfl rfl rfl hh
        obtain ⟨n, hh⟩ := rn_i rfl rfl rfl rfl hh
        obtain ⟨n, hh⟩ := rn_i rfl rfl rfl rfl hh
        obtain ⟨n, hh⟩ := rn_i rfl rfl rfl rfl hh
        have hh : pm_run PT n fr lo 195 (79, [some (.ref 162), some (.int (nI 2)), some (.int 1), some (.int (nI j))], [.int (nI 2), .int (2000 + (nI j)), .ref 162], h4, 198, sl) = some R := hh
        obtain ⟨n, hh⟩ := rn_if (cc := .ne) (off := 7) (t := 86) rfl rfl hh
        have hh : pm_run PT n fr lo 195 (86, [some (.ref 162), some (.int (nI 2)), some (.int 1), some (.int (nI j))], [.int (2000 + (nI j)), .ref 162], h4, 198, sl) = some R := hh
        obtain ⟨n, hh⟩ := rn_i rfl rfl rfl rfl hh
        obtain ⟨n, hh⟩ := rn_i rfl rfl rfl rfl hh
        obtain ⟨n, hh⟩ := rn_icmp (cc := .ne) (off := 7) (t := 95) rfl rfl hh
        have hh : pm_run PT n fr lo 195 (95, [some (.ref 162), some (.int (nI 2)), some (.int 1), some (.int (nI j))], [.int (2000 + (nI j)), .ref 162], h4, 198, sl) = some R := hh
        obtain ⟨n, hh⟩ := rn_i rfl rfl rfl rfl hh
        have hh : pm_run PT n fr lo 195 (96, [some (.ref 162), some (.int (nI 2)), some (.int 1), some (.int (nI j))], [.int 5, .int (2000 + (nI j)), .ref 162], h4, 198, sl) = some R := hh
        obtain ⟨n, hh⟩ := rn_i rfl rfl rfl rfl hh
        have hh : pm_run PT n fr lo 195 (97, [some (.ref 162), some (.int (nI 2)), some (.int 1), some (.int (nI j))], [.int ((2000 + (nI j)) + 5), .ref 162], h4, 198, sl) = some R := hh
        rw [show (2000 : Int32) + nI j + 5 = rop 2 (tp p) from rop_2 zt] at hh
        have hh : pm_run PT n fr lo 195 (97, [some (.ref 162), some (.int (nI 2)), some (.int 1), some (.int (nI j))], [.int (rop 2 (tp p)), .ref 162], h4, 198, sl) = some R := hh
        obtain ⟨n, fr', lo', r1, hr1, hh⟩ := rn_call (w := 0) (t := 193) rfl rfl hh
        obtain ⟨d1, d2, d3, d4⟩ := cod_runN (by rw [List.length_append]; omega) b5 hr1
        obtain ⟨rv, h5, s5⟩ := r1
        dsimp only at d1 d2 d3 d4
        subst d1
        subst d4
        have g5 := d3 _ g4
        have hh : pm_run PT n fr lo 195 (100, [some (.ref 162), some (.int (nI 2)), some (.int 1), some (.int (nI j))], [], h5, 198, sl) = some R := hh
        obtain ⟨n, hh⟩ := rn_i rfl rfl rfl rfl hh
        obtain ⟨n, hh⟩ := rn_if (cc := .le) (off := 7) (t := 108) rfl rfl hh
        have hh : pm_run PT n fr lo 195 (104, [some (.ref 162), some (.int (nI 2)), some (.int 1), some (.int (nI j))], [], h5, 198, sl) = some R := hh
        obtain ⟨n, hh⟩ := rn_i rfl rfl rfl rfl hh
        obtain ⟨n, hh⟩ := rn_i rfl rfl rfl rfl hh
        obtain ⟨n, hh⟩ := rn_i rfl rfl rfl rfl hh
        obtain ⟨n, hh⟩ := rn_i rfl rfl rfl rfl hh
        have hh : pm_run PT n fr lo 195 (24, [some (.ref 162), some (.int (nI 2)), some (.int 1), some (.int (nI j))], [], h5, 198, sl) = some R := hh
        have q9 := ihk _ n _ h5 _ (by omega) hle (by rw [List.length_append, List.length_append]; show _ + _ + 1 ≤ _; omega) d2 g5 hh
        obtain ⟨r1, r2, r3, r4⟩ := q9
        exact ⟨r1, r2, fun y => ⟨(r3 y).1, by have y := (r3 y).2; rw [List.append_assoc, List.append_assoc] at y; exact y⟩, r4⟩
theorem rN_all {tp : Nat → Int32} (ht : t ≤ 40) : ∀ m, rN m t tp
  | 0 => by
    intro lv ns p n fr lo sl h R cs h1 h2 h3 hp hl0 q h18 hh
    omega
  | m + 1 => by
    intro lv ns p n fr lo sl h R cs h1 h2 h3 hp hl0 q h18 hh
    have ih := rN_all (tp := tp) ht m
    rcases (by omega : lv = 3 ∨ lv = 0 ∨ lv = 1 ∨ lv = 2) with rfl | rfl | rfl | rfl
    · show zN R t sl ns tp cs (zth (pz tp t m 0 (ns + 1)) tp t ns (zmi tp t 40 p)) (rthm tp t m ns p)
      obtain ⟨n, hh⟩ := rn_i rfl rfl rfl rfl hh
      obtain ⟨n, hh⟩ := rn_i rfl rfl rfl rfl hh
      obtain ⟨n, hh⟩ := rn_icmp (cc := .ne) (off := 8) (t := 10) rfl rfl hh
      have hh : pm_run PT n fr lo 195 (5, [some (.ref 162), some (.int (nI 3)), none, none], [], h, 198, sl) = some R := hh
      obtain ⟨n, hh⟩ := rn_i rfl rfl rfl rfl hh
      obtain ⟨n, fr', lo', r1, hr1, hh⟩ := rn_call (w := 0) (t := 194) rfl rfl hh
      obtain ⟨b1, b2, b3, b4⟩ := thn_run ht ih h2 (by omega) t p _ _ _ _ h _ (by omega) hp hl0 q h18 hr1
      obtain ⟨rv, h3, s3⟩ := r1
      dsimp only at b1 b2 b3 b4
      subst b1
      subst b4
      have hh : pm_run PT n fr lo 195 (9, [some (.ref 162), some (.int (nI 3)), none, none], [.int (cond (zth (pz tp t m 0 (ns + 1)) tp t ns (zmi tp t 40 p)).1 1 0)], h3, 198, sl) = some R := hh
      have e := (rn_ret rfl (Or.inr rfl) hh).2
      rw [e]
      exact ⟨rfl, b2, b3, rfl⟩
    · show zN R t sl ns tp cs (cond (pz tp t m 1 ns p).1 (zlp (pz tp t m 1 ns) tp t 0 1 (pz tp t m 1 ns p).2) (false, (pz tp t m 1 ns p).2)) (pr tp t m 1 ns p ++ rlp (pr tp t m 1 ns) (pz tp t m 1 ns) tp t 0 1 (pz tp t m 1 ns p).2)
      obtain ⟨n, hh⟩ := rn_i rfl rfl rfl rfl hh
      obtain ⟨n, hh⟩ := rn_i rfl rfl rfl rfl hh
      obtain ⟨n, hh⟩ := rn_icmp (cc := .ne) (off := 8) (t := 10) rfl rfl hh
      have hh : pm_run PT n fr lo 195 (10, [some (.ref 162), some (.int (nI 0)), none, none], [], h, 198, sl) = some R := hh
      obtain ⟨n, hh⟩ := rn_i rfl rfl rfl rfl hh
      obtain ⟨n, hh⟩ := rn_i rfl rfl rfl rfl hh
      obtain ⟨n, hh⟩ := rn_i rfl rfl rfl rfl hh
      obtain ⟨n, hh⟩ := rn_i rfl rfl rfl rfl hh
      have hh : pm_run PT n fr lo 195 (14, [some (.ref 162), some (.int (nI 0)), none, none], [.int (nI 1), .ref 162], h, 198, sl) = some R := hh
      obtain ⟨n, fr', lo', r1, hr1, hh⟩ := rn_call (w := 0) (t := 195) rfl rfl hh
      obtain ⟨b1, b2, b3, b4⟩ := ih 1 ns p _ _ _ _ _ _ _ (by omega) h2 (by omega) hp hl0 q h18 hr1
      obtain ⟨rv, h3, s3⟩ := r1
      dsimp only at b1 b2 b3 b4
      subst b1
      subst b4
      have hle := pz_le (f := tp) (t := t) m 1 ns p hp
      have hlen := pr_len (f := tp) (t := t) m 1 ns p
      have hh : pm_run PT n fr lo 195 (17, [some (.ref 162), some (.int (nI 0)), none, none], [.int (cond (pz tp t m 1 ns p).1 1 0)], h3, 198, sl) = some R := hh
      obtain ⟨n, hh⟩ := rn_if (cc := .ne) (off := 5) (t := 22) rfl rfl hh
      cases zr : (pz tp t m 1 ns p).1 with
      | false =>
        rw [zr] at hh
        have hh : pm_run PT n fr lo 195 (20, [some (.ref 162), some (.int (nI 0)), none, none], [], h3, 198, sl) = some R := hh
        obtain ⟨n, hh⟩ := rn_i rfl rfl rfl rfl hh
        exact zN_no b2 (rn_ret rfl (Or.inr rfl) hh).2
      | true =>
        rw [zr] at hh b3
        obtain ⟨g3, b5⟩ := b3 rfl
        have hlen := hlen zr
        have hh : pm_run PT n fr lo 195 (22, [some (.ref 162), some (.int (nI 0)), none, none], [], h3, 198, sl) = some R := hh
        obtain ⟨n, hh⟩ := rn_i rfl rfl rfl rfl hh
        obtain ⟨n, hh⟩ := rn_i rfl rfl rfl rfl hh
        have hh : pm_run PT n fr lo 195 (24, [some (.ref 162), some (.int (nI 0)), some (.int 1), none], [], h3, 198, sl) = some R := hh
        have q9 := lpn_0 ht ih h2 (by omega) hle (by rw [List.length_append]; omega) b5 g3 hh
        obtain ⟨r1, r2, r3, r4⟩ := q9
        exact ⟨r1, r2, fun y => ⟨(r3 y).1, by have y := (r3 y).2; rw [List.append_assoc] at y; exact y⟩, r4⟩
    · show zN R t sl ns tp cs (cond (pz tp t m 2 ns p).1 (zlp (pz tp t m 2 ns) tp t 1 40 (pz tp t m 2 ns p).2) (false, (pz tp t m 2 ns p).2)) (pr tp t m 2 ns p ++ rlp (pr tp t m 2 ns) (pz tp t m 2 ns) tp t 1 40 (pz tp t m 2 ns p).2)
      obtain ⟨n, hh⟩ := rn_i rfl rfl rfl rfl hh
      obtain ⟨n, hh⟩ := rn_i rfl rfl rfl rfl hh
      obtain ⟨n, hh⟩ := rn_icmp (cc := .ne) (off := 8) (t := 10) rfl rfl hh
      have hh : pm_run PT n fr lo 195 (10, [some (.ref 162), some (.int (nI 1)), none, none], [], h, 198, sl) = some R := hh
      obtain ⟨n, hh⟩ := rn_i rfl rfl rfl rfl hh
      obtain ⟨n, hh⟩ := rn_i rfl rfl rfl rfl hh
      obtain ⟨n, hh⟩ := rn_i rfl rfl rfl rfl hh
      obtain ⟨n, hh⟩ := rn_i rfl rfl rfl rfl hh
      have hh : pm_run PT n fr lo 195 (14, [some (.ref 162), some (.int (nI 1)), none, none], [.int (nI 2), .ref 162], h, 198, sl) = some R := hh
      obtain ⟨n, fr', lo', r1, hr1, hh⟩ := rn_call (w := 0) (t := 195) rfl rfl hh
      obtain ⟨b1, b2, b3, b4⟩ := ih 2 ns p _ _ _ _ _ _ _ (by omega) h2 (by omega) hp hl0 q h18 hr1
      obtain ⟨rv, h3, s3⟩ := r1
      dsimp only at b1 b2 b3 b4
      subst b1
      subst b4
      have hle := pz_le (f := tp) (t := t) m 2 ns p hp
      have hlen := pr_len (f := tp) (t := t) m 2 ns p
      have hh : pm_run PT n fr lo 195 (17, [some (.ref 162), some (.int (nI 1)), none, none], [.int (cond (pz tp t m 2 ns p).1 1 0)], h3, 198, sl) = some R := hh
      obtain ⟨n, hh⟩ := rn_if (cc := .ne) (off := 5) (t := 22) rfl rfl hh
      cases zr : (pz tp t m 2 ns p).1 with
      | false =>
        rw [zr] at hh
        have hh : pm_run PT n fr lo 195 (20, [some (.ref 162), some (.int (nI 1)), none, none], [], h3, 198, sl) = some R := hh
        obtain ⟨n, hh⟩ := rn_i rfl rfl rfl rfl hh
        exact zN_no b2 (rn_ret rfl (Or.inr rfl) hh).2
      | true =>
        rw [zr] at hh b3
        obtain ⟨g3, b5⟩ := b3 rfl
        have hlen := hlen zr
        have hh : pm_run PT n fr lo 195 (22, [some (.ref 162), some (.int (nI 1)), none, none], [], h3, 198, sl) = some R := hh
        obtain ⟨n, hh⟩ := rn_i rfl rfl rfl rfl hh
        obtain ⟨n, hh⟩ := rn_i rfl rfl rfl rfl hh
        have hh : pm_run PT n fr lo 195 (24, [some (.ref 162), some (.int (nI 1)), some (.int 1), none], [], h3, 198, sl) = some R := hh
        have q9 := lpn_1 ht ih h2 (by omega) 40 _ n _ h3 _ (by omega) hle (by rw [List.length_append]; omega) b5 g3 hh
        obtain ⟨r1, r2, r3, r4⟩ := q9
        exact ⟨r1, r2, fun y => ⟨(r3 y).1, by have y := (r3 y).2; rw [List.append_assoc] at y; exact y⟩, r4⟩
    · show zN R t sl ns tp cs (cond (pz tp t m 3 ns p).1 (zlp (pz tp t m 3 ns) tp t 2 40 (pz tp t m 3 ns p).2) (false, (pz tp t m 3 ns p).2)) (pr tp t m 3 ns p ++ rlp (pr tp t m 3 ns) (pz tp t m 3 ns) tp t 2 40 (pz tp t m 3 ns p).2)
      obtain ⟨n, hh⟩ := rn_i rfl rfl rfl rfl hh
      obtain ⟨n, hh⟩ := rn_i rfl rfl rfl rfl hh
      obtain ⟨n, hh⟩ := rn_icmp (cc := .ne) (off := 8) (t := 10) rfl rfl hh
      have hh : pm_run PT n fr lo 195 (10, [some (.ref 162), some (.int (nI 2)), none, none], [], h, 198, sl) = some R := hh
      obtain ⟨n, hh⟩ := rn_i rfl rfl rfl rfl hh
      obtain ⟨n, hh⟩ := rn_i rfl rfl rfl rfl hh
      obtain ⟨n, hh⟩ := rn_i rfl rfl rfl rfl hh
      obtain ⟨n, hh⟩ := rn_i rfl rfl rfl rfl hh
      have hh : pm_run PT n fr lo 195 (14, [some (.ref 162), some (.int (nI 2)), none, none], [.int (nI 3), .ref 162], h, 198, sl) = some R := hh
      obtain ⟨n, fr', lo', r1, hr1, hh⟩ := rn_call (w := 0) (t := 195) rfl rfl hh
      obtain ⟨b1, b2, b3, b4⟩ := ih 3 ns p _ _ _ _ _ _ _ (by omega) h2 (by omega) hp hl0 q h18 hr1
      obtain ⟨rv, h3, s3⟩ := r1
      dsimp only at b1 b2 b3 b4
      subst b1
      subst b4
      have hle := pz_le (f := tp) (t := t) m 3 ns p hp
      have hlen := pr_len (f := tp) (t := t) m 3 ns p
      have hh : pm_run PT n fr lo 195 (17, [some (.ref 162), some (.int (nI 2)), none, none], [.int (cond (pz tp t m 3 ns p).1 1 0)], h3, 198, sl) = some R := hh
      obtain ⟨n, hh⟩ := rn_if (cc := .ne) (off := 5) (t := 22) rfl rfl hh
      cases zr : (pz tp t m 3 ns p).1 with
      | false =>
        rw [zr] at hh
        have hh : pm_run PT n fr lo 195 (20, [some (.ref 162), some (.int (nI 2)), none, none], [], h3, 198, sl) = some R := hh
        obtain ⟨n, hh⟩ := rn_i rfl rfl rfl rfl hh
        exact zN_no b2 (rn_ret rfl (Or.inr rfl) hh).2
      | true =>
        rw [zr] at hh b3
        obtain ⟨g3, b5⟩ := b3 rfl
        have hlen := hlen zr
        have hh : pm_run PT n fr lo 195 (22, [some (.ref 162), some (.int (nI 2)), none, none], [], h3, 198, sl) = some R := hh
        obtain ⟨n, hh⟩ := rn_i rfl rfl rfl rfl hh
        obtain ⟨n, hh⟩ := rn_i rfl rfl rfl rfl hh
        have hh : pm_run PT n fr lo 195 (24, [some (.ref 162), some (.int (nI 2)), some (.int 1), none], [], h3, 198, sl) = some R := hh
        have q9 := lpn_2 ht ih h2 (by omega) 40 _ n _ h3 _ (by omega) hle (by rw [List.length_append]; omega) b5 g3 hh
        obtain ⟨r1, r2, r3, r4⟩ := q9
        exact ⟨r1, r2, fun y => ⟨(r3 y).1, by have y := (r3 y).2; rw [List.append_assoc] at y; exact y⟩, r4⟩
end ZRN
end MH95zux6
section MH95zux7
section MG95zzxax0
/-! the heap read by its typing: contents as functions of the heap -/
section AUT
variable {n fr lo k pc sl : Nat} {L : pm_L} {S : List Value} {h h' : pm_H} {R : pm_Rs}
/-- the typing without its intervals -/
def wk (a : av) : av := cond (Nat.beq a.1 0) ai_top (cond (Nat.beq a.1 1) al_top a)
def wd (c : ac) : ac := match c with
  | .inl (kd, n, a) => .inl (kd, n, wk a)
  | .inr (ci, as) => cond (Nat.ble 1000 ci) (.inl (ci - 1000, as.length, ai_top)) (.inr (ci, as.map wk))
def WT (h : pm_H) : Prop := ∀ i, i < 198 → ac_ok (h i) (wd (bB i))
theorem wk_ok {v : Value} {a : av} (q : av_ok v a) : av_ok v (wk a) := by
  cases v with
  | int x =>
    have e : a.1 = 0 := q.1
    unfold wk
    rw [e]
    exact ai_top_ok x
  | long x =>
    have e : a.1 = 1 := q.1
    unfold wk
    rw [e]
    exact al_top_ok x
  | ref p =>
    have e : a.1 = 2 := q.1
    unfold wk
    rw [e]
    exact q
  | null =>
    have e : a.1 = 3 := q
    unfold wk
    rw [e]
    exact q
  | retAddr i =>
    have e : a.1 = 4 := q.1
    unfold wk
    rw [e]
    exact q
  | _ => exact q.elim
theorem wk_2 {a : av} (e : a.1 = 2) : wk a = a := by
  unfold wk
  rw [e]
  rfl
theorem wk_n2 {a : av} (e : a.1 ≠ 2) : (wk a).1 ≠ 2 := by
  unfold wk
  cases Nat.beq a.1 0 with
  | true => exact (by decide : ai_top.1 ≠ 2)
  | false =>
    cases Nat.beq a.1 1 with
    | true => exact (by decide : al_top.1 ≠ 2)
    | false => exact e
theorem wk_aq {v : Value} {a : av} {j : Nat} (q : av_ok v (aq a j)) : av_ok v (aq (wk a) j) := by
  by_cases z : a.1 = 2
  · rw [wk_2 z]
    exact q
  · unfold aq at q ⊢
    rw [if_neg z] at q
    rw [if_neg (wk_n2 z)]
    exact wk_ok q
theorem wd_ok {e : pm_E} {c : ac} (q : ac_ok e c) : ac_ok e (wd c) := by
  rcases e with ⟨kd, n, f | f | f | f | f⟩ | ⟨ci, fs⟩
  · rcases c with ⟨kd', n', a⟩ | ⟨ci', as⟩
    · exact ⟨q.1, q.2.1, fun j hj => wk_ok (q.2.2 j hj)⟩
    · obtain ⟨rfl, q2, -⟩ := q
      show ac_ok _ (cond (Nat.ble 1000 (1000 + kd)) _ _)
      rw [show Nat.ble 1000 (1000 + kd) = true from Nat.ble_eq_true_of_le (Nat.le_add_right _ _)]
      exact ⟨by omega, q2, fun j _ => ai_top_ok _⟩
  · rcases c with ⟨kd', n', a⟩ | ⟨ci', as⟩
    · exact ⟨q.1, q.2.1, fun j hj => wk_ok (q.2.2 j hj)⟩
    · exact q.elim
  · rcases c with ⟨kd', n', a⟩ | ⟨ci', as⟩
    · exact q.elim
    · exact q.elim
  · rcases c with ⟨kd', n', a⟩ | ⟨ci', as⟩
    · exact q.elim
    · exact q.elim
  · rcases c with ⟨kd', n', a⟩ | ⟨ci', as⟩
    · exact ⟨q.1, q.2.1, fun j hj => wk_aq (q.2.2 j hj)⟩
    · exact q.elim
  · rcases c with ⟨kd', n', a⟩ | ⟨ci', as⟩
    · exact q.elim
    · obtain ⟨⟨rfl, q1⟩, q2, q3⟩ := q
      show ac_ok _ (cond (Nat.ble 1000 ci) _ _)
      rw [show Nat.ble 1000 ci = false by
        cases z : Nat.ble 1000 ci with
        | false => rfl
        | true => exact absurd (Nat.le_of_ble_eq_true z) (by omega)]
      refine ⟨⟨rfl, q1⟩, by rw [List.length_map]; exact q2, fun i v a hv ha => ?_⟩
      rw [List.getElem?_map] at ha
      cases z : as[i]? with
      | none => rw [z] at ha; cases ha
      | some b =>
        rw [z] at ha
        cases ha
        exact wk_ok (q3 i v b hv z)
theorem wt_of (hI : ah_ok bB 198 [] h) : WT h := fun i hi => wd_ok (hI i hi)
def Ar (h : pm_H) (a : Nat) : Nat → Int32 := match h a with
  | .inl (_, _, .inl f) => f
  | _ => fun _ => 0
def Fi (h : pm_H) (c g : Nat) : Int32 := match h c with
  | .inr (_, fs) => (match fs[g]? with
    | some (.int x) => x
    | _ => 0)
  | _ => 0
def fset (h : pm_H) (c g : Nat) (v : Value) : pm_H := va_up h c (match h c with
  | .inr (ci, fs) => .inr (ci, fs.set g v)
  | e => e)
theorem wt_a {a kd m : Nat} (hw : WT h) (ha : a < 198) (hb : wd (bB a) = .inl (kd, m, ai_top)) (hm : 0 < m) : h a = .inl (kd, m, .inl (Ar h a)) := by
  have q := hw a ha
  rw [hb] at q
  unfold Ar
  generalize h a = e at q ⊢
  rcases e with ⟨kd', n', f | f | f | f | f⟩ | ⟨ci, fs⟩
  · obtain ⟨rfl, rfl, -⟩ := q
    rfl
  · obtain ⟨-, rfl, q⟩ := q
    exact absurd (q 0 hm).1 (by decide)
  · exact q.elim
  · exact q.elim
  · obtain ⟨-, rfl, q⟩ := q
    have q : av_ok (va_rf (f 0)) ai_top := q 0 hm
    cases e2 : f 0 with
    | none => rw [e2] at q; exact absurd (show ai_top.1 = 3 from q) (by decide)
    | some p => rw [e2] at q; exact absurd (show ai_top.1 = 2 from q.1) (by decide)
  · exact q.elim
theorem wt_i {c ci g : Nat} {as : List av} (hw : WT h) (hc : c < 198) (hb : wd (bB c) = .inr (ci, as)) (hl : ci < 1000) (hg : as[g]? = some ai_top) : ∃ fs, h c = .inr (ci, fs) ∧ fs[g]? = some (.int (Fi h c g)) := by
  have q := hw c hc
  rw [hb] at q
  obtain ⟨fs, e, hl', hv⟩ := aE_obj q hl
  have hlt : g < fs.length := by rw [hl']; exact (List.getElem?_eq_some_iff.mp hg).1
  have ev : fs[g]? = some fs[g] := List.getElem?_eq_getElem hlt
  have q := hv g _ _ ev hg
  refine ⟨fs, e, ?_⟩
  cases e2 : fs[g] with
  | int x =>
    have e3 : Fi h c g = x := by
      unfold Fi
      rw [e]
      dsimp only
      rw [ev, e2]
    rw [ev, e2, e3]
  | null => rw [e2] at q; exact absurd (show ai_top.1 = 3 from q) (by decide)
  | _ => rw [e2] at q; first | exact q.elim | exact absurd q.1 (by decide)
theorem wt_r {c ci g p : Nat} {as : List av} (hw : WT h) (hc : c < 198) (hb : wd (bB c) = .inr (ci, as)) (hl : ci < 1000) (hg : as[g]? = some (2, (p : Int), 1)) (hi : av_ids (2, (p : Int), 1) = [p]) : ∃ fs, h c = .inr (ci, fs) ∧ fs[g]? = some (.ref p) := by
  have q := hw c hc
  rw [hb] at q
  obtain ⟨fs, e, hl', hv⟩ := aE_obj q hl
  have hlt : g < fs.length := by rw [hl']; exact (List.getElem?_eq_some_iff.mp hg).1
  have ev : fs[g]? = some fs[g] := List.getElem?_eq_getElem hlt
  have q := hv g _ _ ev hg
  refine ⟨fs, e, ?_⟩
  cases e2 : fs[g] with
  | ref x =>
    rw [e2] at q
    have q := q.2
    rw [hi] at q
    rw [ev, e2, List.mem_singleton.mp q]
  | null => rw [e2] at q; exact absurd (show (2 : Nat) = 3 from q) (by decide)
  | _ => rw [e2] at q; first | exact q.elim | exact absurd (show (2 : Nat) = _ from q.1) (by decide)
/-- contents behind a store -/
theorem Ar_s {a m : Nat} {f : Nat → Int32} : Ar (aset h a m f) a = f := by
  unfold Ar
  rw [asR_self]
theorem Ar_n {a b m : Nat} {f : Nat → Int32} (hn : b ≠ a) : Ar (aset h a m f) b = Ar h b := by
  unfold Ar
  rw [asR_ne hn]
theorem Ar_f {b c g : Nat} {v : Value} : Ar (fset h c g v) b = Ar h b := by
  unfold Ar fset
  by_cases z : b = c
  · subst z
    rw [show va_up h b _ b = _ from if_pos rfl]
    generalize h b = e
    rcases e with ⟨kd', n', f | f | f | f | f⟩ | ⟨ci, fs⟩ <;> rfl
  · rw [show va_up h c _ b = h b from if_neg z]
theorem Ar_e {b : Nat} (e : h' b = h b) : Ar h' b = Ar h b := by
  unfold Ar
  rw [e]
theorem Fi_e {c g : Nat} (e : h' c = h c) : Fi h' c g = Fi h c g := by
  unfold Fi
  rw [e]
theorem Fi_a {a c g m : Nat} {f : Nat → Int32} (hn : c ≠ a) : Fi (aset h a m f) c g = Fi h c g := Fi_e (asR_ne hn)
theorem Fi_s {c ci g : Nat} {as : List av} {x : Int32} (hw : WT h) (hc : c < 198) (hb : wd (bB c) = .inr (ci, as)) (hl : ci < 1000) (hg : as[g]? = some ai_top) : Fi (fset h c g (.int x)) c g = x := by
  obtain ⟨fs, e, e1⟩ := wt_i hw hc hb hl hg
  unfold Fi fset
  rw [show va_up h c _ c = _ from if_pos rfl, e]
  dsimp only
  rw [List.getElem?_set_self (List.getElem?_eq_some_iff.mp e1).1]
theorem Fi_n {c c' g g' : Nat} {v : Value} (hn : c' ≠ c ∨ g' ≠ g) : Fi (fset h c g v) c' g' = Fi h c' g' := by
  unfold Fi fset
  by_cases z : c' = c
  · subst z
    rw [show va_up h c' _ c' = _ from if_pos rfl]
    generalize h c' = e
    rcases e with ⟨kd', n', f | f | f | f | f⟩ | ⟨ci, fs⟩
    · rfl
    · rfl
    · rfl
    · rfl
    · rfl
    · dsimp only
      rw [List.getElem?_set_ne (fun q => hn.elim (fun y => y rfl) (fun y => y q.symm))]
  · rw [show va_up h c _ c' = h c' from if_neg z]
/-- the typing is kept -/
theorem wt_as {a m : Nat} {f : Nat → Int32} (hb : wd (bB a) = .inl (0, m, ai_top)) (hw : WT h) : WT (aset h a m f) := by
  intro i hi
  by_cases z : i = a
  · subst z
    rw [asR_self, hb]
    exact ⟨rfl, rfl, fun j _ => ai_top_ok _⟩
  · rw [asR_ne z]
    exact hw i hi
theorem wt_fs {c ci g : Nat} {as : List av} {x : Int32} (hb : wd (bB c) = .inr (ci, as)) (hl : ci < 1000) (hg : as[g]? = some ai_top) (hw : WT h) : WT (fset h c g (.int x)) := by
  intro i hi
  unfold fset
  by_cases z : i = c
  · subst z
    have q := hw i hi
    rw [hb] at q ⊢
    obtain ⟨fs, e, hl', hv⟩ := aE_obj q hl
    rw [show va_up h i _ i = _ from if_pos rfl, e]
    refine ⟨⟨rfl, hl⟩, by rw [List.length_set]; exact hl', fun j v a hv' ha => ?_⟩
    by_cases y : j = g
    · subst y
      rw [hg] at ha
      cases ha
      have hlt : j < fs.length := by rw [hl']; exact (List.getElem?_eq_some_iff.mp hg).1
      rw [List.getElem?_set_self hlt] at hv'
      cases hv'
      exact ai_top_ok x
    · rw [List.getElem?_set_ne (fun q => y q.symm)] at hv'
      exact hv j v a hv' ha
  · rw [show va_up h c _ i = h i from if_neg z]
    exact hw i hi
/-- the steps -/
theorem en_in {i : Int32} {m : Nat} (z : pm_in i m = true) : i.toNatClampNeg < m := by
  have z : ¬ (i < 0 ∨ m ≤ i.toNatClampNeg) := of_decide_eq_true z
  omega
theorem rn_gi {a ci g j t : Nat} {as : List av} {x : Int32} (hw : WT h) (hi : pm_ins PT k pc = some (.getfield j, 3)) (hf : pm_fld PT (pm_o PT k) j = some (ci, g, t)) (ha : a < 198) (hb : wd (bB a) = .inr (ci, as)) (hl : ci < 1000) (hg : as[g]? = some ai_top) (e : Fi h a g = x) (hh : pm_run PT n fr lo k (pc, L, .ref a :: S, h, 198, sl) = some R) : ∃ m, pm_run PT m fr lo k (pc + 3, L, .int x :: S, h, 198, sl) = some R := by
  obtain ⟨fs, e1, e2⟩ := wt_i hw ha hb hl hg
  rw [e] at e2
  exact rn_gfo hi hf ha e1 e2 hh
theorem rn_gr {a ci g j t p : Nat} {as : List av} (hw : WT h) (hi : pm_ins PT k pc = some (.getfield j, 3)) (hf : pm_fld PT (pm_o PT k) j = some (ci, g, t)) (ha : a < 198) (hb : wd (bB a) = .inr (ci, as)) (hl : ci < 1000) (hg : as[g]? = some (2, (p : Int), 1)) (hi2 : av_ids (2, (p : Int), 1) = [p]) (hh : pm_run PT n fr lo k (pc, L, .ref a :: S, h, 198, sl) = some R) : ∃ m, pm_run PT m fr lo k (pc + 3, L, .ref p :: S, h, 198, sl) = some R := by
  obtain ⟨fs, e1, e2⟩ := wt_r hw ha hb hl hg hi2
  exact rn_gfo hi hf ha e1 e2 hh
theorem en_ias {a m : Nat} {i : Int32} {g : Nat → Int32} (hi : pm_ins PT k pc = some (.iaload, 1)) (ha : h a = .inl (0, m, .inl g)) (hl : a < 198) (hh : pm_run PT n fr lo k (pc, L, .int i :: .ref a :: S, h, 198, sl) = some R) : ∃ q, i.toNatClampNeg < m ∧ pm_run PT q fr lo k (pc + 1, L, .int (g i.toNatClampNeg) :: S, h, 198, sl) = some R := by
  obtain ⟨st, q, e, hh⟩ := rn_ex hi rfl (fun q => by cases q) (fun q => by cases q) (fun q => by cases q) hh
  have e : pm_ia PT .int pc L (.int i :: .ref a :: S) h 198 sl = some st := e
  unfold pm_ia at e
  dsimp only at e
  rw [pm_iar_m ha hl] at e
  dsimp only at e
  by_cases z : pm_in i m = true
  · rw [if_pos z] at e
    cases e
    exact ⟨q, en_in z, hh⟩
  · rw [if_neg z] at e
    cases e
theorem en_iss {a m : Nat} {i x : Int32} {g : Nat → Int32} (hi : pm_ins PT k pc = some (.iastore, 1)) (ha : h a = .inl (0, m, .inl g)) (hl : a < 198) (hh : pm_run PT n fr lo k (pc, L, .int x :: .int i :: .ref a :: S, h, 198, sl) = some R) : ∃ q, i.toNatClampNeg < m ∧ pm_run PT q fr lo k (pc + 1, L, S, aset h a m (upd g i.toNatClampNeg x), 198, sl) = some R := by
  obtain ⟨st, q, e, hh⟩ := rn_ex hi rfl (fun q => by cases q) (fun q => by cases q) (fun q => by cases q) hh
  have e : pm_iS PT .int (fun x => x) pc L (.int x :: .int i :: .ref a :: S) h 198 sl = some st := e
  unfold pm_iS at e
  dsimp only at e
  rw [pm_iar_m ha hl] at e
  dsimp only at e
  by_cases z : pm_in i m = true
  · rw [if_pos z] at e
    cases e
    exact ⟨q, en_in z, hh⟩
  · rw [if_neg z] at e
    cases e
theorem rn_ai {a m : Nat} {i : Int32} {g : Nat → Int32} (hw : WT h) (hi : pm_ins PT k pc = some (.iaload, 1)) (ha : a < 198) (hb : wd (bB a) = .inl (0, m, ai_top)) (hm : 0 < m) (e : Ar h a = g) (hh : pm_run PT n fr lo k (pc, L, .int i :: .ref a :: S, h, 198, sl) = some R) : ∃ q, i.toNatClampNeg < m ∧ pm_run PT q fr lo k (pc + 1, L, .int (g i.toNatClampNeg) :: S, h, 198, sl) = some R := by
  have e1 := wt_a hw ha hb hm
  rw [e] at e1
  exact en_ias hi e1 ha hh
theorem rn_si {a m : Nat} {i x : Int32} {g : Nat → Int32} (hw : WT h) (hi : pm_ins PT k pc = some (.iastore, 1)) (ha : a < 198) (hb : wd (bB a) = .inl (0, m, ai_top)) (hm : 0 < m) (e : Ar h a = g) (hh : pm_run PT n fr lo k (pc, L, .int x :: .int i :: .ref a :: S, h, 198, sl) = some R) : ∃ q, i.toNatClampNeg < m ∧ pm_run PT q fr lo k (pc + 1, L, S, aset h a m (upd g i.toNatClampNeg x), 198, sl) = some R := by
  have e1 := wt_a hw ha hb hm
  rw [e] at e1
  exact en_iss hi e1 ha hh
theorem rn_pi {a ci g j : Nat} {as : List av} {x : Int32} (hw : WT h) (hi : pm_ins PT k pc = some (.putfield j, 3)) (hf : pm_fld PT (pm_o PT k) j = some (ci, g, 0)) (ha : a < 198) (hb : wd (bB a) = .inr (ci, as)) (hl : ci < 1000) (hg : as[g]? = some ai_top) (hh : pm_run PT n fr lo k (pc, L, .int x :: .ref a :: S, h, 198, sl) = some R) : ∃ m, pm_run PT m fr lo k (pc + 3, L, S, fset h a g (.int x), 198, sl) = some R := by
  obtain ⟨fs, e1, e2⟩ := wt_i hw ha hb hl hg
  have ef : fset h a g (.int x) = va_up h a (.inr (ci, fs.set g (.int x))) := by
    unfold fset
    rw [e1]
  rw [ef]
  exact rn_i hi rfl rfl (pf_eq hf rfl (by decide) ha e1 e2) hh
/-- a division that went through -/
theorem rn_dv {x y : Int32} (hi : pm_ins PT k pc = some (.idiv, 1)) (hh : pm_run PT n fr lo k (pc, L, .int y :: .int x :: S, h, 198, sl) = some R) : ∃ m, y ≠ 0 ∧ pm_run PT m fr lo k (pc + 1, L, .int (x / y) :: S, h, 198, sl) = some R := by
  obtain ⟨st, q, e, hh⟩ := rn_ex hi rfl (fun q => by cases q) (fun q => by cases q) (fun q => by cases q) hh
  have e : (if y = 0 then none else some (pc + 1, L, Value.int (x / y) :: S, h, 198, sl)) = some st := e
  split at e
  · cases e
  · rename_i z
    cases e
    exact ⟨q, z, hh⟩
theorem rn_rm {x y : Int32} (hi : pm_ins PT k pc = some (.irem, 1)) (hh : pm_run PT n fr lo k (pc, L, .int y :: .int x :: S, h, 198, sl) = some R) : ∃ m, y ≠ 0 ∧ pm_run PT m fr lo k (pc + 1, L, .int (x - x / y * y) :: S, h, 198, sl) = some R := by
  obtain ⟨st, q, e, hh⟩ := rn_ex hi rfl (fun q => by cases q) (fun q => by cases q) (fun q => by cases q) hh
  have e : (if y = 0 then none else some (pc + 1, L, Value.int (x - x / y * y) :: S, h, 198, sl)) = some st := e
  split at e
  · cases e
  · rename_i z
    cases e
    exact ⟨q, z, hh⟩
/-- arraycopy that went through -/
theorem rn_cp {a a0 j m0 m w : Nat} {i dp sp : Int32} {f g : Nat → Int32} (hw : WT h) (hi : pm_ins PT k pc = some (.invokestatic j, 3)) (hc : pm_callee PT k (.invokestatic j) = none) (hm : pm_mlk PT (pm_o PT k) j = some (9, w)) (ha0 : a0 < 198) (hb0 : wd (bB a0) = .inl (0, m0, ai_top)) (hm0 : 0 < m0) (e0 : Ar h a0 = f) (ha : a < 198) (hb : wd (bB a) = .inl (0, m, ai_top)) (hm1 : 0 < m) (e1 : Ar h a = g) (hh : pm_run PT n fr lo k (pc, L, .int i :: .int dp :: .ref a :: .int sp :: .ref a0 :: S, h, 198, sl) = some R) : ∃ q, pm_run PT q fr lo k (pc + 3, L, S, aset h a m (va_cpy f g sp.toNatClampNeg dp.toNatClampNeg i.toNatClampNeg), 198, sl) = some R := by
  have f0 := wt_a hw ha0 hb0 hm0
  have f1 := wt_a hw ha hb hm1
  rw [e0] at f0
  rw [e1] at f1
  obtain ⟨st, q, e, hh⟩ := rn_ex hi hc (fun q => by cases q) (fun q => by cases q) (fun q => by cases q) hh
  have e : pm_libW PT false fr lo k j pc L (.int i :: .int dp :: .ref a :: .int sp :: .ref a0 :: S) h 198 sl = some st := e
  unfold pm_libW at e
  rw [hm] at e
  have e : pm_lib PT fr lo 9 pc L (.int i :: .int dp :: .ref a :: .int sp :: .ref a0 :: S) h 198 sl = some st := e
  have e : (match pm_iar PT .int h 198 a0, pm_iar PT .int h 198 a with
    | some (_, n0, f), some (kd, n1, g) => if (1 ≤ fr ∧ pm_sum S + 60 ≤ lo) ∧ ¬ sp < 0 ∧ ¬ dp < 0 ∧ ¬ i < 0 ∧ sp.toNatClampNeg + i.toNatClampNeg ≤ n0 ∧ dp.toNatClampNeg + i.toNatClampNeg ≤ n1 then some (pc + 3, L, S, va_up h a (.inl (kd, n1, .inl (va_cpy f g sp.toNatClampNeg dp.toNatClampNeg i.toNatClampNeg))), 198, sl) else none
    | _, _ => none) = some st := e
  rw [pm_iar_m f0 ha0, pm_iar_m f1 ha] at e
  try dsimp only at e
  split at e
  · cases e
    exact ⟨q, hh⟩
  · cases e
end AUT
end MG95zzxax0
section MG95zzxax1
/-! runs told exactly: the steps that the walker writes -/
/-- the ruling rule's cell, how long its code is, how long the reference's is -/
abbrev QT : Type := Nat × Nat × Nat
section EXT
variable {n fr lo k pc sl cc gc : Nat} {q : QT} {L : pm_L} {S : List Value} {h g h' : pm_H} {R : pm_Rs}
def shl (x y : Int32) : Int32 := x <<< (y &&& 31)
def shr (x y : Int32) : Int32 := x >>> (y &&& 31)
def ushr (x y : Int32) : Int32 := (x.toUInt32 >>> (y.toUInt32 &&& Int32.toUInt32 31)).toInt32
def imin (x y : Int32) : Int32 := if y < x then y else x
def imax (x y : Int32) : Int32 := if x < y then y else x
def irm (x y : Int32) : Int32 := x - x / y * y
theorem cd_s {α : Type} {P : α → Prop} {b : Bool} {x y : α} (hx : b = true → P x) (hy : b = false → P y) : P (cond b x y) := by
  cases b with
  | true => exact hx rfl
  | false => exact hy rfl
/-- counted loops -/
def lp {α : Type} (f : Nat → α → α) : Nat → Nat → α → α
  | 0, _, a => a
  | j + 1, i, a => lp f j (i + 1) (f i a)
def lpE {α β : Type} (f : Nat → α → α ⊕ β) : Nat → Nat → α → α ⊕ β
  | 0, _, a => .inl a
  | j + 1, i, a => match f i a with
    | .inl b => lpE f j (i + 1) b
    | .inr r => .inr r
theorem lpE_l {α β : Type} {f : Nat → α → α ⊕ β} {j i : Nat} {a b : α} (e : f i a = .inl b) : lpE f (j + 1) i a = lpE f j (i + 1) b := by
  show (match f i a with
    | .inl b => lpE f j (i + 1) b
    | .inr r => .inr r) = _
  rw [e]
theorem lpE_r {α β : Type} {f : Nat → α → α ⊕ β} {j i : Nat} {a : α} {r : β} (e : f i a = .inr r) : lpE f (j + 1) i a = .inr r := by
  show (match f i a with
    | .inl b => lpE f j (i + 1) b
    | .inr r => .inr r) = _
  rw [e]
theorem ct {α : Type} {b : Bool} {x y : α} (e : b = true) : cond b x y = x := by rw [e]; rfl
theorem cf {α : Type} {b : Bool} {x y : α} (e : b = false) : cond b x y = y := by rw [e]; rfl
theorem se_l {α β γ : Type} {s : α ⊕ β} {f : α → γ} {g : β → γ} {a : α} (e : s = .inl a) : Sum.elim f g s = f a := by rw [e]; rfl
theorem se_r {α β γ : Type} {s : α ⊕ β} {f : α → γ} {g : β → γ} {b : β} (e : s = .inr b) : Sum.elim f g s = g b := by rw [e]; rfl
/-- the heap that calls find: typed, so many courts and gifts, the ruling rule -/
def HC (q : QT) (cc gc : Nat) (h : pm_H) : Prop := WT h ∧ (Fi h 5 0 = nI cc ∧ Fi h 5 1 = nI gc) ∧ (Fi h 162 3 = nI cc ∧ (Fi h 162 4 = nI gc ∧ (Fi h 162 23 = nI q.2.2 ∧ Fi h q.1 1 = nI q.2.1))) ∧ (cc ≤ 6 ∧ (gc ≤ 8 ∧ (q.2.1 ≤ 40 ∧ q.2.2 ≤ 80))) ∧ ((∃ fs, h 0 = .inr (10, fs) ∧ fs[8]? = some (.ref q.1)) ∧ (q.1 = 142 ∨ q.1 = 145))
theorem HC.wt (c : HC q cc gc h) : WT h := c.1
theorem HC.x0 (c : HC q cc gc h) : Fi h 5 0 = nI cc := c.2.1.1
theorem HC.x1 (c : HC q cc gc h) : Fi h 5 1 = nI gc := c.2.1.2
theorem HC.m3 (c : HC q cc gc h) : Fi h 162 3 = nI cc := c.2.2.1.1
theorem HC.m4 (c : HC q cc gc h) : Fi h 162 4 = nI gc := c.2.2.1.2.1
theorem HC.m23 (c : HC q cc gc h) : Fi h 162 23 = nI q.2.2 := c.2.2.1.2.2.1
theorem HC.rs (c : HC q cc gc h) : Fi h q.1 1 = nI q.2.1 := c.2.2.1.2.2.2
theorem HC.cb (c : HC q cc gc h) : cc ≤ 6 := c.2.2.2.1.1
theorem HC.gb (c : HC q cc gc h) : gc ≤ 8 := c.2.2.2.1.2.1
theorem HC.zx (c : HC q cc gc h) : q.2.1 ≤ 40 := c.2.2.2.1.2.2.1
theorem HC.zr (c : HC q cc gc h) : q.2.2 ≤ 80 := c.2.2.2.1.2.2.2
theorem HC.qq (c : HC q cc gc h) : q.1 = 142 ∨ q.1 = 145 := c.2.2.2.2.2
def hcA (a : Nat) : Bool := !(Nat.beq a 0 || (Nat.beq a 5 || (Nat.beq a 162 || (Nat.beq a 142 || Nat.beq a 145))))
def hcF (c g : Nat) : Bool := !((Nat.beq c 0 && Nat.beq g 8) || ((Nat.beq c 5 && Nat.ble g 1) || ((Nat.beq c 162 && (Nat.beq g 3 || (Nat.beq g 4 || Nat.beq g 23))) || ((Nat.beq c 142 || Nat.beq c 145) && Nat.beq g 1))))
theorem hcA_0 {a : Nat} (e : hcA a = true) : a ≠ 0 ∧ a ≠ 5 ∧ a ≠ 162 ∧ a ≠ 142 ∧ a ≠ 145 := by
  refine ⟨?_, ?_, ?_, ?_, ?_⟩ <;> (rintro rfl; cases e)
theorem qq_ne {a x : Nat} (r : x = 142 ∨ x = 145) (e1 : a ≠ 142) (e2 : a ≠ 145) : x ≠ a := by
  rintro rfl
  rcases r with r | r
  · exact e1 r
  · exact e2 r
theorem hc_a {a m : Nat} {f : Nat → Int32} (e : hcA a = true) (hb : wd (bB a) = .inl (0, m, ai_top)) (c : HC q cc gc h) : HC q cc gc (aset h a m f) := by
  obtain ⟨w, ⟨x0, x1⟩, ⟨m3, m4, m23, rs⟩, b, ⟨fs, r1, r2⟩, r3⟩ := c
  obtain ⟨e0, e5, e2, e6, e7⟩ := hcA_0 e
  exact ⟨wt_as hb w, ⟨(Fi_a (Ne.symm e5)).trans x0, (Fi_a (Ne.symm e5)).trans x1⟩, ⟨(Fi_a (Ne.symm e2)).trans m3, (Fi_a (Ne.symm e2)).trans m4, (Fi_a (Ne.symm e2)).trans m23, (Fi_a (qq_ne r3 e6 e7)).trans rs⟩, b, ⟨fs, (asR_ne (Ne.symm e0)).trans r1, r2⟩, r3⟩
theorem ls_ne {a m i : Nat} {f : Nat → Int64} (hn : i ≠ a) : lset h a m f i = h i := if_neg hn
theorem ls_self {a m : Nat} {f : Nat → Int64} : lset h a m f a = .inl (2, m, .inr (.inl f)) := if_pos rfl
def Al (h : pm_H) (a : Nat) : Nat → Int64 := match h a with
  | .inl (_, _, .inr (.inl f)) => f
  | _ => fun _ => 0
theorem wt_al {a m : Nat} (hw : WT h) (ha : a < 198) (hb : wd (bB a) = .inl (2, m, al_top)) (hm : 0 < m) : h a = .inl (2, m, .inr (.inl (Al h a))) := by
  have q := hw a ha
  rw [hb] at q
  unfold Al
  generalize h a = e at q ⊢
  rcases e with ⟨kd', n', f | f | f | f | f⟩ | ⟨ci, fs⟩
  · obtain ⟨-, rfl, q⟩ := q
    exact absurd (q 0 hm).1 (by decide)
  · obtain ⟨rfl, rfl, -⟩ := q
    rfl
  · exact q.elim
  · exact q.elim
  · obtain ⟨-, rfl, q⟩ := q
    have q : av_ok (va_rf (f 0)) al_top := q 0 hm
    cases e2 : f 0 with
    | none => rw [e2] at q; exact absurd (show al_top.1 = 3 from q) (by decide)
    | some p => rw [e2] at q; exact absurd (show al_top.1 = 2 from q.1) (by decide)
  · exact q.elim
theorem wt_ls {a m : Nat} {f : Nat → Int64} (hb : wd (bB a) = .inl (2, m, al_top)) (hw : WT h) : WT (lset h a m f) := by
  intro i hi
  by_cases z : i = a
  · subst z
    rw [ls_self, hb]
    exact ⟨rfl, rfl, fun j _ => al_top_ok _⟩
  · rw [ls_ne z]
    exact hw i hi
theorem hc_l {a m : Nat} {f : Nat → Int64} (e : hcA a = true) (hb : wd (bB a) = .inl (2, m, al_top)) (c : HC q cc gc h) : HC q cc gc (lset h a m f) := by
  obtain ⟨w, ⟨x0, x1⟩, ⟨m3, m4, m23, rs⟩, b, ⟨fs, r1, r2⟩, r3⟩ := c
  obtain ⟨e0, e5, e2, e6, e7⟩ := hcA_0 e
  exact ⟨wt_ls hb w, ⟨(Fi_e (ls_ne (Ne.symm e5))).trans x0, (Fi_e (ls_ne (Ne.symm e5))).trans x1⟩, ⟨(Fi_e (ls_ne (Ne.symm e2))).trans m3, (Fi_e (ls_ne (Ne.symm e2))).trans m4, (Fi_e (ls_ne (Ne.symm e2))).trans m23, (Fi_e (ls_ne (qq_ne r3 e6 e7))).trans rs⟩, b, ⟨fs, (ls_ne (Ne.symm e0)).trans r1, r2⟩, r3⟩
theorem fs_ne {c g i : Nat} {v : Value} (hn : i ≠ c) : fset h c g v i = h i := if_neg hn
theorem hc_f {c ci g : Nat} {as : List av} {x : Int32} (e : hcF c g = true) (hb : wd (bB c) = .inr (ci, as)) (hl : ci < 1000) (hg : as[g]? = some ai_top) (z : HC q cc gc h) : HC q cc gc (fset h c g (.int x)) := by
  obtain ⟨w, ⟨x0, x1⟩, ⟨m3, m4, m23, rs⟩, b, ⟨fs, r1, r2⟩, r3⟩ := z
  have ne : ∀ c' g', hcF c' g' = false → c' ≠ c ∨ g' ≠ g := by
    intro c' g' e'
    by_cases z1 : c' = c
    · by_cases z2 : g' = g
      · subst z1
        subst z2
        rw [e] at e'
        cases e'
      · exact Or.inr z2
    · exact Or.inl z1
  refine ⟨wt_fs hb hl hg w, ⟨(Fi_n (ne 5 0 rfl)).trans x0, (Fi_n (ne 5 1 rfl)).trans x1⟩, ⟨(Fi_n (ne 162 3 rfl)).trans m3, (Fi_n (ne 162 4 rfl)).trans m4, (Fi_n (ne 162 23 rfl)).trans m23, (Fi_n (r3.elim (fun y => ne _ 1 (by rw [y]; rfl)) (fun y => ne _ 1 (by rw [y]; rfl)))).trans rs⟩, b, ?_, r3⟩
  by_cases z1 : 0 = c
  · subst z1
    have z2 : g ≠ 8 := fun z2 => by subst z2; cases e
    refine ⟨fs.set g (.int x), ?_, ?_⟩
    · unfold fset
      rw [show va_up h 0 _ 0 = _ from if_pos rfl, r1]
    · rw [List.getElem?_set_ne z2]
      exact r2
  · exact ⟨fs, (fs_ne z1).trans r1, r2⟩
/-- what is written at all: cells, ints of objects -/
def isO (c : Nat) : Bool := match bB c with
  | .inr (ci, _) => Nat.blt ci 1000
  | _ => false
def frm (W : List Nat) (V : List (Nat × Nat)) (h h' : pm_H) : Prop := (∀ i, W.elem i = false → h' i = h i) ∧ ∀ c g, isO c = true → V.elem (c, g) = false → Fi h' c g = Fi h c g
theorem fr_0 {W : List Nat} {V : List (Nat × Nat)} : frm W V h h := ⟨fun _ _ => rfl, fun _ _ _ _ => rfl⟩
theorem fr_el {W : List Nat} {a i : Nat} (e : W.elem a = true) (z : W.elem i = false) : i ≠ a := by
  rintro rfl
  rw [e] at z
  cases z
theorem fr_no {a c : Nat} (e : isO a = false) (z : isO c = true) : c ≠ a := by
  rintro rfl
  rw [e] at z
  cases z
theorem fr_a {W : List Nat} {V : List (Nat × Nat)} {a m : Nat} {f : Nat → Int32} (e : W.elem a = true) (o : isO a = false) (z : frm W V h g) : frm W V h (aset g a m f) := ⟨fun i hi => (asR_ne (fr_el e hi)).trans (z.1 i hi), fun c j hc hv => (Fi_a (fr_no o hc)).trans (z.2 c j hc hv)⟩
theorem fr_l {W : List Nat} {V : List (Nat × Nat)} {a m : Nat} {f : Nat → Int64} (e : W.elem a = true) (o : isO a = false) (z : frm W V h g) : frm W V h (lset g a m f) := ⟨fun i hi => (ls_ne (fr_el e hi)).trans (z.1 i hi), fun c j hc hv => (Fi_e (ls_ne (fr_no o hc))).trans (z.2 c j hc hv)⟩
theorem fr_f {W : List Nat} {V : List (Nat × Nat)} {c j : Nat} {v : Value} (e : W.elem c = true) (o : V.elem (c, j) = true) (z : frm W V h g) : frm W V h (fset g c j v) := ⟨fun i hi => (fs_ne (fr_el e hi)).trans (z.1 i hi), fun c' j' hc hv => (Fi_n (by
    by_cases y1 : c' = c
    · by_cases y2 : j' = j
      · subst y1
        subst y2
        rw [o] at hv
        cases hv
      · exact Or.inr y2
    · exact Or.inl y1)).trans (z.2 c' j' hc hv)⟩
theorem fr_g {W W' : List Nat} {V V' : List (Nat × Nat)} (e : W'.all (fun x => W.elem x) = true) (e2 : V'.all (fun x => V.elem x) = true) (y : frm W' V' g h') (z : frm W V h g) : frm W V h h' := ⟨fun i hi => (y.1 i (by
    cases w : W'.elem i with
    | false => rfl
    | true => rw [List.all_eq_true.mp e i (List.elem_iff.mp w)] at hi; cases hi)).trans (z.1 i hi), fun c j hc hv => (y.2 c j hc (by
    cases w : V'.elem (c, j) with
    | false => rfl
    | true => rw [List.all_eq_true.mp e2 (c, j) (List.elem_iff.mp w)] at hv; cases hv)).trans (z.2 c j hc hv)⟩
theorem fr_t {W : List Nat} {V : List (Nat × Nat)} (y : frm W V g h') (z : frm W V h g) : frm W V h h' := ⟨fun i hi => (y.1 i hi).trans (z.1 i hi), fun c j hc hv => (y.2 c j hc hv).trans (z.2 c j hc hv)⟩
/-- an array of small numbers -/
def NA (h : pm_H) (a l m b : Nat) : Prop := ∀ j, l ≤ j → j < m → Ar h a j = nI (Ar h a j).toNatClampNeg ∧ (Ar h a j).toNatClampNeg < b
theorem NA_e {a l m b : Nat} (e : Ar h' a = Ar h a) (z : NA h a l m b) : NA h' a l m b := by
  unfold NA
  rw [e]
  exact z
theorem en_cn {cc : Jvm.ClassFile.Cond} {off : Int} {x y : Int32} {t : Nat} {b : Bool} (e : pm_cmp cc x y = b) (hi : pm_ins PT k pc = some (.if_icmp cc off, 3)) (ht : pm_tgt pc off = some t) (hh : pm_run PT n fr lo k (pc, L, .int y :: .int x :: S, h, 198, sl) = some R) : ∃ m, pm_run PT m fr lo k (cond b t (pc + 3), L, S, h, 198, sl) = some R := by
  obtain ⟨m, hh⟩ := rn_icmp hi ht hh
  rw [e] at hh
  exact ⟨m, hh⟩
theorem en_zn {cc : Jvm.ClassFile.Cond} {off : Int} {x : Int32} {t : Nat} {b : Bool} (e : pm_cmp cc x 0 = b) (hi : pm_ins PT k pc = some (.ifCond cc off, 3)) (ht : pm_tgt pc off = some t) (hh : pm_run PT n fr lo k (pc, L, .int x :: S, h, 198, sl) = some R) : ∃ m, pm_run PT m fr lo k (cond b t (pc + 3), L, S, h, 198, sl) = some R := by
  obtain ⟨m, hh⟩ := rn_if hi ht hh
  rw [e] at hh
  exact ⟨m, hh⟩
theorem en_sub {x y : Nat} (hy : y ≤ x) (hi : pm_ins PT k pc = some (.isub, 1)) (hh : pm_run PT n fr lo k (pc, L, .int (nI y) :: .int (nI x) :: S, h, 198, sl) = some R) : ∃ m, pm_run PT m fr lo k (pc + 1, L, .int (nI (x - y)) :: S, h, 198, sl) = some R := by
  obtain ⟨m, hh⟩ := rn_i hi rfl rfl rfl hh
  have hh : pm_run PT m fr lo k (pc + 1, L, .int (nI x - nI y) :: S, h, 198, sl) = some R := hh
  have e : nI x - nI y = nI (x - y) := by
    have e : nI x = nI (x - y) + nI y := by rw [nI_add, Nat.sub_add_cancel hy]
    rw [e]
    exact Int32.add_sub_cancel _ _
  rw [e] at hh
  exact ⟨m, hh⟩
theorem en_r16 {x : Nat} (hx : x < 32) (hi : pm_ins PT k pc = some (.irem, 1)) (hh : pm_run PT n fr lo k (pc, L, .int (nI 16) :: .int (nI x) :: S, h, 198, sl) = some R) : ∃ m, pm_run PT m fr lo k (pc + 1, L, .int (nI (x % 16)) :: S, h, 198, sl) = some R := by
  obtain ⟨m, -, hh⟩ := rn_rm hi hh
  have e : ∀ x, x < 32 → nI x - nI x / nI 16 * nI 16 = nI (x % 16) := by decide +kernel
  rw [e x hx] at hh
  exact ⟨m, hh⟩
theorem wt_q {a m b : Nat} {w : Int} (hw : WT h) (ha : a < 198) (hb : wd (bB a) = .inl (4, m, (2, (b : Int), w))) (hm : 0 < m) : ∃ f : Nat → Option Nat, h a = .inl (4, m, .inr (.inr (.inr (.inr f)))) ∧ ∀ j, j < m → va_rf (f j) = .ref (b + 6 * j) := by
  have q := hw a ha
  rw [hb] at q
  generalize h a = e at q ⊢
  rcases e with ⟨kd', n', f | f | f | f | f⟩ | ⟨ci, fs⟩
  · obtain ⟨-, rfl, q⟩ := q
    exact absurd (show (2 : Nat) = 0 from (q 0 hm).1) (by decide)
  · obtain ⟨-, rfl, q⟩ := q
    exact absurd (show (2 : Nat) = 1 from (q 0 hm).1) (by decide)
  · exact q.elim
  · exact q.elim
  · obtain ⟨rfl, rfl, q⟩ := q
    refine ⟨f, rfl, fun j hj => ?_⟩
    have q := q j hj
    have e1 : aq (2, (b : Int), w) j = (2, ((b + 6 * j : Nat) : Int), 1) := by
      unfold aq
      rw [if_pos rfl]
      simp
    rw [e1] at q
    cases e2 : f j with
    | none => rw [e2] at q; exact absurd (show (2 : Nat) = 3 from q) (by decide)
    | some p =>
      rw [e2] at q
      have q : p ∈ av_ids (2, ((b + 6 * j : Nat) : Int), 1) := q.2
      rw [show av_ids (2, ((b + 6 * j : Nat) : Int), 1) = [b + 6 * j] from rfl] at q
      rw [List.mem_singleton.mp q]
      rfl
  · exact q.elim
theorem en_qq {a t m b : Nat} {w : Int} (ht : t < 2 ^ 31) (hw : WT h) (hi : pm_ins PT k pc = some (.aaload, 1)) (ha : a < 198) (hb : wd (bB a) = .inl (4, m, (2, (b : Int), w))) (hm : 0 < m) (hh : pm_run PT n fr lo k (pc, L, .int (nI t) :: .ref a :: S, h, 198, sl) = some R) : ∃ q, t < m ∧ pm_run PT q fr lo k (pc + 1, L, .ref (b + 6 * t) :: S, h, 198, sl) = some R := by
  obtain ⟨f, e, ef⟩ := wt_q hw ha hb hm
  obtain ⟨st, q, es, hh⟩ := rn_ex hi rfl (fun q => by cases q) (fun q => by cases q) (fun q => by cases q) hh
  have es : pm_qa PT pc L (.int (nI t) :: .ref a :: S) h 198 sl = some st := es
  unfold pm_qa at es
  dsimp only at es
  have ea : pm_qar h 198 a = some (4, m, f) := by
    unfold pm_qar
    rw [if_pos ha, e]
  rw [ea] at es
  dsimp only at es
  split at es
  · rename_i z
    have hx := en_in z.1
    rw [nI_clamp ht] at hx es
    rw [ef t hx] at es
    cases es
    exact ⟨q, hx, hh⟩
  · cases es
theorem en_q26 {t : Nat} (ht : t < 2 ^ 31) (hw : WT h) (hi : pm_ins PT k pc = some (.aaload, 1)) (hh : pm_run PT n fr lo k (pc, L, .int (nI t) :: .ref 26 :: S, h, 198, sl) = some R) : ∃ q, t < 16 ∧ pm_run PT q fr lo k (pc + 1, L, .ref (27 + 6 * t) :: S, h, 198, sl) = some R := en_qq ht hw hi (by decide) (show wd (bB 26) = .inl (4, 16, (2, ((27 : Nat) : Int), 16)) from rfl) (by decide) hh
theorem en_q123 {t : Nat} (ht : t < 2 ^ 31) (hw : WT h) (hi : pm_ins PT k pc = some (.aaload, 1)) (hh : pm_run PT n fr lo k (pc, L, .int (nI t) :: .ref 123 :: S, h, 198, sl) = some R) : ∃ q, t < 3 ∧ pm_run PT q fr lo k (pc + 1, L, .ref (124 + 6 * t) :: S, h, 198, sl) = some R := en_qq ht hw hi (by decide) (show wd (bB 123) = .inl (4, 3, (2, ((124 : Nat) : Int), 3)) from rfl) (by decide) hh
theorem eb_ne {b : Bool} : pm_cmp .ne (cond b 1 0) 0 = b := by cases b <;> decide
theorem eb_eq {b : Bool} : pm_cmp .eq (cond b 1 0) 0 = !b := by cases b <;> decide
/-- a branch that is known -/
theorem en_t {b : Bool} {t p : Nat} (e : b = true) (hh : pm_run PT n fr lo k (cond b t p, L, S, h, 198, sl) = some R) : pm_run PT n fr lo k (t, L, S, h, 198, sl) = some R := by
  rw [e] at hh
  exact hh
theorem en_f {b : Bool} {t p : Nat} (e : b = false) (hh : pm_run PT n fr lo k (cond b t p, L, S, h, 198, sl) = some R) : pm_run PT n fr lo k (p, L, S, h, 198, sl) = some R := by
  rw [e] at hh
  exact hh
theorem en_nt {b : Bool} {t p : Nat} (e : b = true) (hh : pm_run PT n fr lo k (cond (!b) t p, L, S, h, 198, sl) = some R) : pm_run PT n fr lo k (p, L, S, h, 198, sl) = some R := by
  rw [e] at hh
  exact hh
theorem en_nf {b : Bool} {t p : Nat} (e : b = false) (hh : pm_run PT n fr lo k (cond (!b) t p, L, S, h, 198, sl) = some R) : pm_run PT n fr lo k (t, L, S, h, 198, sl) = some R := by
  rw [e] at hh
  exact hh
/-- two ways that meet again -/
theorem en_J {b : Bool} {s t : pm_St} (h1 : b = true → ∃ m, pm_run PT m fr lo k s = some R) (h2 : b = false → ∃ m, pm_run PT m fr lo k t = some R) : ∃ m, pm_run PT m fr lo k (cond b s t) = some R := by
  cases b with
  | true => exact h1 rfl
  | false => exact h2 rfl
/-- an addition, a product, a step of a counter, over Nats -/
theorem en_add {x y : Nat} (hi : pm_ins PT k pc = some (.iadd, 1)) (hh : pm_run PT n fr lo k (pc, L, .int (nI y) :: .int (nI x) :: S, h, 198, sl) = some R) : ∃ m, pm_run PT m fr lo k (pc + 1, L, .int (nI (x + y)) :: S, h, 198, sl) = some R := by
  obtain ⟨m, hh⟩ := rn_i hi rfl rfl rfl hh
  have hh : pm_run PT m fr lo k (pc + 1, L, .int (nI x + nI y) :: S, h, 198, sl) = some R := hh
  rw [nI_add] at hh
  exact ⟨m, hh⟩
theorem en_mul {x y : Nat} (hi : pm_ins PT k pc = some (.imul, 1)) (hh : pm_run PT n fr lo k (pc, L, .int (nI y) :: .int (nI x) :: S, h, 198, sl) = some R) : ∃ m, pm_run PT m fr lo k (pc + 1, L, .int (nI (x * y)) :: S, h, 198, sl) = some R := by
  obtain ⟨m, hh⟩ := rn_i hi rfl rfl rfl hh
  have hh : pm_run PT m fr lo k (pc + 1, L, .int (nI x * nI y) :: S, h, 198, sl) = some R := hh
  rw [hI_mul] at hh
  exact ⟨m, hh⟩
theorem nI_inc (x c : Nat) : nI x + Int32.ofInt c = nI (x + c) := by
  rw [show Int32.ofInt (c : Int) = nI c from Int32.ofInt_eq_ofNat]
  exact nI_add x c
theorem en_inc {x c j : Nat} (hi : pm_ins PT k pc = some (.iinc j (c : Int), 3)) (hg : pm_get L j = some (.int (nI x))) (hj : j < pm_max PT k) (hh : pm_run PT n fr lo k (pc, L, S, h, 198, sl) = some R) : ∃ m, pm_run PT m fr lo k (pc + 3, pm_st1 L j (.int (nI (x + c))), S, h, 198, sl) = some R := by
  refine rn_i hi rfl rfl ?_ hh
  show (match pm_get L j with
    | some (.int x) => if j < pm_max PT k then some (pc + 3, pm_st1 L j (.int (x + Int32.ofInt c)), S, h, 198, sl) else none
    | _ => none) = _
  rw [hg]
  dsimp only
  rw [if_pos hj, nI_inc]
theorem en_lu {a m : Nat} {i w : Int32} {t : Nat} {f : Nat → Int32} (ht : i.toNatClampNeg = t) (hw : WT h) (hi : pm_ins PT k pc = some (.iaload, 1)) (ha : a < 198) (hb : wd (bB a) = .inl (0, m, ai_top)) (hm : 0 < m) (e : Ar h a = f) (ew : t < m → f t = w) (hh : pm_run PT n fr lo k (pc, L, .int i :: .ref a :: S, h, 198, sl) = some R) : ∃ q, t < m ∧ pm_run PT q fr lo k (pc + 1, L, .int w :: S, h, 198, sl) = some R := by
  obtain ⟨q, hx, hh⟩ := rn_ai hw hi ha hb hm e hh
  subst ht
  rw [ew hx] at hh
  exact ⟨q, hx, hh⟩
theorem en_st {a m : Nat} {i x : Int32} {t : Nat} {f : Nat → Int32} (ht : i.toNatClampNeg = t) (hw : WT h) (hi : pm_ins PT k pc = some (.iastore, 1)) (ha : a < 198) (hb : wd (bB a) = .inl (0, m, ai_top)) (hm : 0 < m) (e : Ar h a = f) (hh : pm_run PT n fr lo k (pc, L, .int x :: .int i :: .ref a :: S, h, 198, sl) = some R) : ∃ q, t < m ∧ pm_run PT q fr lo k (pc + 1, L, S, aset h a m (upd f t x), 198, sl) = some R := by
  obtain ⟨q, hx, hh⟩ := rn_si hw hi ha hb hm e hh
  subst ht
  exact ⟨q, hx, hh⟩
theorem en_lst {a m : Nat} {i : Int32} {x : Int64} {t : Nat} {f : Nat → Int64} (ht : i.toNatClampNeg = t) (hw : WT h) (hi : pm_ins PT k pc = some (.lastore, 1)) (ha : a < 198) (hb : wd (bB a) = .inl (2, m, al_top)) (hm : 0 < m) (e : Al h a = f) (hh : pm_run PT n fr lo k (pc, L, .long x :: .int i :: .ref a :: S, h, 198, sl) = some R) : ∃ q, t < m ∧ pm_run PT q fr lo k (pc + 1, L, S, lset h a m (vp_updL f t x), 198, sl) = some R := by
  have e0 := wt_al hw ha hb hm
  rw [e] at e0
  obtain ⟨st, q, es, hh⟩ := rn_ex hi rfl (fun q => by cases q) (fun q => by cases q) (fun q => by cases q) hh
  have es : pm_lS PT pc L (.long x :: .int i :: .ref a :: S) h 198 sl = some st := es
  unfold pm_lS at es
  dsimp only at es
  have ea : pm_lar PT h 198 a = some (2, m, f) := by
    unfold pm_lar
    rw [if_pos ha, e0]
    exact if_pos rfl
  rw [ea] at es
  dsimp only at es
  subst ht
  by_cases z : pm_in i m = true
  · rw [if_pos z] at es
    cases es
    exact ⟨q, en_in z, hh⟩
  · rw [if_neg z] at es
    cases es
theorem en_min {j v : Nat} {x y : Int32} (hi : pm_ins PT k pc = some (.invokestatic j, 3)) (hc : pm_callee PT k (.invokestatic j) = none) (hm : pm_mlk PT (pm_o PT k) j = some (7, v)) (hh : pm_run PT n fr lo k (pc, L, .int y :: .int x :: S, h, 198, sl) = some R) : ∃ q, pm_run PT q fr lo k (pc + 3, L, .int (imin x y) :: S, h, 198, sl) = some R := by
  obtain ⟨st, q, e, hh⟩ := rn_ex hi hc (fun q => by cases q) (fun q => by cases q) (fun q => by cases q) hh
  have e : pm_libW PT false fr lo k j pc L (.int y :: .int x :: S) h 198 sl = some st := e
  unfold pm_libW at e
  rw [hm] at e
  have e : (if 1 ≤ fr ∧ pm_sum S + 13 ≤ lo then some (pc + 3, L, Value.int (imin x y) :: S, h, 198, sl) else none) = some st := e
  split at e
  · cases e
    exact ⟨q, hh⟩
  · cases e
theorem en_max {j v : Nat} {x y : Int32} (hi : pm_ins PT k pc = some (.invokestatic j, 3)) (hc : pm_callee PT k (.invokestatic j) = none) (hm : pm_mlk PT (pm_o PT k) j = some (8, v)) (hh : pm_run PT n fr lo k (pc, L, .int y :: .int x :: S, h, 198, sl) = some R) : ∃ q, pm_run PT q fr lo k (pc + 3, L, .int (imax x y) :: S, h, 198, sl) = some R := by
  obtain ⟨st, q, e, hh⟩ := rn_ex hi hc (fun q => by cases q) (fun q => by cases q) (fun q => by cases q) hh
  have e : pm_libW PT false fr lo k j pc L (.int y :: .int x :: S) h 198 sl = some st := e
  unfold pm_libW at e
  rw [hm] at e
  have e : (if 1 ≤ fr ∧ pm_sum S + 13 ≤ lo then some (pc + 3, L, Value.int (imax x y) :: S, h, 198, sl) else none) = some st := e
  split at e
  · cases e
    exact ⟨q, hh⟩
  · cases e
/-- the ruling rule -/
theorem en_q {j t : Nat} (c : HC q cc gc h) (hi : pm_ins PT k pc = some (.getfield j, 3)) (hf : pm_fld PT (pm_o PT k) j = some (10, 8, t)) (hh : pm_run PT n fr lo k (pc, L, .ref 0 :: S, h, 198, sl) = some R) : ∃ m, pm_run PT m fr lo k (pc + 3, L, .ref q.1 :: S, h, 198, sl) = some R := by
  obtain ⟨-, -, -, -, ⟨fs, r1, r2⟩, -⟩ := c
  exact rn_gfo hi hf (by decide) r1 r2 hh
/-- switches -/
theorem en_xc {x : Int32} {c : Nat} (hc : c < 2 ^ 31) (e : pm_cmp .eq x (nI c) = true) : x.toInt = (c : Int) := by
  have e : x = nI c := of_decide_eq_true e
  rw [e, nI_toInt hc]
theorem en_xn {x : Int32} {c : Nat} (hc : c < 2 ^ 31) (e : pm_cmp .eq x (nI c) = false) : x.toInt ≠ (c : Int) := by
  have e : ¬ x = nI c := of_decide_eq_false e
  intro q
  apply e
  apply Int32.toInt_inj.mp
  rw [q, nI_toInt hc]
theorem en_nc {x c : Nat} (hx : x < 2 ^ 31) (e : decide (x = c) = true) : (nI x).toInt = (c : Int) := by
  rw [nI_toInt hx, of_decide_eq_true e]
theorem en_nn {x c : Nat} (hx : x < 2 ^ 31) (e : decide (x = c) = false) : (nI x).toInt ≠ (c : Int) := by
  have e : ¬ x = c := of_decide_eq_false e
  rw [nI_toInt hx]
  omega
theorem en_tsc {x : Int32} {d lw hg c off : Int} {offs : Array Int} {len t : Nat} (hi : pm_ins PT k pc = some (.tableswitch d lw hg offs, len)) (e : x.toInt = c) (hb : ¬ (c < lw ∨ hg < c)) (ho : offs[(c - lw).toNat]? = some off) (ht : pm_tgt pc off = some t) (hh : pm_run PT n fr lo k (pc, L, .int x :: S, h, 198, sl) = some R) : ∃ m, pm_run PT m fr lo k (t, L, S, h, 198, sl) = some R := by
  refine rn_i hi rfl rfl ?_ hh
  show (if x.toInt < lw ∨ hg < x.toInt then pm_jp pc d L S h 198 sl else (match offs[(x.toInt - lw).toNat]? with
      | some off => pm_jp pc off L S h 198 sl
      | none => none)) = _
  rw [e, if_neg hb, ho]
  dsimp only
  unfold pm_jp
  rw [ht]
theorem en_tsd {x : Int32} {d lw hg : Int} {offs : Array Int} {len t : Nat} (cs : List Int) (hi : pm_ins PT k pc = some (.tableswitch d lw hg offs, len)) (hs : offs.size = (hg - lw + 1).toNat) (hc : (List.range offs.size).all (fun j => decide (offs[j]? = some d) || cs.elem (lw + (j : Int))) = true) (hn : ∀ c, c ∈ cs → x.toInt ≠ c) (ht : pm_tgt pc d = some t) (hh : pm_run PT n fr lo k (pc, L, .int x :: S, h, 198, sl) = some R) : ∃ m, pm_run PT m fr lo k (t, L, S, h, 198, sl) = some R := by
  refine rn_i hi rfl rfl ?_ hh
  show (if x.toInt < lw ∨ hg < x.toInt then pm_jp pc d L S h 198 sl else (match offs[(x.toInt - lw).toNat]? with
      | some off => pm_jp pc off L S h 198 sl
      | none => none)) = _
  have ej : pm_jp pc d L S h 198 sl = some (t, L, S, h, 198, sl) := by
    unfold pm_jp
    rw [ht]
  by_cases z : x.toInt < lw ∨ hg < x.toInt
  · rw [if_pos z]
    exact ej
  · rw [if_neg z]
    have hj : (x.toInt - lw).toNat < offs.size := by omega
    have q := List.all_eq_true.mp hc _ (List.mem_range.mpr hj)
    rw [Bool.or_eq_true] at q
    rcases q with q | q
    · rw [of_decide_eq_true q]
      exact ej
    · exact absurd (by omega) (hn _ (List.elem_iff.mp q))
theorem en_lsn : ∀ (ps : List (Int × Int)) (d v : Int) (cs : List Int), ps.all (fun p => cs.elem p.1 || decide (p.2 = d)) = true → (∀ c, c ∈ cs → v ≠ c) → Op.lookupswitch.offset ps d v = d
  | [], _, _, _, _, _ => rfl
  | (a, o) :: r, d, v, cs, h, hn => by
    rw [Op.lookupswitch.offset_cons]
    rw [List.all_cons, Bool.and_eq_true, Bool.or_eq_true] at h
    obtain ⟨h1, h2⟩ := h
    split
    · rename_i e
      rcases h1 with h1 | h1
      · have e : v = a := by simpa using e.symm
        exact absurd e (hn _ (List.elem_iff.mp h1))
      · exact of_decide_eq_true h1
    · exact en_lsn r d v cs h2 hn
theorem en_lsd {x : Int32} {d : Int} {ps : Array (Int × Int)} {len t : Nat} (cs : List Int) (hi : pm_ins PT k pc = some (.lookupswitch d ps, len)) (hk : pm_swOk ps.toList = true) (hc : ps.toList.all (fun p => cs.elem p.1 || decide (p.2 = d)) = true) (hn : ∀ c, c ∈ cs → x.toInt ≠ c) (ht : pm_tgt pc d = some t) (hh : pm_run PT n fr lo k (pc, L, .int x :: S, h, 198, sl) = some R) : ∃ m, pm_run PT m fr lo k (t, L, S, h, 198, sl) = some R := by
  refine rn_i hi rfl rfl ?_ hh
  show (if pm_swOk ps.toList = true then pm_jp pc (Op.lookupswitch.offset ps.toList d x.toInt) L S h 198 sl else none) = _
  rw [if_pos hk, en_lsn _ _ _ cs hc hn]
  unfold pm_jp
  rw [ht]
theorem en_lsc {x : Int32} {d c off : Int} {ps : Array (Int × Int)} {len t : Nat} (hi : pm_ins PT k pc = some (.lookupswitch d ps, len)) (hk : pm_swOk ps.toList = true) (e : x.toInt = c) (ho : Op.lookupswitch.offset ps.toList d c = off) (ht : pm_tgt pc off = some t) (hh : pm_run PT n fr lo k (pc, L, .int x :: S, h, 198, sl) = some R) : ∃ m, pm_run PT m fr lo k (t, L, S, h, 198, sl) = some R := by
  refine rn_i hi rfl rfl ?_ hh
  show (if pm_swOk ps.toList = true then pm_jp pc (Op.lookupswitch.offset ps.toList d x.toInt) L S h 198 sl else none) = _
  rw [if_pos hk, e, ho]
  unfold pm_jp
  rw [ht]
theorem en_l0 {v : Int} : ∀ c : Int, c ∈ ([] : List Int) → v ≠ c := fun _ q => by cases q
theorem en_l1 {v a : Int} {cs : List Int} (h : v ≠ a) (q : ∀ c, c ∈ cs → v ≠ c) : ∀ c, c ∈ a :: cs → v ≠ c := fun c hc => by
  rcases List.mem_cons.mp hc with rfl | hc
  · exact h
  · exact q c hc
/-- how long an array is -/
theorem en_al {a kd m : Nat} (hw : WT h) (hi : pm_ins PT k pc = some (.arraylength, 1)) (ha : a < 198) (hb : wd (bB a) = .inl (kd, m, ai_top)) (hm : 0 < m) (hk : ((pm_ty PT)[kd]?).isSome = true) (hh : pm_run PT n fr lo k (pc, L, .ref a :: S, h, 198, sl) = some R) : ∃ q, pm_run PT q fr lo k (pc + 1, L, .int (nI m) :: S, h, 198, sl) = some R := by
  refine rn_i hi rfl rfl ?_ hh
  show (if a < 198 then (match h a with
    | .inl (kd, n, _) => if ((pm_ty PT)[kd]?).isSome = true then some (pc + 1, L, .int (Int32.ofNat n) :: S, h, 198, sl) else none
    | _ => none) else none) = _
  rw [if_pos ha, wt_a hw ha hb hm]
  dsimp only
  rw [if_pos hk]
  rfl
/-- who is a court, a gift, who are two courts: both sides, over Nats -/
theorem hc_rC (c : HC q cc gc h) : rC h (.int (nI cc)) := by
  obtain ⟨fs, e1, e2⟩ := wt_i c.wt (by decide) (show wd (bB 5) = _ from rfl) (by decide) (show _ = some ai_top from rfl) (g := 0)
  rw [c.x0] at e2
  exact ⟨fs, e1, e2⟩
theorem hc_m3 (c : HC q cc gc h) : mF h 3 (.int (nI cc)) := by
  obtain ⟨fs, e1, e2⟩ := wt_i c.wt (by decide) (show wd (bB 162) = _ from rfl) (by decide) (show _ = some ai_top from rfl) (g := 3)
  rw [c.m3] at e2
  exact ⟨fs, e1, e2⟩
theorem hc_m4 (c : HC q cc gc h) : mF h 4 (.int (nI gc)) := by
  obtain ⟨fs, e1, e2⟩ := wt_i c.wt (by decide) (show wd (bB 162) = _ from rfl) (by decide) (show _ = some ai_top from rfl) (g := 4)
  rw [c.m4] at e2
  exact ⟨fs, e1, e2⟩
theorem hc_rG (c : HC q cc gc h) : ∃ rs, h 5 = .inr (3, rs) ∧ rs[1]? = some (.int (nI gc)) := by
  obtain ⟨fs, e1, e2⟩ := wt_i c.wt (by decide) (show wd (bB 5) = _ from rfl) (by decide) (show _ = some ai_top from rfl) (g := 1)
  rw [c.x1] at e2
  exact ⟨fs, e1, e2⟩
theorem inb_cG {x : Int32} (hc : gc ≤ 8) : in_b x.toInt64 0 (nI gc - 1).toInt64 = cB gc x := by
  have e : ∀ c, c < 9 → (nI c - 1).toInt = (c : Int) - 1 := by decide +kernel
  have e := e gc (by omega)
  generalize nI gc - 1 = w at *
  unfold in_b cB
  have n1 : (0 : Int64).toInt = 0 := by decide
  rw [Bool.eq_iff_iff, Bool.and_eq_true, decide_eq_true_iff, Bool.not_eq_true', Bool.not_eq_true', decide_eq_false_iff_not, decide_eq_false_iff_not, Int64.lt_iff_toInt_lt, Int64.lt_iff_toInt_lt, Int32.toInt_toInt64, Int32.toInt_toInt64, n1, e]
  omega
theorem en_mg {x : Int32} (hc : gc ≤ 8) (h4 : mF h 4 (.int (nI gc))) (hh : pm_run PT n fr lo 169 (0, pm_l0 [.ref 162, .int x] 2, [], h, 198, sl) = some R) : R = (some (.int (cond (cB gc x) 1 0)), h, 198, sl) := by
  have q := rn_dt (F := 10) (Lo := 1000) (hd_isGift (fr := 10) (lo := 1000) (sl := sl) x h4 (by omega) (by omega)) hh
  rw [inb_cG hc] at q
  exact q
theorem en_xg {x : Int32} (hc : gc ≤ 8) (r : ∃ rs, h 5 = .inr (3, rs) ∧ rs[1]? = some (.int (nI gc))) (hh : pm_run PT n fr lo 25 (0, pm_l0 [.ref 5, .int x] 2, [], h, 198, sl) = some R) : R = (some (.int (cond (cB gc x) 1 0)), h, 198, sl) := by
  obtain ⟨rs, e5, e50⟩ := r
  have no : ∀ n : Nat, cB gc x = false → pm_run PT n fr lo 25 (16, [some (.ref 5), some (.int x)], [], h, 198, sl) = some R → R = (some (.int (cond (cB gc x) 1 0)), h, 198, sl) := by
    intro n e hh
    obtain ⟨n, hh⟩ := rn_i rfl rfl rfl rfl hh
    have q := (rn_ret rfl (Or.inr rfl) hh).2
    rw [q, e]
    rfl
  obtain ⟨n, hh⟩ := rn_i rfl rfl rfl rfl hh
  obtain ⟨n, hh⟩ := rn_if (cc := .lt) (off := 15) (t := 16) rfl rfl hh
  rw [lt0_e] at hh
  by_cases a : x.toInt < 0
  · rw [decide_eq_true a] at hh
    exact no n (cB_f (by omega)) hh
  · rw [decide_eq_false a] at hh
    have hh : pm_run PT n fr lo 25 (4, [some (.ref 5), some (.int x)], [], h, 198, sl) = some R := hh
    obtain ⟨n, hh⟩ := rn_i rfl rfl rfl rfl hh
    obtain ⟨n, hh⟩ := rn_i rfl rfl rfl rfl hh
    obtain ⟨n, hh⟩ := rn_gfo (g := 1) rfl rfl (by decide) e5 e50 hh
    obtain ⟨n, hh⟩ := rn_icmp (cc := .ge) (off := 7) (t := 16) rfl rfl hh
    rw [ge_e (by omega)] at hh
    by_cases b : (gc : Int) ≤ x.toInt
    · rw [decide_eq_true b] at hh
      exact no n (cB_f (by omega)) hh
    · rw [decide_eq_false b] at hh
      have hh : pm_run PT n fr lo 25 (12, [some (.ref 5), some (.int x)], [], h, 198, sl) = some R := hh
      obtain ⟨n, hh⟩ := rn_i rfl rfl rfl rfl hh
      obtain ⟨n, hh⟩ := rn_i rfl rfl rfl rfl hh
      have q := (rn_ret rfl (Or.inr rfl) hh).2
      rw [q, cB_t (by omega)]
      rfl
theorem cB_n {a : Nat} (ha : a < 2 ^ 31) : cB cc (nI a) = decide (a < cc) := by
  unfold cB
  rw [nI_toInt ha, Bool.eq_iff_iff, decide_eq_true_iff, decide_eq_true_iff]
  omega
end EXT
end MG95zzxax1
section MG95zzxax2
/-! runs told exactly, written by ext.py -/
section EA
def v270 (q : QT) (cc gc : Nat) (a : Int32) : Int32 := (((((((a - ((ushr a (nI 1)) &&& (nI 1431655765))) &&& (nI 858993459)) + ((ushr (a - ((ushr a (nI 1)) &&& (nI 1431655765))) (nI 2)) &&& (nI 858993459))) + (ushr (((a - ((ushr a (nI 1)) &&& (nI 1431655765))) &&& (nI 858993459)) + ((ushr (a - ((ushr a (nI 1)) &&& (nI 1431655765))) (nI 2)) &&& (nI 858993459))) (nI 4))) &&& (nI 252645135)) + (ushr (((((a - ((ushr a (nI 1)) &&& (nI 1431655765))) &&& (nI 858993459)) + ((ushr (a - ((ushr a (nI 1)) &&& (nI 1431655765))) (nI 2)) &&& (nI 858993459))) + (ushr (((a - ((ushr a (nI 1)) &&& (nI 1431655765))) &&& (nI 858993459)) + ((ushr (a - ((ushr a (nI 1)) &&& (nI 1431655765))) (nI 2)) &&& (nI 858993459))) (nI 4))) &&& (nI 252645135)) (nI 8))) + (ushr ((((((a - ((ushr a (nI 1)) &&& (nI 1431655765))) &&& (nI 858993459)) + ((ushr (a - ((ushr a (nI 1)) &&& (nI 1431655765))) (nI 2)) &&& (nI 858993459))) + (ushr (((a - ((ushr a (nI 1)) &&& (nI 1431655765))) &&& (nI 858993459)) + ((ushr (a - ((ushr a (nI 1)) &&& (nI 1431655765))) (nI 2)) &&& (nI 858993459))) (nI 4))) &&& (nI 252645135)) + (ushr (((((a - ((ushr a (nI 1)) &&& (nI 1431655765))) &&& (nI 858993459)) + ((ushr (a - ((ushr a (nI 1)) &&& (nI 1431655765))) (nI 2)) &&& (nI 858993459))) + (ushr (((a - ((ushr a (nI 1)) &&& (nI 1431655765))) &&& (nI 858993459)) + ((ushr (a - ((ushr a (nI 1)) &&& (nI 1431655765))) (nI 2)) &&& (nI 858993459))) (nI 4))) &&& (nI 252645135)) (nI 8))) (nI 16))) &&& (nI 63)
theorem v270_ok {n fr lo sl cc gc : Nat} {q : QT} {h : pm_H} {R : pm_Rs} {a : Int32} (hw : HC q cc gc h) (hh : pm_run PT n fr lo 270 (0, pm_l0 [.int a] 1, [], h, 198, sl) = some R) : R = (some (.int (v270 q cc gc a)), h, 198, sl) := by
  have hcc := hw.cb
  have hgc := hw.gb
  have hzr := hw.zr
  obtain ⟨n, hh⟩ := rn_i rfl rfl rfl rfl hh
  obtain ⟨n, hh⟩ := rn_i rfl rfl rfl rfl hh
  obtain ⟨n, hh⟩ := rn_i rfl rfl rfl rfl hh
  obtain ⟨n, hh⟩ := rn_i rfl rfl rfl rfl hh
  obtain ⟨n, hh⟩ := rn_i rfl rfl rfl rfl hh
  obtain ⟨n, hh⟩ := rn_i rfl rfl rfl rfl hh
  obtain ⟨n, hh⟩ := rn_i rfl rfl rfl rfl hh
  obtain ⟨n, hh⟩ := rn_i rfl rfl rfl rfl hh
  obtain ⟨n, hh⟩ := rn_i rfl rfl rfl rfl hh
  obtain ⟨n, hh⟩ := rn_i rfl rfl rfl rfl hh
  obtain ⟨n, hh⟩ := rn_i rfl rfl rfl rfl hh
  obtain ⟨n, hh⟩ := rn_i rfl rfl rfl rfl hh
  obtain ⟨n, hh⟩ := rn_i rfl rfl rfl rfl hh
  obtain ⟨n, hh⟩ := rn_i rfl rfl rfl rfl hh
  obtain ⟨n, hh⟩ := rn_i rfl rfl rfl rfl hh
  obtain ⟨n, hh⟩ := rn_i rfl rfl rfl rfl hh
  obtain ⟨n, hh⟩ := rn_i rfl rfl rfl rfl hh
  obtain ⟨n, hh⟩ := rn_i rfl rfl rfl rfl hh
  obtain ⟨n, hh⟩ := rn_i rfl rfl rfl rfl hh
  obtain ⟨n, hh⟩ := rn_i rfl rfl rfl rfl hh
  obtain ⟨n, hh⟩ := rn_i rfl rfl rfl rfl hh
  obtain ⟨n, hh⟩ := rn_i rfl rfl rfl rfl hh
  obtain ⟨n, hh⟩ := rn_i rfl rfl rfl rfl hh
  obtain ⟨n, hh⟩ := rn_i rfl rfl rfl rfl hh
  obtain ⟨n, hh⟩ := rn_i rfl rfl rfl rfl hh
  obtain ⟨n, hh⟩ := rn_i rfl rfl rfl rfl hh
  obtain ⟨n, hh⟩ := rn_i rfl rfl rfl rfl hh
  obtain ⟨n, hh⟩ := rn_i rfl rfl rfl rfl hh
  obtain ⟨n, hh⟩ := rn_i rfl rfl rfl rfl hh
  obtain ⟨n, hh⟩ := rn_i rfl rfl rfl rfl hh
  obtain ⟨n, hh⟩ := rn_i rfl rfl rfl rfl hh
  obtain ⟨n, hh⟩ := rn_i rfl rfl rfl rfl hh
  obtain ⟨n, hh⟩ := rn_i rfl rfl rfl rfl hh
  obtain ⟨n, hh⟩ := rn_i rfl rfl rfl rfl hh
  obtain ⟨n, hh⟩ := rn_i rfl rfl rfl rfl hh
  obtain ⟨n, hh⟩ := rn_i rfl rfl rfl rfl hh
  obtain ⟨n, hh⟩ := rn_i rfl rfl rfl rfl hh
  obtain ⟨n, hh⟩ := rn_i rfl rfl rfl rfl hh
  obtain ⟨n, hh⟩ := rn_i rfl rfl rfl rfl hh
  obtain ⟨n, hh⟩ := rn_i rfl rfl rfl rfl hh
  obtain ⟨n, hh⟩ := rn_i rfl rfl rfl rfl hh
  have hh : pm_run PT n fr lo 270 (52, [some (.int (((((((a - ((ushr a (nI 1)) &&& (nI 1431655765))) &&& (nI 858993459)) + ((ushr (a - ((ushr a (nI 1)) &&& (nI 1431655765))) (nI 2)) &&& (nI 858993459))) + (ushr (((a - ((ushr a (nI 1)) &&& (nI 1431655765))) &&& (nI 858993459)) + ((ushr (a - ((ushr a (nI 1)) &&& (nI 1431655765))) (nI 2)) &&& (nI 858993459))) (nI 4))) &&& (nI 252645135)) + (ushr (((((a - ((ushr a (nI 1)) &&& (nI 1431655765))) &&& (nI 858993459)) + ((ushr (a - ((ushr a (nI 1)) &&& (nI 1431655765))) (nI 2)) &&& (nI 858993459))) + (ushr (((a - ((ushr a (nI 1)) &&& (nI 1431655765))) &&& (nI 858993459)) + ((ushr (a - ((ushr a (nI 1)) &&& (nI 1431655765))) (nI 2)) &&& (nI 858993459))) (nI 4))) &&& (nI 252645135)) (nI 8))) + (ushr ((((((a - ((ushr a (nI 1)) &&& (nI 1431655765))) &&& (nI 858993459)) + ((ushr (a - ((ushr a (nI 1)) &&& (nI 1431655765))) (nI 2)) &&& (nI 858993459))) + (ushr (((a - ((ushr a (nI 1)) &&& (nI 1431655765))) &&& (nI 858993459)) + ((ushr (a - ((ushr a (nI 1)) &&& (nI 1431655765))) (nI 2)) &&& (nI 858993459))) (nI 4))) &&& (nI 252645135)) + (ushr (((((a - ((ushr a (nI 1)) &&& (nI 1431655765))) &&& (nI 858993459)) + ((ushr (a - ((ushr a (nI 1)) &&& (nI 1431655765))) (nI 2)) &&& (nI 858993459))) + (ushr (((a - ((ushr a (nI 1)) &&& (nI 1431655765))) &&& (nI 858993459)) + ((ushr (a - ((ushr a (nI 1)) &&& (nI 1431655765))) (nI 2)) &&& (nI 858993459))) (nI 4))) &&& (nI 252645135)) (nI 8))) (nI 16))))], [.int ((((((((a - ((ushr a (nI 1)) &&& (nI 1431655765))) &&& (nI 858993459)) + ((ushr (a - ((ushr a (nI 1)) &&& (nI 1431655765))) (nI 2)) &&& (nI 858993459))) + (ushr (((a - ((ushr a (nI 1)) &&& (nI 1431655765))) &&& (nI 858993459)) + ((ushr (a - ((ushr a (nI 1)) &&& (nI 1431655765))) (nI 2)) &&& (nI 858993459))) (nI 4))) &&& (nI 252645135)) + (ushr (((((a - ((ushr a (nI 1)) &&& (nI 1431655765))) &&& (nI 858993459)) + ((ushr (a - ((ushr a (nI 1)) &&& (nI 1431655765))) (nI 2)) &&& (nI 858993459))) + (ushr (((a - ((ushr a (nI 1)) &&& (nI 1431655765))) &&& (nI 858993459)) + ((ushr (a - ((ushr a (nI 1)) &&& (nI 1431655765))) (nI 2)) &&& (nI 858993459))) (nI 4))) &&& (nI 252645135)) (nI 8))) + (ushr ((((((a - ((ushr a (nI 1)) &&& (nI 1431655765))) &&& (nI 858993459)) + ((ushr (a - ((ushr a (nI 1)) &&& (nI 1431655765))) (nI 2)) &&& (nI 858993459))) + (ushr (((a - ((ushr a (nI 1)) &&& (nI 1431655765))) &&& (nI 858993459)) + ((ushr (a - ((ushr a (nI 1)) &&& (nI 1431655765))) (nI 2)) &&& (nI 858993459))) (nI 4))) &&& (nI 252645135)) + (ushr (((((a - ((ushr a (nI 1)) &&& (nI 1431655765))) &&& (nI 858993459)) + ((ushr (a - ((ushr a (nI 1)) &&& (nI 1431655765))) (nI 2)) &&& (nI 858993459))) + (ushr (((a - ((ushr a (nI 1)) &&& (nI 1431655765))) &&& (nI 858993459)) + ((ushr (a - ((ushr a (nI 1)) &&& (nI 1431655765))) (nI 2)) &&& (nI 858993459))) (nI 4))) &&& (nI 252645135)) (nI 8))) (nI 16))) &&& (nI 63))], h, 198, sl) = some R := hh
  have er1 : R = (some (.int ((((((((a - ((ushr a (nI 1)) &&& (nI 1431655765))) &&& (nI 858993459)) + ((ushr (a - ((ushr a (nI 1)) &&& (nI 1431655765))) (nI 2)) &&& (nI 858993459))) + (ushr (((a - ((ushr a (nI 1)) &&& (nI 1431655765))) &&& (nI 858993459)) + ((ushr (a - ((ushr a (nI 1)) &&& (nI 1431655765))) (nI 2)) &&& (nI 858993459))) (nI 4))) &&& (nI 252645135)) + (ushr (((((a - ((ushr a (nI 1)) &&& (nI 1431655765))) &&& (nI 858993459)) + ((ushr (a - ((ushr a (nI 1)) &&& (nI 1431655765))) (nI 2)) &&& (nI 858993459))) + (ushr (((a - ((ushr a (nI 1)) &&& (nI 1431655765))) &&& (nI 858993459)) + ((ushr (a - ((ushr a (nI 1)) &&& (nI 1431655765))) (nI 2)) &&& (nI 858993459))) (nI 4))) &&& (nI 252645135)) (nI 8))) + (ushr ((((((a - ((ushr a (nI 1)) &&& (nI 1431655765))) &&& (nI 858993459)) + ((ushr (a - ((ushr a (nI 1)) &&& (nI 1431655765))) (nI 2)) &&& (nI 858993459))) + (ushr (((a - ((ushr a (nI 1)) &&& (nI 1431655765))) &&& (nI 858993459)) + ((ushr (a - ((ushr a (nI 1)) &&& (nI 1431655765))) (nI 2)) &&& (nI 858993459))) (nI 4))) &&& (nI 252645135)) + (ushr (((((a - ((ushr a (nI 1)) &&& (nI 1431655765))) &&& (nI 858993459)) + ((ushr (a - ((ushr a (nI 1)) &&& (nI 1431655765))) (nI 2)) &&& (nI 858993459))) + (ushr (((a - ((ushr a (nI 1)) &&& (nI 1431655765))) &&& (nI 858993459)) + ((ushr (a - ((ushr a (nI 1)) &&& (nI 1431655765))) (nI 2)) &&& (nI 858993459))) (nI 4))) &&& (nI 252645135)) (nI 8))) (nI 16))) &&& (nI 63))), h, 198, sl) := (rn_ret rfl (Or.inl rfl) hh).2
  have ed : v270 q cc gc a = (((((((a - ((ushr a (nI 1)) &&& (nI 1431655765))) &&& (nI 858993459)) + ((ushr (a - ((ushr a (nI 1)) &&& (nI 1431655765))) (nI 2)) &&& (nI 858993459))) + (ushr (((a - ((ushr a (nI 1)) &&& (nI 1431655765))) &&& (nI 858993459)) + ((ushr (a - ((ushr a (nI 1)) &&& (nI 1431655765))) (nI 2)) &&& (nI 858993459))) (nI 4))) &&& (nI 252645135)) + (ushr (((((a - ((ushr a (nI 1)) &&& (nI 1431655765))) &&& (nI 858993459)) + ((ushr (a - ((ushr a (nI 1)) &&& (nI 1431655765))) (nI 2)) &&& (nI 858993459))) + (ushr (((a - ((ushr a (nI 1)) &&& (nI 1431655765))) &&& (nI 858993459)) + ((ushr (a - ((ushr a (nI 1)) &&& (nI 1431655765))) (nI 2)) &&& (nI 858993459))) (nI 4))) &&& (nI 252645135)) (nI 8))) + (ushr ((((((a - ((ushr a (nI 1)) &&& (nI 1431655765))) &&& (nI 858993459)) + ((ushr (a - ((ushr a (nI 1)) &&& (nI 1431655765))) (nI 2)) &&& (nI 858993459))) + (ushr (((a - ((ushr a (nI 1)) &&& (nI 1431655765))) &&& (nI 858993459)) + ((ushr (a - ((ushr a (nI 1)) &&& (nI 1431655765))) (nI 2)) &&& (nI 858993459))) (nI 4))) &&& (nI 252645135)) + (ushr (((((a - ((ushr a (nI 1)) &&& (nI 1431655765))) &&& (nI 858993459)) + ((ushr (a - ((ushr a (nI 1)) &&& (nI 1431655765))) (nI 2)) &&& (nI 858993459))) + (ushr (((a - ((ushr a (nI 1)) &&& (nI 1431655765))) &&& (nI 858993459)) + ((ushr (a - ((ushr a (nI 1)) &&& (nI 1431655765))) (nI 2)) &&& (nI 858993459))) (nI 4))) &&& (nI 252645135)) (nI 8))) (nI 16))) &&& (nI 63) := rfl
  rw [ed]
  exact er1
def v164 (q : QT) (cc gc : Nat) (a : Int32) (b : Int32) : Bool := cond (pm_cmp .ne ((shr a b) &&& (nI 1)) (nI 1)) false true
theorem v164_ok {n fr lo sl cc gc : Nat} {q : QT} {h : pm_H} {R : pm_Rs} {a : Int32} {b : Int32} (hw : HC q cc gc h) (hh : pm_run PT n fr lo 164 (0, pm_l0 [.int a, .int b] 2, [], h, 198, sl) = some R) : R = (some (.int (cond (v164 q cc gc a b) 1 0)), h, 198, sl) := by
  have hcc := hw.cb
  have hgc := hw.gb
  have hzr := hw.zr
  obtain ⟨n, hh⟩ := rn_i rfl rfl rfl rfl hh
  obtain ⟨n, hh⟩ := rn_i rfl rfl rfl rfl hh
  obtain ⟨n, hh⟩ := rn_i rfl rfl rfl rfl hh
  obtain ⟨n, hh⟩ := rn_i rfl rfl rfl rfl hh
  obtain ⟨n, hh⟩ := rn_i rfl rfl rfl rfl hh
  obtain ⟨n, hh⟩ := rn_i rfl rfl rfl rfl hh
  have hh : pm_run PT n fr lo 164 (6, [some (.int a), some (.int b)], [.int (nI 1), .int ((shr a b) &&& (nI 1))], h, 198, sl) = some R := hh
  obtain ⟨n, hh⟩ := en_cn (cc := .ne) (off := 7) (t := 13) (b := pm_cmp .ne ((shr a b) &&& (nI 1)) (nI 1)) rfl rfl rfl hh
  have hj2 : ∃ mJ, pm_run PT mJ fr lo 164 (cond (pm_cmp .ne ((shr a b) &&& (nI 1)) (nI 1)) (14, [some (.int a), some (.int b)], [.int (nI 0)], h, 198, sl) (14, [some (.int a), some (.int b)], [.int (nI 1)], h, 198, sl)) = some R := en_J (fun z1 => by
      have hh := en_t z1 hh
      have hh : pm_run PT n fr lo 164 (13, [some (.int a), some (.int b)], [], h, 198, sl) = some R := hh
      obtain ⟨n, hh⟩ := rn_i rfl rfl rfl rfl hh
      exact ⟨n, hh⟩) (fun z1 => by
      have hh := en_f z1 hh
      have hh : pm_run PT n fr lo 164 (9, [some (.int a), some (.int b)], [], h, 198, sl) = some R := hh
      obtain ⟨n, hh⟩ := rn_i rfl rfl rfl rfl hh
      obtain ⟨n, hh⟩ := rn_i rfl rfl rfl rfl hh
      exact ⟨n, hh⟩)
  obtain ⟨n, hh⟩ := hj2
  rw [show (cond (pm_cmp .ne ((shr a b) &&& (nI 1)) (nI 1)) (14, [some (.int a), some (.int b)], [.int (nI 0)], h, 198, sl) (14, [some (.int a), some (.int b)], [.int (nI 1)], h, 198, sl) : pm_St) = (14, [some (.int a), some (.int b)], [.int (cond (cond (pm_cmp .ne ((shr a b) &&& (nI 1)) (nI 1)) false true) 1 0)], h, 198, sl) from by cases (pm_cmp .ne ((shr a b) &&& (nI 1)) (nI 1)) <;> rfl] at hh
  have hh : pm_run PT n fr lo 164 (14, [some (.int a), some (.int b)], [.int (cond (cond (pm_cmp .ne ((shr a b) &&& (nI 1)) (nI 1)) false true) 1 0)], h, 198, sl) = some R := hh
  have er3 : R = (some (.int (cond (cond (pm_cmp .ne ((shr a b) &&& (nI 1)) (nI 1)) false true) 1 0)), h, 198, sl) := (rn_ret rfl (Or.inr rfl) hh).2
  have ed : v164 q cc gc a b = cond (pm_cmp .ne ((shr a b) &&& (nI 1)) (nI 1)) false true := rfl
  rw [ed]
  exact er3
def v74 (q : QT) (cc gc : Nat) (d0 : Int32) (g : Nat) : Bool := cond (pm_cmp .eq ((shr (d0) (nI g)) &&& (nI 1)) 0) false true
theorem v74_ok {n fr lo sl cc gc : Nat} {q : QT} {h : pm_H} {R : pm_Rs} {g : Nat} (hw : HC q cc gc h) (h_g : g < 10000) (hh : pm_run PT n fr lo 74 (0, pm_l0 [.ref 13, .int (nI g)] 2, [], h, 198, sl) = some R) : R = (some (.int (cond (v74 q cc gc (Fi h 13 5) g) 1 0)), h, 198, sl) := by
  have hcc := hw.cb
  have hgc := hw.gb
  have hzr := hw.zr
  obtain ⟨n, hh⟩ := rn_i rfl rfl rfl rfl hh
  have hh : pm_run PT n fr lo 74 (1, [some (.ref 13), some (.int (nI g))], [.ref 13], h, 198, sl) = some R := hh
  obtain ⟨n, hh⟩ := rn_gi (x := Fi h 13 5) hw.wt rfl rfl (by decide) rfl (by decide) rfl rfl hh
  obtain ⟨n, hh⟩ := rn_i rfl rfl rfl rfl hh
  obtain ⟨n, hh⟩ := rn_i rfl rfl rfl rfl hh
  obtain ⟨n, hh⟩ := rn_i rfl rfl rfl rfl hh
  obtain ⟨n, hh⟩ := rn_i rfl rfl rfl rfl hh
  have hh : pm_run PT n fr lo 74 (8, [some (.ref 13), some (.int (nI g))], [.int ((shr (Fi h 13 5) (nI g)) &&& (nI 1))], h, 198, sl) = some R := hh
  obtain ⟨n, hh⟩ := en_zn (cc := .eq) (off := 7) (t := 15) (b := pm_cmp .eq ((shr (Fi h 13 5) (nI g)) &&& (nI 1)) 0) rfl rfl rfl hh
  have hj2 : ∃ mJ, pm_run PT mJ fr lo 74 (cond (pm_cmp .eq ((shr (Fi h 13 5) (nI g)) &&& (nI 1)) 0) (16, [some (.ref 13), some (.int (nI g))], [.int (nI 0)], h, 198, sl) (16, [some (.ref 13), some (.int (nI g))], [.int (nI 1)], h, 198, sl)) = some R := en_J (fun z1 => by
      have hh := en_t z1 hh
      have hh : pm_run PT n fr lo 74 (15, [some (.ref 13), some (.int (nI g))], [], h, 198, sl) = some R := hh
      obtain ⟨n, hh⟩ := rn_i rfl rfl rfl rfl hh
      exact ⟨n, hh⟩) (fun z1 => by
      have hh := en_f z1 hh
      have hh : pm_run PT n fr lo 74 (11, [some (.ref 13), some (.int (nI g))], [], h, 198, sl) = some R := hh
      obtain ⟨n, hh⟩ := rn_i rfl rfl rfl rfl hh
      obtain ⟨n, hh⟩ := rn_i rfl rfl rfl rfl hh
      exact ⟨n, hh⟩)
  obtain ⟨n, hh⟩ := hj2
  rw [show (cond (pm_cmp .eq ((shr (Fi h 13 5) (nI g)) &&& (nI 1)) 0) (16, [some (.ref 13), some (.int (nI g))], [.int (nI 0)], h, 198, sl) (16, [some (.ref 13), some (.int (nI g))], [.int (nI 1)], h, 198, sl) : pm_St) = (16, [some (.ref 13), some (.int (nI g))], [.int (cond (cond (pm_cmp .eq ((shr (Fi h 13 5) (nI g)) &&& (nI 1)) 0) false true) 1 0)], h, 198, sl) from by cases (pm_cmp .eq ((shr (Fi h 13 5) (nI g)) &&& (nI 1)) 0) <;> rfl] at hh
  have hh : pm_run PT n fr lo 74 (16, [some (.ref 13), some (.int (nI g))], [.int (cond (cond (pm_cmp .eq ((shr (Fi h 13 5) (nI g)) &&& (nI 1)) 0) false true) 1 0)], h, 198, sl) = some R := hh
  have er3 : R = (some (.int (cond (cond (pm_cmp .eq ((shr (Fi h 13 5) (nI g)) &&& (nI 1)) 0) false true) 1 0)), h, 198, sl) := (rn_ret rfl (Or.inr rfl) hh).2
  have ed : v74 q cc gc (Fi h 13 5) g = cond (pm_cmp .eq ((shr (Fi h 13 5) (nI g)) &&& (nI 1)) 0) false true := rfl
  rw [ed]
  exact er3
def v75 (q : QT) (cc gc : Nat) (d0 : Nat → Int32) (g : Nat) (c : Nat) : Bool := cond (pm_cmp .eq ((shr ((d0) g) (nI c)) &&& (nI 1)) 0) false true
theorem v75_ok {n fr lo sl cc gc : Nat} {q : QT} {h : pm_H} {R : pm_Rs} {g : Nat} {c : Nat} (hw : HC q cc gc h) (h_g : g < 10000) (h_c : c < 10000) (hh : pm_run PT n fr lo 75 (0, pm_l0 [.ref 13, .int (nI g), .int (nI c)] 3, [], h, 198, sl) = some R) : R = (some (.int (cond (v75 q cc gc (Ar h 18) g c) 1 0)), h, 198, sl) := by
  have hcc := hw.cb
  have hgc := hw.gb
  have hzr := hw.zr
  obtain ⟨n, hh⟩ := rn_i rfl rfl rfl rfl hh
  have hh : pm_run PT n fr lo 75 (1, [some (.ref 13), some (.int (nI g)), some (.int (nI c))], [.ref 13], h, 198, sl) = some R := hh
  obtain ⟨n, hh⟩ := rn_gr hw.wt rfl rfl (by decide) rfl (by decide) (show _ = some (2, ((18 : Nat) : Int), 1) from rfl) rfl hh
  obtain ⟨n, hh⟩ := rn_i rfl rfl rfl rfl hh
  have hh : pm_run PT n fr lo 75 (5, [some (.ref 13), some (.int (nI g)), some (.int (nI c))], [.int (nI g), .ref 18], h, 198, sl) = some R := hh
  obtain ⟨n, hx1, hh⟩ := en_lu (t := g) (f := Ar h 18) (w := (Ar h 18) g) (nI_clamp (by omega)) hw.wt rfl (by decide) rfl (by decide) rfl (fun _ => rfl) hh
  obtain ⟨n, hh⟩ := rn_i rfl rfl rfl rfl hh
  obtain ⟨n, hh⟩ := rn_i rfl rfl rfl rfl hh
  obtain ⟨n, hh⟩ := rn_i rfl rfl rfl rfl hh
  obtain ⟨n, hh⟩ := rn_i rfl rfl rfl rfl hh
  have hh : pm_run PT n fr lo 75 (10, [some (.ref 13), some (.int (nI g)), some (.int (nI c))], [.int ((shr ((Ar h 18) g) (nI c)) &&& (nI 1))], h, 198, sl) = some R := hh
  obtain ⟨n, hh⟩ := en_zn (cc := .eq) (off := 7) (t := 17) (b := pm_cmp .eq ((shr ((Ar h 18) g) (nI c)) &&& (nI 1)) 0) rfl rfl rfl hh
  have hj3 : ∃ mJ, pm_run PT mJ fr lo 75 (cond (pm_cmp .eq ((shr ((Ar h 18) g) (nI c)) &&& (nI 1)) 0) (18, [some (.ref 13), some (.int (nI g)), some (.int (nI c))], [.int (nI 0)], h, 198, sl) (18, [some (.ref 13), some (.int (nI g)), some (.int (nI c))], [.int (nI 1)], h, 198, sl)) = some R := en_J (fun z2 => by
      have hh := en_t z2 hh
      have hh : pm_run PT n fr lo 75 (17, [some (.ref 13), some (.int (nI g)), some (.int (nI c))], [], h, 198, sl) = some R := hh
      obtain ⟨n, hh⟩ := rn_i rfl rfl rfl rfl hh
      exact ⟨n, hh⟩) (fun z2 => by
      have hh := en_f z2 hh
      have hh : pm_run PT n fr lo 75 (13, [some (.ref 13), some (.int (nI g)), some (.int (nI c))], [], h, 198, sl) = some R := hh
      obtain ⟨n, hh⟩ := rn_i rfl rfl rfl rfl hh
      obtain ⟨n, hh⟩ := rn_i rfl rfl rfl rfl hh
      exact ⟨n, hh⟩)
  obtain ⟨n, hh⟩ := hj3
  rw [show (cond (pm_cmp .eq ((shr ((Ar h 18) g) (nI c)) &&& (nI 1)) 0) (18, [some (.ref 13), some (.int (nI g)), some (.int (nI c))], [.int (nI 0)], h, 198, sl) (18, [some (.ref 13), some (.int (nI g)), some (.int (nI c))], [.int (nI 1)], h, 198, sl) : pm_St) = (18, [some (.ref 13), some (.int (nI g)), some (.int (nI c))], [.int (cond (cond (pm_cmp .eq ((shr ((Ar h 18) g) (nI c)) &&& (nI 1)) 0) false true) 1 0)], h, 198, sl) from by cases (pm_cmp .eq ((shr ((Ar h 18) g) (nI c)) &&& (nI 1)) 0) <;> rfl] at hh
  have hh : pm_run PT n fr lo 75 (18, [some (.ref 13), some (.int (nI g)), some (.int (nI c))], [.int (cond (cond (pm_cmp .eq ((shr ((Ar h 18) g) (nI c)) &&& (nI 1)) 0) false true) 1 0)], h, 198, sl) = some R := hh
  have er4 : R = (some (.int (cond (cond (pm_cmp .eq ((shr ((Ar h 18) g) (nI c)) &&& (nI 1)) 0) false true) 1 0)), h, 198, sl) := (rn_ret rfl (Or.inr rfl) hh).2
  have ed : v75 q cc gc (Ar h 18) g c = cond (pm_cmp .eq ((shr ((Ar h 18) g) (nI c)) &&& (nI 1)) 0) false true := rfl
  rw [ed]
  exact er4
theorem v74t_ok {n fr lo sl cc gc : Nat} {q : QT} {h : pm_H} {R : pm_Rs} {g : Nat} (hw : HC q cc gc h) (h_g : g < 10000) (hh : pm_run PT n fr lo 74 (0, pm_l0 [.ref 19, .int (nI g)] 2, [], h, 198, sl) = some R) : R = (some (.int (cond (v74 q cc gc (Fi h 19 5) g) 1 0)), h, 198, sl) := by
  have hcc := hw.cb
  have hgc := hw.gb
  have hzr := hw.zr
  obtain ⟨n, hh⟩ := rn_i rfl rfl rfl rfl hh
  have hh : pm_run PT n fr lo 74 (1, [some (.ref 19), some (.int (nI g))], [.ref 19], h, 198, sl) = some R := hh
  obtain ⟨n, hh⟩ := rn_gi (x := Fi h 19 5) hw.wt rfl rfl (by decide) rfl (by decide) rfl rfl hh
  obtain ⟨n, hh⟩ := rn_i rfl rfl rfl rfl hh
  obtain ⟨n, hh⟩ := rn_i rfl rfl rfl rfl hh
  obtain ⟨n, hh⟩ := rn_i rfl rfl rfl rfl hh
  obtain ⟨n, hh⟩ := rn_i rfl rfl rfl rfl hh
  have hh : pm_run PT n fr lo 74 (8, [some (.ref 19), some (.int (nI g))], [.int ((shr (Fi h 19 5) (nI g)) &&& (nI 1))], h, 198, sl) = some R := hh
  obtain ⟨n, hh⟩ := en_zn (cc := .eq) (off := 7) (t := 15) (b := pm_cmp .eq ((shr (Fi h 19 5) (nI g)) &&& (nI 1)) 0) rfl rfl rfl hh
  have hj2 : ∃ mJ, pm_run PT mJ fr lo 74 (cond (pm_cmp .eq ((shr (Fi h 19 5) (nI g)) &&& (nI 1)) 0) (16, [some (.ref 19), some (.int (nI g))], [.int (nI 0)], h, 198, sl) (16, [some (.ref 19), some (.int (nI g))], [.int (nI 1)], h, 198, sl)) = some R := en_J (fun z1 => by
      have hh := en_t z1 hh
      have hh : pm_run PT n fr lo 74 (15, [some (.ref 19), some (.int (nI g))], [], h, 198, sl) = some R := hh
      obtain ⟨n, hh⟩ := rn_i rfl rfl rfl rfl hh
      exact ⟨n, hh⟩) (fun z1 => by
      have hh := en_f z1 hh
      have hh : pm_run PT n fr lo 74 (11, [some (.ref 19), some (.int (nI g))], [], h, 198, sl) = some R := hh
      obtain ⟨n, hh⟩ := rn_i rfl rfl rfl rfl hh
      obtain ⟨n, hh⟩ := rn_i rfl rfl rfl rfl hh
      exact ⟨n, hh⟩)
  obtain ⟨n, hh⟩ := hj2
  rw [show (cond (pm_cmp .eq ((shr (Fi h 19 5) (nI g)) &&& (nI 1)) 0) (16, [some (.ref 19), some (.int (nI g))], [.int (nI 0)], h, 198, sl) (16, [some (.ref 19), some (.int (nI g))], [.int (nI 1)], h, 198, sl) : pm_St) = (16, [some (.ref 19), some (.int (nI g))], [.int (cond (cond (pm_cmp .eq ((shr (Fi h 19 5) (nI g)) &&& (nI 1)) 0) false true) 1 0)], h, 198, sl) from by cases (pm_cmp .eq ((shr (Fi h 19 5) (nI g)) &&& (nI 1)) 0) <;> rfl] at hh
  have hh : pm_run PT n fr lo 74 (16, [some (.ref 19), some (.int (nI g))], [.int (cond (cond (pm_cmp .eq ((shr (Fi h 19 5) (nI g)) &&& (nI 1)) 0) false true) 1 0)], h, 198, sl) = some R := hh
  have er3 : R = (some (.int (cond (cond (pm_cmp .eq ((shr (Fi h 19 5) (nI g)) &&& (nI 1)) 0) false true) 1 0)), h, 198, sl) := (rn_ret rfl (Or.inr rfl) hh).2
  have ed : v74 q cc gc (Fi h 19 5) g = cond (pm_cmp .eq ((shr (Fi h 19 5) (nI g)) &&& (nI 1)) 0) false true := rfl
  rw [ed]
  exact er3
theorem v75t_ok {n fr lo sl cc gc : Nat} {q : QT} {h : pm_H} {R : pm_Rs} {g : Nat} {c : Nat} (hw : HC q cc gc h) (h_g : g < 10000) (h_c : c < 10000) (hh : pm_run PT n fr lo 75 (0, pm_l0 [.ref 19, .int (nI g), .int (nI c)] 3, [], h, 198, sl) = some R) : R = (some (.int (cond (v75 q cc gc (Ar h 24) g c) 1 0)), h, 198, sl) := by
  have hcc := hw.cb
  have hgc := hw.gb
  have hzr := hw.zr
  obtain ⟨n, hh⟩ := rn_i rfl rfl rfl rfl hh
  have hh : pm_run PT n fr lo 75 (1, [some (.ref 19), some (.int (nI g)), some (.int (nI c))], [.ref 19], h, 198, sl) = some R := hh
  obtain ⟨n, hh⟩ := rn_gr hw.wt rfl rfl (by decide) rfl (by decide) (show _ = some (2, ((24 : Nat) : Int), 1) from rfl) rfl hh
  obtain ⟨n, hh⟩ := rn_i rfl rfl rfl rfl hh
  have hh : pm_run PT n fr lo 75 (5, [some (.ref 19), some (.int (nI g)), some (.int (nI c))], [.int (nI g), .ref 24], h, 198, sl) = some R := hh
  obtain ⟨n, hx1, hh⟩ := en_lu (t := g) (f := Ar h 24) (w := (Ar h 24) g) (nI_clamp (by omega)) hw.wt rfl (by decide) rfl (by decide) rfl (fun _ => rfl) hh
  obtain ⟨n, hh⟩ := rn_i rfl rfl rfl rfl hh
  obtain ⟨n, hh⟩ := rn_i rfl rfl rfl rfl hh
  obtain ⟨n, hh⟩ := rn_i rfl rfl rfl rfl hh
  obtain ⟨n, hh⟩ := rn_i rfl rfl rfl rfl hh
  have hh : pm_run PT n fr lo 75 (10, [some (.ref 19), some (.int (nI g)), some (.int (nI c))], [.int ((shr ((Ar h 24) g) (nI c)) &&& (nI 1))], h, 198, sl) = some R := hh
  obtain ⟨n, hh⟩ := en_zn (cc := .eq) (off := 7) (t := 17) (b := pm_cmp .eq ((shr ((Ar h 24) g) (nI c)) &&& (nI 1)) 0) rfl rfl rfl hh
  have hj3 : ∃ mJ, pm_run PT mJ fr lo 75 (cond (pm_cmp .eq ((shr ((Ar h 24) g) (nI c)) &&& (nI 1)) 0) (18, [some (.ref 19), some (.int (nI g)), some (.int (nI c))], [.int (nI 0)], h, 198, sl) (18, [some (.ref 19), some (.int (nI g)), some (.int (nI c))], [.int (nI 1)], h, 198, sl)) = some R := en_J (fun z2 => by
      have hh := en_t z2 hh
      have hh : pm_run PT n fr lo 75 (17, [some (.ref 19), some (.int (nI g)), some (.int (nI c))], [], h, 198, sl) = some R := hh
      obtain ⟨n, hh⟩ := rn_i rfl rfl rfl rfl hh
      exact ⟨n, hh⟩) (fun z2 => by
      have hh := en_f z2 hh
      have hh : pm_run PT n fr lo 75 (13, [some (.ref 19), some (.int (nI g)), some (.int (nI c))], [], h, 198, sl) = some R := hh
      obtain ⟨n, hh⟩ := rn_i rfl rfl rfl rfl hh
      obtain ⟨n, hh⟩ := rn_i rfl rfl rfl rfl hh
      exact ⟨n, hh⟩)
  obtain ⟨n, hh⟩ := hj3
  rw [show (cond (pm_cmp .eq ((shr ((Ar h 24) g) (nI c)) &&& (nI 1)) 0) (18, [some (.ref 19), some (.int (nI g)), some (.int (nI c))], [.int (nI 0)], h, 198, sl) (18, [some (.ref 19), some (.int (nI g)), some (.int (nI c))], [.int (nI 1)], h, 198, sl) : pm_St) = (18, [some (.ref 19), some (.int (nI g)), some (.int (nI c))], [.int (cond (cond (pm_cmp .eq ((shr ((Ar h 24) g) (nI c)) &&& (nI 1)) 0) false true) 1 0)], h, 198, sl) from by cases (pm_cmp .eq ((shr ((Ar h 24) g) (nI c)) &&& (nI 1)) 0) <;> rfl] at hh
  have hh : pm_run PT n fr lo 75 (18, [some (.ref 19), some (.int (nI g)), some (.int (nI c))], [.int (cond (cond (pm_cmp .eq ((shr ((Ar h 24) g) (nI c)) &&& (nI 1)) 0) false true) 1 0)], h, 198, sl) = some R := hh
  have er4 : R = (some (.int (cond (cond (pm_cmp .eq ((shr ((Ar h 24) g) (nI c)) &&& (nI 1)) 0) false true) 1 0)), h, 198, sl) := (rn_ret rfl (Or.inr rfl) hh).2
  have ed : v75 q cc gc (Ar h 24) g c = cond (pm_cmp .eq ((shr ((Ar h 24) g) (nI c)) &&& (nI 1)) 0) false true := rfl
  rw [ed]
  exact er4
def v29_5b (q : QT) (cc gc : Nat) (d0 : Nat → Int32) (m2 : Nat) (i : Nat) (x3 : Int32) : Int32 := cond (pm_cmp .ne ((d0) i) (nI m2)) x3 (x3 ||| (shl (nI 1) (nI i)))
def v29_5 (q : QT) (cc gc : Nat) (d0 : Nat → Int32) (m2 : Nat) (j i : Nat) (a : Int32) : Int32 := lp (fun i a => v29_5b q cc gc d0 m2 i a) j i a
def v29 (q : QT) (cc gc : Nat) (d0 : Nat → Int32) (c : Nat) : Int32 := (v29_5 q cc gc (d0) c gc 0 (nI 0))
def v36_4b (q : QT) (cc gc : Nat) (d0 : Nat → Int32) (i : Nat) (x2 : Int32) : Int32 := x2 + ((d0) i)
def v36_4 (q : QT) (cc gc : Nat) (d0 : Nat → Int32) (j i : Nat) (a : Int32) : Int32 := lp (fun i a => v36_4b q cc gc d0 i a) j i a
theorem v36_4_e {n fr lo sl cc gc : Nat} {q : QT} {h : pm_H} {R : pm_Rs} {i : Nat} {x2 : Int32} (hw : HC q cc gc h) (hi : cc ≤ i) (hI : i < 1000000) (hh : pm_run PT n fr lo 36 (4, [some (.ref 5), some (.ref 13), some (.int x2), some (.int (nI i))], [], h, 198, sl) = some R) : ∃ m, pm_run PT m fr lo 36 (27, [some (.ref 5), some (.ref 13), some (.int x2), some (.int (nI i))], [], h, 198, sl) = some R := by
  have hcc := hw.cb
  have hgc := hw.gb
  have hzr := hw.zr
  obtain ⟨n, hh⟩ := rn_i rfl rfl rfl rfl hh
  obtain ⟨n, hh⟩ := rn_i rfl rfl rfl rfl hh
  have hh : pm_run PT n fr lo 36 (6, [some (.ref 5), some (.ref 13), some (.int x2), some (.int (nI i))], [.ref 5, .int (nI i)], h, 198, sl) = some R := hh
  obtain ⟨n, hh⟩ := rn_gi (x := nI cc) hw.wt rfl rfl (by decide) rfl (by decide) rfl hw.x0 hh
  have hh : pm_run PT n fr lo 36 (9, [some (.ref 5), some (.ref 13), some (.int x2), some (.int (nI i))], [.int (nI cc), .int (nI i)], h, 198, sl) = some R := hh
  obtain ⟨n, hh⟩ := en_cn (cc := .ge) (off := 18) (t := 27) (b := decide (cc ≤ i)) (hI_ge (by omega) (by omega)) rfl rfl hh
  have hh := en_t (show decide (cc ≤ i) = true from decide_eq_true (by omega)) hh
  have hh : pm_run PT n fr lo 36 (27, [some (.ref 5), some (.ref 13), some (.int x2), some (.int (nI i))], [], h, 198, sl) = some R := hh
  exact ⟨n, hh⟩
theorem v36_4_s {n fr lo sl cc gc : Nat} {q : QT} {h : pm_H} {R : pm_Rs} {i : Nat} {x2 : Int32} (hw : HC q cc gc h) (hi : i < cc) (hI : i < 1000000) (hh : pm_run PT n fr lo 36 (4, [some (.ref 5), some (.ref 13), some (.int x2), some (.int (nI i))], [], h, 198, sl) = some R) : ∃ m, pm_run PT m fr lo 36 (4, [some (.ref 5), some (.ref 13), some (.int (v36_4b q cc gc (Ar h 14) i x2)), some (.int (nI (i + 1)))], [], h, 198, sl) = some R := by
  have hcc := hw.cb
  have hgc := hw.gb
  have hzr := hw.zr
  obtain ⟨n, hh⟩ := rn_i rfl rfl rfl rfl hh
  obtain ⟨n, hh⟩ := rn_i rfl rfl rfl rfl hh
  have hh : pm_run PT n fr lo 36 (6, [some (.ref 5), some (.ref 13), some (.int x2), some (.int (nI i))], [.ref 5, .int (nI i)], h, 198, sl) = some R := hh
  obtain ⟨n, hh⟩ := rn_gi (x := nI cc) hw.wt rfl rfl (by decide) rfl (by decide) rfl hw.x0 hh
  have hh : pm_run PT n fr lo 36 (9, [some (.ref 5), some (.ref 13), some (.int x2), some (.int (nI i))], [.int (nI cc), .int (nI i)], h, 198, sl) = some R := hh
  obtain ⟨n, hh⟩ := en_cn (cc := .ge) (off := 18) (t := 27) (b := decide (cc ≤ i)) (hI_ge (by omega) (by omega)) rfl rfl hh
  have hh := en_f (show decide (cc ≤ i) = false from decide_eq_false (by omega)) hh
  have hh : pm_run PT n fr lo 36 (12, [some (.ref 5), some (.ref 13), some (.int x2), some (.int (nI i))], [], h, 198, sl) = some R := hh
  obtain ⟨n, hh⟩ := rn_i rfl rfl rfl rfl hh
  obtain ⟨n, hh⟩ := rn_i rfl rfl rfl rfl hh
  have hh : pm_run PT n fr lo 36 (14, [some (.ref 5), some (.ref 13), some (.int x2), some (.int (nI i))], [.ref 13, .int x2], h, 198, sl) = some R := hh
  obtain ⟨n, hh⟩ := rn_gr hw.wt rfl rfl (by decide) rfl (by decide) (show _ = some (2, ((14 : Nat) : Int), 1) from rfl) rfl hh
  obtain ⟨n, hh⟩ := rn_i rfl rfl rfl rfl hh
  have hh : pm_run PT n fr lo 36 (18, [some (.ref 5), some (.ref 13), some (.int x2), some (.int (nI i))], [.int (nI i), .ref 14, .int x2], h, 198, sl) = some R := hh
  obtain ⟨n, hx1, hh⟩ := en_lu (t := i) (f := Ar h 14) (w := (Ar h 14) i) (nI_clamp (by omega)) hw.wt rfl (by decide) rfl (by decide) rfl (fun _ => rfl) hh
  obtain ⟨n, hh⟩ := rn_i rfl rfl rfl rfl hh
  obtain ⟨n, hh⟩ := rn_i rfl rfl rfl rfl hh
  have hh : pm_run PT n fr lo 36 (21, [some (.ref 5), some (.ref 13), some (.int (x2 + ((Ar h 14) i))), some (.int (nI i))], [], h, 198, sl) = some R := hh
  obtain ⟨n, hh⟩ := en_inc (x := i) (c := 1) (j := 3) rfl rfl (by decide) hh
  have hh : pm_run PT n fr lo 36 (24, [some (.ref 5), some (.ref 13), some (.int (x2 + ((Ar h 14) i))), some (.int (nI (i + 1)))], [], h, 198, sl) = some R := hh
  obtain ⟨n, hh⟩ := rn_i rfl rfl rfl rfl hh
  have ed : v36_4b q cc gc (Ar h 14) i x2 = x2 + ((Ar h 14) i) := rfl
  rw [ed]
  exact ⟨n, hh⟩
theorem v36_4_ok {fr lo sl cc gc : Nat} {q : QT} {R : pm_Rs} : ∀ {j i : Nat} {x2 : Int32} {h : pm_H} {n : Nat}, cc - i = j → i + j < 1000000 → HC q cc gc h → pm_run PT n fr lo 36 (4, [some (.ref 5), some (.ref 13), some (.int x2), some (.int (nI i))], [], h, 198, sl) = some R → ∃ m wc, pm_run PT m fr lo 36 (27, [some (.ref 5), some (.ref 13), some (.int (v36_4 q cc gc (Ar h 14) j i x2)), wc], [], h, 198, sl) = some R := by
  intro j
  induction j with
  | zero =>
    intro i x2 h n e eI hw hh
    obtain ⟨n, hh⟩ := v36_4_e hw (by omega) (by omega) hh
    exact ⟨n, _, hh⟩
  | succ j ih =>
    intro i x2 h n e eI hw hh
    obtain ⟨n, hh⟩ := v36_4_s hw (by omega) (by omega) hh
    obtain ⟨n, wc, hh⟩ := ih (by omega) (by omega) hw hh
    exact ⟨n, wc, hh⟩
def v36 (q : QT) (cc gc : Nat) (d0 : Nat → Int32) : Int32 := (v36_4 q cc gc (d0) cc 0 (nI 0))
theorem v36_ok {n fr lo sl cc gc : Nat} {q : QT} {h : pm_H} {R : pm_Rs} (hw : HC q cc gc h) (hh : pm_run PT n fr lo 36 (0, pm_l0 [.ref 5, .ref 13] 4, [], h, 198, sl) = some R) : R = (some (.int (v36 q cc gc (Ar h 14))), h, 198, sl) := by
  have hcc := hw.cb
  have hgc := hw.gb
  have hzr := hw.zr
  obtain ⟨n, hh⟩ := rn_i rfl rfl rfl rfl hh
  obtain ⟨n, hh⟩ := rn_i rfl rfl rfl rfl hh
  obtain ⟨n, hh⟩ := rn_i rfl rfl rfl rfl hh
  obtain ⟨n, hh⟩ := rn_i rfl rfl rfl rfl hh
  have hh : pm_run PT n fr lo 36 (4, [some (.ref 5), some (.ref 13), some (.int (nI 0)), some (.int (nI 0))], [], h, 198, sl) = some R := hh
  obtain ⟨n, u1, hh⟩ := v36_4_ok  (i := 0) (x2 := (nI 0)) (j := cc) (by omega) (by omega) hw hh
  have hh : pm_run PT n fr lo 36 (27, [some (.ref 5), some (.ref 13), some (.int (v36_4 q cc gc (Ar h 14) cc 0 (nI 0))), u1], [], h, 198, sl) = some R := hh
  obtain ⟨n, hh⟩ := rn_i rfl rfl rfl rfl hh
  have hh : pm_run PT n fr lo 36 (28, [some (.ref 5), some (.ref 13), some (.int (v36_4 q cc gc (Ar h 14) cc 0 (nI 0))), u1], [.int (v36_4 q cc gc (Ar h 14) cc 0 (nI 0))], h, 198, sl) = some R := hh
  have er2 : R = (some (.int (v36_4 q cc gc (Ar h 14) cc 0 (nI 0))), h, 198, sl) := (rn_ret rfl (Or.inl rfl) hh).2
  have ed : v36 q cc gc (Ar h 14) = (v36_4 q cc gc (Ar h 14) cc 0 (nI 0)) := rfl
  rw [ed]
  exact er2
def v37_5b (q : QT) (cc gc : Nat) (d0 : Nat → Int32) (m2 : Nat) (i : Nat) (x3 : Int32) : Int32 := cond (decide (i = m2)) x3 (x3 + ((d0) (i * 6 + m2)))
def v37_5 (q : QT) (cc gc : Nat) (d0 : Nat → Int32) (m2 : Nat) (j i : Nat) (a : Int32) : Int32 := lp (fun i a => v37_5b q cc gc d0 m2 i a) j i a
def v37 (q : QT) (cc gc : Nat) (d0 : Nat → Int32) (c : Nat) : Int32 := (v37_5 q cc gc (d0) c cc 0 (nI 0))
def v7_5b (q : QT) (cc gc : Nat) (d0 : Nat → Int32) (m2 : Nat) (i : Nat) (x3 : Int32) : Int32 := x3 + ((d0) (m2 * 6 + i))
def v7_5 (q : QT) (cc gc : Nat) (d0 : Nat → Int32) (m2 : Nat) (j i : Nat) (a : Int32) : Int32 := lp (fun i a => v7_5b q cc gc d0 m2 i a) j i a
def v7 (q : QT) (cc gc : Nat) (d0 : Nat → Int32) (c : Nat) : Int32 := (v7_5 q cc gc (d0) c cc 0 (nI 0))
def v8_5b (q : QT) (cc gc : Nat) (d0 : Nat → Int32) (m2 : Nat) (i : Nat) (x3 : Int32) : Int32 := x3 + ((d0) (i * 6 + m2))
def v8_5 (q : QT) (cc gc : Nat) (d0 : Nat → Int32) (m2 : Nat) (j i : Nat) (a : Int32) : Int32 := lp (fun i a => v8_5b q cc gc d0 m2 i a) j i a
def v8 (q : QT) (cc gc : Nat) (d0 : Nat → Int32) (c : Nat) : Int32 := (v8_5 q cc gc (d0) c cc 0 (nI 0))
end EA
end MG95zzxax2
end MH95zux7
section MH95zux8
section MG95zzxdx0
/-! runs told exactly, written by ext.py -/
section EB
def v173 (q : QT) (cc gc : Nat) (d0 : Nat → Int32) (g : Nat) : Bool := v164 q cc gc ((d0) 94) (nI g)
theorem v173_ok {n fr lo sl cc gc : Nat} {q : QT} {h : pm_H} {R : pm_Rs} {g : Nat} (hw : HC q cc gc h) (h_g : g < 10000) (hh : pm_run PT n fr lo 173 (0, pm_l0 [.ref 170, .int (nI g)] 2, [], h, 198, sl) = some R) : R = (some (.int (cond (v173 q cc gc (Ar h 170) g) 1 0)), h, 198, sl) := by
  have hcc := hw.cb
  have hgc := hw.gb
  have hzr := hw.zr
  obtain ⟨n, hh⟩ := rn_i rfl rfl rfl rfl hh
  obtain ⟨n, hh⟩ := rn_i rfl rfl rfl rfl hh
  have hh : pm_run PT n fr lo 173 (3, [some (.ref 170), some (.int (nI g))], [.int (nI 94), .ref 170], h, 198, sl) = some R := hh
  obtain ⟨n, hx1, hh⟩ := en_lu (t := 94) (f := Ar h 170) (w := (Ar h 170) 94) (nI_clamp (by omega)) hw.wt rfl (by decide) rfl (by decide) rfl (fun _ => rfl) hh
  obtain ⟨n, hh⟩ := rn_i rfl rfl rfl rfl hh
  have hh : pm_run PT n fr lo 173 (5, [some (.ref 170), some (.int (nI g))], [.int (nI g), .int ((Ar h 170) 94)], h, 198, sl) = some R := hh
  obtain ⟨n, fr1, lo1, r1, hh1, hh⟩ := rn_call (w := 2) (t := 164) rfl rfl hh
  have er2 := v164_ok (a := ((Ar h 170) 94)) (b := (nI g)) hw hh1
  subst er2
  have hh : pm_run PT n fr lo 173 (8, [some (.ref 170), some (.int (nI g))], [.int (cond (v164 q cc gc ((Ar h 170) 94) (nI g)) 1 0)], h, 198, sl) = some R := hh
  have er3 : R = (some (.int (cond (v164 q cc gc ((Ar h 170) 94) (nI g)) 1 0)), h, 198, sl) := (rn_ret rfl (Or.inr rfl) hh).2
  have ed : v173 q cc gc (Ar h 170) g = v164 q cc gc ((Ar h 170) 94) (nI g) := rfl
  rw [ed]
  exact er3
def v174_5b (q : QT) (cc gc : Nat) (d0 : Nat → Int32) (m2 : Nat) (i : Nat) (x3 : Int32) : Int32 := x3 ||| (cond (pm_cmp .ne ((d0) (78 + i)) (nI m2)) (nI 0) (shl (nI 1) (nI i)))
def v174_5 (q : QT) (cc gc : Nat) (d0 : Nat → Int32) (m2 : Nat) (j i : Nat) (a : Int32) : Int32 := lp (fun i a => v174_5b q cc gc d0 m2 i a) j i a
def v174 (q : QT) (cc gc : Nat) (d0 : Nat → Int32) (c : Nat) : Int32 := (v174_5 q cc gc (d0) c gc 0 (nI 0))
def v177_4b (q : QT) (cc gc : Nat) (d0 : Nat → Int32) (i : Nat) (x2 : Int32) : Int32 := x2 + ((d0) i)
def v177_4 (q : QT) (cc gc : Nat) (d0 : Nat → Int32) (j i : Nat) (a : Int32) : Int32 := lp (fun i a => v177_4b q cc gc d0 i a) j i a
theorem v177_4_e {n fr lo sl cc gc : Nat} {q : QT} {h : pm_H} {R : pm_Rs} {i : Nat} {x2 : Int32} (hw : HC q cc gc h) (hi : cc ≤ i) (hI : i < 1000000) (hh : pm_run PT n fr lo 177 (4, [some (.ref 162), some (.ref 170), some (.int x2), some (.int (nI i))], [], h, 198, sl) = some R) : ∃ m, pm_run PT m fr lo 177 (24, [some (.ref 162), some (.ref 170), some (.int x2), some (.int (nI i))], [], h, 198, sl) = some R := by
  have hcc := hw.cb
  have hgc := hw.gb
  have hzr := hw.zr
  obtain ⟨n, hh⟩ := rn_i rfl rfl rfl rfl hh
  obtain ⟨n, hh⟩ := rn_i rfl rfl rfl rfl hh
  have hh : pm_run PT n fr lo 177 (6, [some (.ref 162), some (.ref 170), some (.int x2), some (.int (nI i))], [.ref 162, .int (nI i)], h, 198, sl) = some R := hh
  obtain ⟨n, hh⟩ := rn_gi (x := nI cc) hw.wt rfl rfl (by decide) rfl (by decide) rfl hw.m3 hh
  have hh : pm_run PT n fr lo 177 (9, [some (.ref 162), some (.ref 170), some (.int x2), some (.int (nI i))], [.int (nI cc), .int (nI i)], h, 198, sl) = some R := hh
  obtain ⟨n, hh⟩ := en_cn (cc := .ge) (off := 15) (t := 24) (b := decide (cc ≤ i)) (hI_ge (by omega) (by omega)) rfl rfl hh
  have hh := en_t (show decide (cc ≤ i) = true from decide_eq_true (by omega)) hh
  have hh : pm_run PT n fr lo 177 (24, [some (.ref 162), some (.ref 170), some (.int x2), some (.int (nI i))], [], h, 198, sl) = some R := hh
  exact ⟨n, hh⟩
theorem v177_4_s {n fr lo sl cc gc : Nat} {q : QT} {h : pm_H} {R : pm_Rs} {i : Nat} {x2 : Int32} (hw : HC q cc gc h) (hi : i < cc) (hI : i < 1000000) (hh : pm_run PT n fr lo 177 (4, [some (.ref 162), some (.ref 170), some (.int x2), some (.int (nI i))], [], h, 198, sl) = some R) : ∃ m, pm_run PT m fr lo 177 (4, [some (.ref 162), some (.ref 170), some (.int (v177_4b q cc gc (Ar h 170) i x2)), some (.int (nI (i + 1)))], [], h, 198, sl) = some R := by
  have hcc := hw.cb
  have hgc := hw.gb
  have hzr := hw.zr
  obtain ⟨n, hh⟩ := rn_i rfl rfl rfl rfl hh
  obtain ⟨n, hh⟩ := rn_i rfl rfl rfl rfl hh
  have hh : pm_run PT n fr lo 177 (6, [some (.ref 162), some (.ref 170), some (.int x2), some (.int (nI i))], [.ref 162, .int (nI i)], h, 198, sl) = some R := hh
  obtain ⟨n, hh⟩ := rn_gi (x := nI cc) hw.wt rfl rfl (by decide) rfl (by decide) rfl hw.m3 hh
  have hh : pm_run PT n fr lo 177 (9, [some (.ref 162), some (.ref 170), some (.int x2), some (.int (nI i))], [.int (nI cc), .int (nI i)], h, 198, sl) = some R := hh
  obtain ⟨n, hh⟩ := en_cn (cc := .ge) (off := 15) (t := 24) (b := decide (cc ≤ i)) (hI_ge (by omega) (by omega)) rfl rfl hh
  have hh := en_f (show decide (cc ≤ i) = false from decide_eq_false (by omega)) hh
  have hh : pm_run PT n fr lo 177 (12, [some (.ref 162), some (.ref 170), some (.int x2), some (.int (nI i))], [], h, 198, sl) = some R := hh
  obtain ⟨n, hh⟩ := rn_i rfl rfl rfl rfl hh
  obtain ⟨n, hh⟩ := rn_i rfl rfl rfl rfl hh
  obtain ⟨n, hh⟩ := rn_i rfl rfl rfl rfl hh
  have hh : pm_run PT n fr lo 177 (15, [some (.ref 162), some (.ref 170), some (.int x2), some (.int (nI i))], [.int (nI i), .ref 170, .int x2], h, 198, sl) = some R := hh
  obtain ⟨n, hx1, hh⟩ := en_lu (t := i) (f := Ar h 170) (w := (Ar h 170) i) (nI_clamp (by omega)) hw.wt rfl (by decide) rfl (by decide) rfl (fun _ => rfl) hh
  obtain ⟨n, hh⟩ := rn_i rfl rfl rfl rfl hh
  obtain ⟨n, hh⟩ := rn_i rfl rfl rfl rfl hh
  have hh : pm_run PT n fr lo 177 (18, [some (.ref 162), some (.ref 170), some (.int (x2 + ((Ar h 170) i))), some (.int (nI i))], [], h, 198, sl) = some R := hh
  obtain ⟨n, hh⟩ := en_inc (x := i) (c := 1) (j := 3) rfl rfl (by decide) hh
  have hh : pm_run PT n fr lo 177 (21, [some (.ref 162), some (.ref 170), some (.int (x2 + ((Ar h 170) i))), some (.int (nI (i + 1)))], [], h, 198, sl) = some R := hh
  obtain ⟨n, hh⟩ := rn_i rfl rfl rfl rfl hh
  have ed : v177_4b q cc gc (Ar h 170) i x2 = x2 + ((Ar h 170) i) := rfl
  rw [ed]
  exact ⟨n, hh⟩
theorem v177_4_ok {fr lo sl cc gc : Nat} {q : QT} {R : pm_Rs} : ∀ {j i : Nat} {x2 : Int32} {h : pm_H} {n : Nat}, cc - i = j → i + j < 1000000 → HC q cc gc h → pm_run PT n fr lo 177 (4, [some (.ref 162), some (.ref 170), some (.int x2), some (.int (nI i))], [], h, 198, sl) = some R → ∃ m wc, pm_run PT m fr lo 177 (24, [some (.ref 162), some (.ref 170), some (.int (v177_4 q cc gc (Ar h 170) j i x2)), wc], [], h, 198, sl) = some R := by
  intro j
  induction j with
  | zero =>
    intro i x2 h n e eI hw hh
    obtain ⟨n, hh⟩ := v177_4_e hw (by omega) (by omega) hh
    exact ⟨n, _, hh⟩
  | succ j ih =>
    intro i x2 h n e eI hw hh
    obtain ⟨n, hh⟩ := v177_4_s hw (by omega) (by omega) hh
    obtain ⟨n, wc, hh⟩ := ih (by omega) (by omega) hw hh
    exact ⟨n, wc, hh⟩
def v177 (q : QT) (cc gc : Nat) (d0 : Nat → Int32) : Int32 := (v177_4 q cc gc (d0) cc 0 (nI 0))
theorem v177_ok {n fr lo sl cc gc : Nat} {q : QT} {h : pm_H} {R : pm_Rs} (hw : HC q cc gc h) (hh : pm_run PT n fr lo 177 (0, pm_l0 [.ref 162, .ref 170] 4, [], h, 198, sl) = some R) : R = (some (.int (v177 q cc gc (Ar h 170))), h, 198, sl) := by
  have hcc := hw.cb
  have hgc := hw.gb
  have hzr := hw.zr
  obtain ⟨n, hh⟩ := rn_i rfl rfl rfl rfl hh
  obtain ⟨n, hh⟩ := rn_i rfl rfl rfl rfl hh
  obtain ⟨n, hh⟩ := rn_i rfl rfl rfl rfl hh
  obtain ⟨n, hh⟩ := rn_i rfl rfl rfl rfl hh
  have hh : pm_run PT n fr lo 177 (4, [some (.ref 162), some (.ref 170), some (.int (nI 0)), some (.int (nI 0))], [], h, 198, sl) = some R := hh
  obtain ⟨n, u1, hh⟩ := v177_4_ok  (i := 0) (x2 := (nI 0)) (j := cc) (by omega) (by omega) hw hh
  have hh : pm_run PT n fr lo 177 (24, [some (.ref 162), some (.ref 170), some (.int (v177_4 q cc gc (Ar h 170) cc 0 (nI 0))), u1], [], h, 198, sl) = some R := hh
  obtain ⟨n, hh⟩ := rn_i rfl rfl rfl rfl hh
  have hh : pm_run PT n fr lo 177 (25, [some (.ref 162), some (.ref 170), some (.int (v177_4 q cc gc (Ar h 170) cc 0 (nI 0))), u1], [.int (v177_4 q cc gc (Ar h 170) cc 0 (nI 0))], h, 198, sl) = some R := hh
  have er2 : R = (some (.int (v177_4 q cc gc (Ar h 170) cc 0 (nI 0))), h, 198, sl) := (rn_ret rfl (Or.inl rfl) hh).2
  have ed : v177 q cc gc (Ar h 170) = (v177_4 q cc gc (Ar h 170) cc 0 (nI 0)) := rfl
  rw [ed]
  exact er2
theorem v173t_ok {n fr lo sl cc gc : Nat} {q : QT} {h : pm_H} {R : pm_Rs} {g : Nat} (hw : HC q cc gc h) (h_g : g < 10000) (hh : pm_run PT n fr lo 173 (0, pm_l0 [.ref 171, .int (nI g)] 2, [], h, 198, sl) = some R) : R = (some (.int (cond (v173 q cc gc (Ar h 171) g) 1 0)), h, 198, sl) := by
  have hcc := hw.cb
  have hgc := hw.gb
  have hzr := hw.zr
  obtain ⟨n, hh⟩ := rn_i rfl rfl rfl rfl hh
  obtain ⟨n, hh⟩ := rn_i rfl rfl rfl rfl hh
  have hh : pm_run PT n fr lo 173 (3, [some (.ref 171), some (.int (nI g))], [.int (nI 94), .ref 171], h, 198, sl) = some R := hh
  obtain ⟨n, hx1, hh⟩ := en_lu (t := 94) (f := Ar h 171) (w := (Ar h 171) 94) (nI_clamp (by omega)) hw.wt rfl (by decide) rfl (by decide) rfl (fun _ => rfl) hh
  obtain ⟨n, hh⟩ := rn_i rfl rfl rfl rfl hh
  have hh : pm_run PT n fr lo 173 (5, [some (.ref 171), some (.int (nI g))], [.int (nI g), .int ((Ar h 171) 94)], h, 198, sl) = some R := hh
  obtain ⟨n, fr1, lo1, r1, hh1, hh⟩ := rn_call (w := 2) (t := 164) rfl rfl hh
  have er2 := v164_ok (a := ((Ar h 171) 94)) (b := (nI g)) hw hh1
  subst er2
  have hh : pm_run PT n fr lo 173 (8, [some (.ref 171), some (.int (nI g))], [.int (cond (v164 q cc gc ((Ar h 171) 94) (nI g)) 1 0)], h, 198, sl) = some R := hh
  have er3 : R = (some (.int (cond (v164 q cc gc ((Ar h 171) 94) (nI g)) 1 0)), h, 198, sl) := (rn_ret rfl (Or.inr rfl) hh).2
  have ed : v173 q cc gc (Ar h 171) g = v164 q cc gc ((Ar h 171) 94) (nI g) := rfl
  rw [ed]
  exact er3
theorem v174t_5_e {n fr lo sl cc gc : Nat} {q : QT} {h : pm_H} {R : pm_Rs} {m2 : Nat} {i : Nat} {x3 : Int32} (hw : HC q cc gc h) (h_m2 : m2 < 10000) (hi : gc ≤ i) (hI : i < 1000000) (hh : pm_run PT n fr lo 174 (5, [some (.ref 162), some (.ref 171), some (.int (nI m2)), some (.int x3), some (.int (nI i))], [], h, 198, sl) = some R) : ∃ m, pm_run PT m fr lo 174 (42, [some (.ref 162), some (.ref 171), some (.int (nI m2)), some (.int x3), some (.int (nI i))], [], h, 198, sl) = some R := by
  have hcc := hw.cb
  have hgc := hw.gb
  have hzr := hw.zr
  obtain ⟨n, hh⟩ := rn_i rfl rfl rfl rfl hh
  obtain ⟨n, hh⟩ := rn_i rfl rfl rfl rfl hh
  have hh : pm_run PT n fr lo 174 (8, [some (.ref 162), some (.ref 171), some (.int (nI m2)), some (.int x3), some (.int (nI i))], [.ref 162, .int (nI i)], h, 198, sl) = some R := hh
  obtain ⟨n, hh⟩ := rn_gi (x := nI gc) hw.wt rfl rfl (by decide) rfl (by decide) rfl hw.m4 hh
  have hh : pm_run PT n fr lo 174 (11, [some (.ref 162), some (.ref 171), some (.int (nI m2)), some (.int x3), some (.int (nI i))], [.int (nI gc), .int (nI i)], h, 198, sl) = some R := hh
  obtain ⟨n, hh⟩ := en_cn (cc := .ge) (off := 31) (t := 42) (b := decide (gc ≤ i)) (hI_ge (by omega) (by omega)) rfl rfl hh
  have hh := en_t (show decide (gc ≤ i) = true from decide_eq_true (by omega)) hh
  have hh : pm_run PT n fr lo 174 (42, [some (.ref 162), some (.ref 171), some (.int (nI m2)), some (.int x3), some (.int (nI i))], [], h, 198, sl) = some R := hh
  exact ⟨n, hh⟩
theorem v174t_5_s {n fr lo sl cc gc : Nat} {q : QT} {h : pm_H} {R : pm_Rs} {m2 : Nat} {i : Nat} {x3 : Int32} (hw : HC q cc gc h) (h_m2 : m2 < 10000) (hi : i < gc) (hI : i < 1000000) (hh : pm_run PT n fr lo 174 (5, [some (.ref 162), some (.ref 171), some (.int (nI m2)), some (.int x3), some (.int (nI i))], [], h, 198, sl) = some R) : ∃ m, pm_run PT m fr lo 174 (5, [some (.ref 162), some (.ref 171), some (.int (nI m2)), some (.int (v174_5b q cc gc (Ar h 171) m2 i x3)), some (.int (nI (i + 1)))], [], h, 198, sl) = some R := by
  have hcc := hw.cb
  have hgc := hw.gb
  have hzr := hw.zr
  obtain ⟨n, hh⟩ := rn_i rfl rfl rfl rfl hh
  obtain ⟨n, hh⟩ := rn_i rfl rfl rfl rfl hh
  have hh : pm_run PT n fr lo 174 (8, [some (.ref 162), some (.ref 171), some (.int (nI m2)), some (.int x3), some (.int (nI i))], [.ref 162, .int (nI i)], h, 198, sl) = some R := hh
  obtain ⟨n, hh⟩ := rn_gi (x := nI gc) hw.wt rfl rfl (by decide) rfl (by decide) rfl hw.m4 hh
  have hh : pm_run PT n fr lo 174 (11, [some (.ref 162), some (.ref 171), some (.int (nI m2)), some (.int x3), some (.int (nI i))], [.int (nI gc), .int (nI i)], h, 198, sl) = some R := hh
  obtain ⟨n, hh⟩ := en_cn (cc := .ge) (off := 31) (t := 42) (b := decide (gc ≤ i)) (hI_ge (by omega) (by omega)) rfl rfl hh
  have hh := en_f (show decide (gc ≤ i) = false from decide_eq_false (by omega)) hh
  have hh : pm_run PT n fr lo 174 (14, [some (.ref 162), some (.ref 171), some (.int (nI m2)), some (.int x3), some (.int (nI i))], [], h, 198, sl) = some R := hh
  obtain ⟨n, hh⟩ := rn_i rfl rfl rfl rfl hh
  obtain ⟨n, hh⟩ := rn_i rfl rfl rfl rfl hh
  obtain ⟨n, hh⟩ := rn_i rfl rfl rfl rfl hh
  obtain ⟨n, hh⟩ := rn_i rfl rfl rfl rfl hh
  have hh : pm_run PT n fr lo 174 (20, [some (.ref 162), some (.ref 171), some (.int (nI m2)), some (.int x3), some (.int (nI i))], [.int (nI i), .int (nI 78), .ref 171, .int x3], h, 198, sl) = some R := hh
  obtain ⟨n, hh⟩ := en_add rfl hh
  have hh : pm_run PT n fr lo 174 (21, [some (.ref 162), some (.ref 171), some (.int (nI m2)), some (.int x3), some (.int (nI i))], [.int (nI (78 + i)), .ref 171, .int x3], h, 198, sl) = some R := hh
  have hh : pm_run PT n fr lo 174 (21, [some (.ref 162), some (.ref 171), some (.int (nI m2)), some (.int x3), some (.int (nI i))], [.int (nI (78 + i)), .ref 171, .int x3], h, 198, sl) = some R := hh
  obtain ⟨n, hx1, hh⟩ := en_lu (t := 78 + i) (f := Ar h 171) (w := (Ar h 171) (78 + i)) (nI_clamp (by omega)) hw.wt rfl (by decide) rfl (by decide) rfl (fun _ => rfl) hh
  obtain ⟨n, hh⟩ := rn_i rfl rfl rfl rfl hh
  have hh : pm_run PT n fr lo 174 (23, [some (.ref 162), some (.ref 171), some (.int (nI m2)), some (.int x3), some (.int (nI i))], [.int (nI m2), .int ((Ar h 171) (78 + i)), .int x3], h, 198, sl) = some R := hh
  obtain ⟨n, hh⟩ := en_cn (cc := .ne) (off := 10) (t := 33) (b := pm_cmp .ne ((Ar h 171) (78 + i)) (nI m2)) rfl rfl rfl hh
  have hj3 : ∃ mJ, pm_run PT mJ fr lo 174 (cond (pm_cmp .ne ((Ar h 171) (78 + i)) (nI m2)) (34, [some (.ref 162), some (.ref 171), some (.int (nI m2)), some (.int x3), some (.int (nI i))], [.int (nI 0), .int x3], h, 198, sl) (34, [some (.ref 162), some (.ref 171), some (.int (nI m2)), some (.int x3), some (.int (nI i))], [.int (shl (nI 1) (nI i)), .int x3], h, 198, sl)) = some R := en_J (fun z2 => by
      have hh := en_t z2 hh
      have hh : pm_run PT n fr lo 174 (33, [some (.ref 162), some (.ref 171), some (.int (nI m2)), some (.int x3), some (.int (nI i))], [.int x3], h, 198, sl) = some R := hh
      obtain ⟨n, hh⟩ := rn_i rfl rfl rfl rfl hh
      exact ⟨n, hh⟩) (fun z2 => by
      have hh := en_f z2 hh
      have hh : pm_run PT n fr lo 174 (26, [some (.ref 162), some (.ref 171), some (.int (nI m2)), some (.int x3), some (.int (nI i))], [.int x3], h, 198, sl) = some R := hh
      obtain ⟨n, hh⟩ := rn_i rfl rfl rfl rfl hh
      obtain ⟨n, hh⟩ := rn_i rfl rfl rfl rfl hh
      obtain ⟨n, hh⟩ := rn_i rfl rfl rfl rfl hh
      obtain ⟨n, hh⟩ := rn_i rfl rfl rfl rfl hh
      exact ⟨n, hh⟩)
  obtain ⟨n, hh⟩ := hj3
  rw [show (cond (pm_cmp .ne ((Ar h 171) (78 + i)) (nI m2)) (34, [some (.ref 162), some (.ref 171), some (.int (nI m2)), some (.int x3), some (.int (nI i))], [.int (nI 0), .int x3], h, 198, sl) (34, [some (.ref 162), some (.ref 171), some (.int (nI m2)), some (.int x3), some (.int (nI i))], [.int (shl (nI 1) (nI i)), .int x3], h, 198, sl) : pm_St) = (34, [some (.ref 162), some (.ref 171), some (.int (nI m2)), some (.int x3), some (.int (nI i))], [.int (cond (pm_cmp .ne ((Ar h 171) (78 + i)) (nI m2)) (nI 0) (shl (nI 1) (nI i))), .int x3], h, 198, sl) from by cases (pm_cmp .ne ((Ar h 171) (78 + i)) (nI m2)) <;> rfl] at hh
  obtain ⟨n, hh⟩ := rn_i rfl rfl rfl rfl hh
  obtain ⟨n, hh⟩ := rn_i rfl rfl rfl rfl hh
  have hh : pm_run PT n fr lo 174 (36, [some (.ref 162), some (.ref 171), some (.int (nI m2)), some (.int (x3 ||| (cond (pm_cmp .ne ((Ar h 171) (78 + i)) (nI m2)) (nI 0) (shl (nI 1) (nI i))))), some (.int (nI i))], [], h, 198, sl) = some R := hh
  obtain ⟨n, hh⟩ := en_inc (x := i) (c := 1) (j := 4) rfl rfl (by decide) hh
  have hh : pm_run PT n fr lo 174 (39, [some (.ref 162), some (.ref 171), some (.int (nI m2)), some (.int (x3 ||| (cond (pm_cmp .ne ((Ar h 171) (78 + i)) (nI m2)) (nI 0) (shl (nI 1) (nI i))))), some (.int (nI (i + 1)))], [], h, 198, sl) = some R := hh
  obtain ⟨n, hh⟩ := rn_i rfl rfl rfl rfl hh
  have ed : v174_5b q cc gc (Ar h 171) m2 i x3 = x3 ||| (cond (pm_cmp .ne ((Ar h 171) (78 + i)) (nI m2)) (nI 0) (shl (nI 1) (nI i))) := rfl
  rw [ed]
  exact ⟨n, hh⟩
theorem v174t_5_ok {fr lo sl cc gc : Nat} {q : QT} {R : pm_Rs} {m2 : Nat} : ∀ {j i : Nat} {x3 : Int32} {h : pm_H} {n : Nat}, gc - i = j → i + j < 1000000 → HC q cc gc h → m2 < 10000 → pm_run PT n fr lo 174 (5, [some (.ref 162), some (.ref 171), some (.int (nI m2)), some (.int x3), some (.int (nI i))], [], h, 198, sl) = some R → ∃ m wc, pm_run PT m fr lo 174 (42, [some (.ref 162), some (.ref 171), some (.int (nI m2)), some (.int (v174_5 q cc gc (Ar h 171) m2 j i x3)), wc], [], h, 198, sl) = some R := by
  intro j
  induction j with
  | zero =>
    intro i x3 h n e eI hw h_m2 hh
    obtain ⟨n, hh⟩ := v174t_5_e hw h_m2 (by omega) (by omega) hh
    exact ⟨n, _, hh⟩
  | succ j ih =>
    intro i x3 h n e eI hw h_m2 hh
    obtain ⟨n, hh⟩ := v174t_5_s hw h_m2 (by omega) (by omega) hh
    obtain ⟨n, wc, hh⟩ := ih (by omega) (by omega) hw h_m2 hh
    exact ⟨n, wc, hh⟩
theorem v174t_ok {n fr lo sl cc gc : Nat} {q : QT} {h : pm_H} {R : pm_Rs} {c : Nat} (hw : HC q cc gc h) (h_c : c < 10000) (hh : pm_run PT n fr lo 174 (0, pm_l0 [.ref 162, .ref 171, .int (nI c)] 5, [], h, 198, sl) = some R) : R = (some (.int (v174 q cc gc (Ar h 171) c)), h, 198, sl) := by
  have hcc := hw.cb
  have hgc := hw.gb
  have hzr := hw.zr
  obtain ⟨n, hh⟩ := rn_i rfl rfl rfl rfl hh
  obtain ⟨n, hh⟩ := rn_i rfl rfl rfl rfl hh
  obtain ⟨n, hh⟩ := rn_i rfl rfl rfl rfl hh
  obtain ⟨n, hh⟩ := rn_i rfl rfl rfl rfl hh
  have hh : pm_run PT n fr lo 174 (5, [some (.ref 162), some (.ref 171), some (.int (nI c)), some (.int (nI 0)), some (.int (nI 0))], [], h, 198, sl) = some R := hh
  obtain ⟨n, u1, hh⟩ := v174t_5_ok (m2 := c)  (i := 0) (x3 := (nI 0)) (j := gc) (by omega) (by omega) hw (by omega) hh
  have hh : pm_run PT n fr lo 174 (42, [some (.ref 162), some (.ref 171), some (.int (nI c)), some (.int (v174_5 q cc gc (Ar h 171) c gc 0 (nI 0))), u1], [], h, 198, sl) = some R := hh
  obtain ⟨n, hh⟩ := rn_i rfl rfl rfl rfl hh
  have hh : pm_run PT n fr lo 174 (43, [some (.ref 162), some (.ref 171), some (.int (nI c)), some (.int (v174_5 q cc gc (Ar h 171) c gc 0 (nI 0))), u1], [.int (v174_5 q cc gc (Ar h 171) c gc 0 (nI 0))], h, 198, sl) = some R := hh
  have er2 : R = (some (.int (v174_5 q cc gc (Ar h 171) c gc 0 (nI 0))), h, 198, sl) := (rn_ret rfl (Or.inl rfl) hh).2
  have ed : v174 q cc gc (Ar h 171) c = (v174_5 q cc gc (Ar h 171) c gc 0 (nI 0)) := rfl
  rw [ed]
  exact er2
end EB
end MG95zzxdx0
section MG95zzxdx1
/-! a state is copied: any of the class's states into any other -/
section CPY
variable {n fr lo k pc sl cc gc s t j : Nat} {q : QT} {L : pm_L} {S : List Value} {h g h' : pm_H} {R : pm_Rs}
def stL : List Nat := [13, 19, 27, 33, 39, 45, 51, 57, 63, 69, 75, 81, 87, 93, 99, 105, 111, 117, 124, 130, 136]
def isSt (s : Nat) : Bool := stL.elem s
theorem xst_all : stL.all (fun s => decide (s + 6 < 150) && (decide (13 ≤ s) && (decide (wd (bB s) = .inr (7, [(2, ((s + 1 : Nat) : Int), 1), (2, ((s + 2 : Nat) : Int), 1), (2, ((s + 3 : Nat) : Int), 1), (2, ((s + 4 : Nat) : Int), 1), (2, ((s + 5 : Nat) : Int), 1), ai_top, ai_top])) && (decide (wd (bB (s + 1)) = .inl (0, 6, ai_top)) && (decide (wd (bB (s + 2)) = .inl (0, 36, ai_top)) && (decide (wd (bB (s + 3)) = .inl (0, 36, ai_top)) && (decide (wd (bB (s + 4)) = .inl (0, 8, ai_top)) && (decide (wd (bB (s + 5)) = .inl (0, 8, ai_top)) && ((List.range 6).all (fun i => hcA (s + i)) && (hcF s 5 && hcF s 6)))))))))) = true := by decide +kernel
theorem xst_of (hs : isSt s = true) : (s + 6 < 150 ∧ 13 ≤ s) ∧ wd (bB s) = .inr (7, [(2, ((s + 1 : Nat) : Int), 1), (2, ((s + 2 : Nat) : Int), 1), (2, ((s + 3 : Nat) : Int), 1), (2, ((s + 4 : Nat) : Int), 1), (2, ((s + 5 : Nat) : Int), 1), ai_top, ai_top]) ∧ (wd (bB (s + 1)) = .inl (0, 6, ai_top) ∧ wd (bB (s + 2)) = .inl (0, 36, ai_top) ∧ wd (bB (s + 3)) = .inl (0, 36, ai_top) ∧ wd (bB (s + 4)) = .inl (0, 8, ai_top) ∧ wd (bB (s + 5)) = .inl (0, 8, ai_top)) ∧ (∀ i, i < 6 → hcA (s + i) = true) ∧ hcF s 5 = true ∧ hcF s 6 = true := by
  have q := List.all_eq_true.mp xst_all s (List.elem_iff.mp hs)
  simp only [Bool.and_eq_true] at q
  obtain ⟨q1, q2, q3, q4, q5, q6, q7, q8, q9, q10, q11⟩ := q
  exact ⟨⟨of_decide_eq_true q1, of_decide_eq_true q2⟩, of_decide_eq_true q3, ⟨of_decide_eq_true q4, of_decide_eq_true q5, of_decide_eq_true q6, of_decide_eq_true q7, of_decide_eq_true q8⟩, fun i hi => List.all_eq_true.mp q9 i (List.mem_range.mpr hi), q10, q11⟩
theorem av_ids1 (p : Nat) : av_ids (2, (p : Int), 1) = [p] := by
  unfold av_ids
  rfl
/-- what a state tells -/
def cpA (h : pm_H) (s t m : Nat) (i : Nat) (g : pm_H) : pm_H := aset g (s + i) m (va_cpy (Ar h (t + i)) (Ar h (s + i)) 0 0 m)
def cp73 (h : pm_H) (s t : Nat) : pm_H := fset (fset (cpA h s t 8 5 (cpA h s t 8 4 (cpA h s t 36 3 (cpA h s t 36 2 (cpA h s t 6 1 h))))) s 5 (.int (Fi h t 5))) s 6 (.int (Fi h t 6))
theorem cp73_hc (hs : isSt s = true) (hw : HC q cc gc h) : HC q cc gc (cp73 h s t) := by
  obtain ⟨⟨bs, ls⟩, os, ⟨s1, s2, s3, s4, s5⟩, cs, f5, f6⟩ := xst_of hs
  have w1 := hc_a (m := 6) (f := va_cpy (Ar h (t + 1)) (Ar h (s + 1)) 0 0 6) (cs 1 (by decide)) s1 hw
  have w2 := hc_a (m := 36) (f := va_cpy (Ar h (t + 2)) (Ar h (s + 2)) 0 0 36) (cs 2 (by decide)) s2 w1
  have w3 := hc_a (m := 36) (f := va_cpy (Ar h (t + 3)) (Ar h (s + 3)) 0 0 36) (cs 3 (by decide)) s3 w2
  have w4 := hc_a (m := 8) (f := va_cpy (Ar h (t + 4)) (Ar h (s + 4)) 0 0 8) (cs 4 (by decide)) s4 w3
  have w5 := hc_a (m := 8) (f := va_cpy (Ar h (t + 5)) (Ar h (s + 5)) 0 0 8) (cs 5 (by decide)) s5 w4
  have w6 := hc_f (g := 5) (x := Fi h t 5) f5 os (by decide) rfl w5
  exact hc_f (g := 6) (x := Fi h t 6) f6 os (by decide) rfl w6
theorem cp73_ok (hs : isSt s = true) (ht : isSt t = true) (hst : s + 6 ≤ t ∨ t + 6 ≤ s) (hw : HC q cc gc h) (hh : pm_run PT n fr lo 73 (0, pm_l0 [.ref s, .ref t] 2, [], h, 198, sl) = some R) : R = (none, cp73 h s t, 198, sl) ∧ HC q cc gc (cp73 h s t) := by
  obtain ⟨⟨bs, ls⟩, os, ⟨s1, s2, s3, s4, s5⟩, cs, f5, f6⟩ := xst_of hs
  obtain ⟨⟨bt, lt⟩, ot, ⟨t1, t2, t3, t4, t5⟩, -, -, -⟩ := xst_of ht
  have w1 := hc_a (m := 6) (f := va_cpy (Ar h (t + 1)) (Ar h (s + 1)) 0 0 6) (cs 1 (by decide)) s1 hw
  have w2 := hc_a (m := 36) (f := va_cpy (Ar h (t + 2)) (Ar h (s + 2)) 0 0 36) (cs 2 (by decide)) s2 w1
  have w3 := hc_a (m := 36) (f := va_cpy (Ar h (t + 3)) (Ar h (s + 3)) 0 0 36) (cs 3 (by decide)) s3 w2
  have w4 := hc_a (m := 8) (f := va_cpy (Ar h (t + 4)) (Ar h (s + 4)) 0 0 8) (cs 4 (by decide)) s4 w3
  have w5 := hc_a (m := 8) (f := va_cpy (Ar h (t + 5)) (Ar h (s + 5)) 0 0 8) (cs 5 (by decide)) s5 w4
  have w6 := hc_f (g := 5) (x := Fi h t 5) f5 os (by decide) rfl w5
  have w7 := hc_f (g := 6) (x := Fi h t 6) f6 os (by decide) rfl w6
  refine ⟨?_, w7⟩
  obtain ⟨n, hh⟩ := rn_i rfl rfl rfl rfl hh
  have hh : pm_run PT n fr lo 73 (1, [some (.ref s), some (.ref t)], [.ref t], h, 198, sl) = some R := hh
  obtain ⟨n, hh⟩ := rn_gr (p := t + 1) hw.wt rfl rfl (by omega) ot (by decide) rfl (av_ids1 _) hh
  obtain ⟨n, hh⟩ := rn_i rfl rfl rfl rfl hh
  obtain ⟨n, hh⟩ := rn_i rfl rfl rfl rfl hh
  have hh : pm_run PT n fr lo 73 (6, [some (.ref s), some (.ref t)], [.ref s, .int (nI 0), .ref (t + 1)], h, 198, sl) = some R := hh
  obtain ⟨n, hh⟩ := rn_gr (p := s + 1) hw.wt rfl rfl (by omega) os (by decide) rfl (av_ids1 _) hh
  obtain ⟨n, hh⟩ := rn_i rfl rfl rfl rfl hh
  obtain ⟨n, hh⟩ := rn_i rfl rfl rfl rfl hh
  have hh : pm_run PT n fr lo 73 (12, [some (.ref s), some (.ref t)], [.int (nI 6), .int (nI 0), .ref (s + 1), .int (nI 0), .ref (t + 1)], h, 198, sl) = some R := hh
  obtain ⟨n, hh⟩ := rn_cp (f := Ar h (t + 1)) (g := Ar h (s + 1)) hw.wt rfl rfl rfl (by omega) t1 (by decide) rfl (by omega) s1 (by decide) rfl hh
  obtain ⟨n, hh⟩ := rn_i rfl rfl rfl rfl hh
  have hh : pm_run PT n fr lo 73 (16, [some (.ref s), some (.ref t)], [.ref t], cpA h s t 6 1 h, 198, sl) = some R := hh
  obtain ⟨n, hh⟩ := rn_gr (p := t + 2) w1.wt rfl rfl (by omega) ot (by decide) rfl (av_ids1 _) hh
  obtain ⟨n, hh⟩ := rn_i rfl rfl rfl rfl hh
  obtain ⟨n, hh⟩ := rn_i rfl rfl rfl rfl hh
  have hh : pm_run PT n fr lo 73 (21, [some (.ref s), some (.ref t)], [.ref s, .int (nI 0), .ref (t + 2)], cpA h s t 6 1 h, 198, sl) = some R := hh
  obtain ⟨n, hh⟩ := rn_gr (p := s + 2) w1.wt rfl rfl (by omega) os (by decide) rfl (av_ids1 _) hh
  obtain ⟨n, hh⟩ := rn_i rfl rfl rfl rfl hh
  obtain ⟨n, hh⟩ := rn_i rfl rfl rfl rfl hh
  have hh : pm_run PT n fr lo 73 (27, [some (.ref s), some (.ref t)], [.int (nI 36), .int (nI 0), .ref (s + 2), .int (nI 0), .ref (t + 2)], cpA h s t 6 1 h, 198, sl) = some R := hh
  obtain ⟨n, hh⟩ := rn_cp (f := Ar h (t + 2)) (g := Ar h (s + 2)) w1.wt rfl rfl rfl (by omega) t2 (by decide) (Ar_n (by omega)) (by omega) s2 (by decide) (Ar_n (by omega)) hh
  obtain ⟨n, hh⟩ := rn_i rfl rfl rfl rfl hh
  have hh : pm_run PT n fr lo 73 (31, [some (.ref s), some (.ref t)], [.ref t], cpA h s t 36 2 (cpA h s t 6 1 h), 198, sl) = some R := hh
  obtain ⟨n, hh⟩ := rn_gr (p := t + 3) w2.wt rfl rfl (by omega) ot (by decide) rfl (av_ids1 _) hh
  obtain ⟨n, hh⟩ := rn_i rfl rfl rfl rfl hh
  obtain ⟨n, hh⟩ := rn_i rfl rfl rfl rfl hh
  have hh : pm_run PT n fr lo 73 (36, [some (.ref s), some (.ref t)], [.ref s, .int (nI 0), .ref (t + 3)], cpA h s t 36 2 (cpA h s t 6 1 h), 198, sl) = some R := hh
  obtain ⟨n, hh⟩ := rn_gr (p := s + 3) w2.wt rfl rfl (by omega) os (by decide) rfl (av_ids1 _) hh
  obtain ⟨n, hh⟩ := rn_i rfl rfl rfl rfl hh
  obtain ⟨n, hh⟩ := rn_i rfl rfl rfl rfl hh
  have hh : pm_run PT n fr lo 73 (42, [some (.ref s), some (.ref t)], [.int (nI 36), .int (nI 0), .ref (s + 3), .int (nI 0), .ref (t + 3)], cpA h s t 36 2 (cpA h s t 6 1 h), 198, sl) = some R := hh
  obtain ⟨n, hh⟩ := rn_cp (f := Ar h (t + 3)) (g := Ar h (s + 3)) w2.wt rfl rfl rfl (by omega) t3 (by decide) ((Ar_n (by omega)).trans (Ar_n (by omega))) (by omega) s3 (by decide) ((Ar_n (by omega)).trans (Ar_n (by omega))) hh
  obtain ⟨n, hh⟩ := rn_i rfl rfl rfl rfl hh
  have hh : pm_run PT n fr lo 73 (46, [some (.ref s), some (.ref t)], [.ref t], cpA h s t 36 3 (cpA h s t 36 2 (cpA h s t 6 1 h)), 198, sl) = some R := hh
  obtain ⟨n, hh⟩ := rn_gr (p := t + 4) w3.wt rfl rfl (by omega) ot (by decide) rfl (av_ids1 _) hh
  obtain ⟨n, hh⟩ := rn_i rfl rfl rfl rfl hh
  obtain ⟨n, hh⟩ := rn_i rfl rfl rfl rfl hh
  have hh : pm_run PT n fr lo 73 (51, [some (.ref s), some (.ref t)], [.ref s, .int (nI 0), .ref (t + 4)], cpA h s t 36 3 (cpA h s t 36 2 (cpA h s t 6 1 h)), 198, sl) = some R := hh
  obtain ⟨n, hh⟩ := rn_gr (p := s + 4) w3.wt rfl rfl (by omega) os (by decide) rfl (av_ids1 _) hh
  obtain ⟨n, hh⟩ := rn_i rfl rfl rfl rfl hh
  obtain ⟨n, hh⟩ := rn_i rfl rfl rfl rfl hh
  have hh : pm_run PT n fr lo 73 (57, [some (.ref s), some (.ref t)], [.int (nI 8), .int (nI 0), .ref (s + 4), .int (nI 0), .ref (t + 4)], cpA h s t 36 3 (cpA h s t 36 2 (cpA h s t 6 1 h)), 198, sl) = some R := hh
  obtain ⟨n, hh⟩ := rn_cp (f := Ar h (t + 4)) (g := Ar h (s + 4)) w3.wt rfl rfl rfl (by omega) t4 (by decide) ((Ar_n (by omega)).trans ((Ar_n (by omega)).trans (Ar_n (by omega)))) (by omega) s4 (by decide) ((Ar_n (by omega)).trans ((Ar_n (by omega)).trans (Ar_n (by omega)))) hh
  obtain ⟨n, hh⟩ := rn_i rfl rfl rfl rfl hh
  have hh : pm_run PT n fr lo 73 (61, [some (.ref s), some (.ref t)], [.ref t], cpA h s t 8 4 (cpA h s t 36 3 (cpA h s t 36 2 (cpA h s t 6 1 h))), 198, sl) = some R := hh
  obtain ⟨n, hh⟩ := rn_gr (p := t + 5) w4.wt rfl rfl (by omega) ot (by decide) rfl (av_ids1 _) hh
  obtain ⟨n, hh⟩ := rn_i rfl rfl rfl rfl hh
  obtain ⟨n, hh⟩ := rn_i rfl rfl rfl rfl hh
  have hh : pm_run PT n fr lo 73 (66, [some (.ref s), some (.ref t)], [.ref s, .int (nI 0), .ref (t + 5)], cpA h s t 8 4 (cpA h s t 36 3 (cpA h s t 36 2 (cpA h s t 6 1 h))), 198, sl) = some R := hh
  obtain ⟨n, hh⟩ := rn_gr (p := s + 5) w4.wt rfl rfl (by omega) os (by decide) rfl (av_ids1 _) hh
  obtain ⟨n, hh⟩ := rn_i rfl rfl rfl rfl hh
  obtain ⟨n, hh⟩ := rn_i rfl rfl rfl rfl hh
  have hh : pm_run PT n fr lo 73 (72, [some (.ref s), some (.ref t)], [.int (nI 8), .int (nI 0), .ref (s + 5), .int (nI 0), .ref (t + 5)], cpA h s t 8 4 (cpA h s t 36 3 (cpA h s t 36 2 (cpA h s t 6 1 h))), 198, sl) = some R := hh
  obtain ⟨n, hh⟩ := rn_cp (f := Ar h (t + 5)) (g := Ar h (s + 5)) w4.wt rfl rfl rfl (by omega) t5 (by decide) ((Ar_n (by omega)).trans ((Ar_n (by omega)).trans ((Ar_n (by omega)).trans (Ar_n (by omega))))) (by omega) s5 (by decide) ((Ar_n (by omega)).trans ((Ar_n (by omega)).trans ((Ar_n (by omega)).trans (Ar_n (by omega))))) hh
  obtain ⟨n, hh⟩ := rn_i rfl rfl rfl rfl hh
  obtain ⟨n, hh⟩ := rn_i rfl rfl rfl rfl hh
  have hh : pm_run PT n fr lo 73 (77, [some (.ref s), some (.ref t)], [.ref t, .ref s], cpA h s t 8 5 (cpA h s t 8 4 (cpA h s t 36 3 (cpA h s t 36 2 (cpA h s t 6 1 h)))), 198, sl) = some R := hh
  obtain ⟨n, hh⟩ := rn_gi (x := Fi h t 5) w5.wt rfl rfl (by omega) ot (by decide) rfl ((Fi_a (by omega)).trans ((Fi_a (by omega)).trans ((Fi_a (by omega)).trans ((Fi_a (by omega)).trans (Fi_a (by omega)))))) hh
  have hh : pm_run PT n fr lo 73 (80, [some (.ref s), some (.ref t)], [.int (Fi h t 5), .ref s], cpA h s t 8 5 (cpA h s t 8 4 (cpA h s t 36 3 (cpA h s t 36 2 (cpA h s t 6 1 h)))), 198, sl) = some R := hh
  obtain ⟨n, hh⟩ := rn_pi w5.wt rfl rfl (by omega) os (by decide) rfl hh
  obtain ⟨n, hh⟩ := rn_i rfl rfl rfl rfl hh
  obtain ⟨n, hh⟩ := rn_i rfl rfl rfl rfl hh
  have hh : pm_run PT n fr lo 73 (85, [some (.ref s), some (.ref t)], [.ref t, .ref s], fset (cpA h s t 8 5 (cpA h s t 8 4 (cpA h s t 36 3 (cpA h s t 36 2 (cpA h s t 6 1 h))))) s 5 (.int (Fi h t 5)), 198, sl) = some R := hh
  obtain ⟨n, hh⟩ := rn_gi (x := Fi h t 6) w6.wt rfl rfl (by omega) ot (by decide) rfl ((Fi_n (Or.inl (by omega))).trans ((Fi_a (by omega)).trans ((Fi_a (by omega)).trans ((Fi_a (by omega)).trans ((Fi_a (by omega)).trans (Fi_a (by omega))))))) hh
  have hh : pm_run PT n fr lo 73 (88, [some (.ref s), some (.ref t)], [.int (Fi h t 6), .ref s], fset (cpA h s t 8 5 (cpA h s t 8 4 (cpA h s t 36 3 (cpA h s t 36 2 (cpA h s t 6 1 h))))) s 5 (.int (Fi h t 5)), 198, sl) = some R := hh
  obtain ⟨n, hh⟩ := rn_pi w6.wt rfl rfl (by omega) os (by decide) rfl hh
  exact rn_vret rfl rfl hh
theorem cpA_ne {m i a : Nat} (z : a ≠ s + i) : cpA h s t m i g a = g a := asR_ne z
/-- nothing else -/
theorem cp73_ne {i : Nat} (z : i < s ∨ s + 6 ≤ i) : cp73 h s t i = h i := by
  unfold cp73
  rw [fs_ne (by omega), fs_ne (by omega), cpA_ne (by omega), cpA_ne (by omega), cpA_ne (by omega), cpA_ne (by omega), cpA_ne (by omega)]
theorem va_cpy0 {f g : Nat → Int32} {m k : Nat} (hk : k < m) : va_cpy f g 0 0 m k = f k := by
  unfold va_cpy
  rw [if_pos ⟨Nat.zero_le _, by omega⟩, Nat.zero_add, Nat.sub_zero]
theorem cp73_a {i m k : Nat} (hm : (i = 1 ∧ m = 6) ∨ (i = 2 ∧ m = 36) ∨ (i = 3 ∧ m = 36) ∨ (i = 4 ∧ m = 8) ∨ (i = 5 ∧ m = 8)) (hk : k < m) : Ar (cp73 h s t) (s + i) k = Ar h (t + i) k := by
  unfold cp73 cpA
  rw [Ar_f, Ar_f]
  rcases hm with ⟨rfl, rfl⟩ | ⟨rfl, rfl⟩ | ⟨rfl, rfl⟩ | ⟨rfl, rfl⟩ | ⟨rfl, rfl⟩
  · rw [Ar_n (by omega), Ar_n (by omega), Ar_n (by omega), Ar_n (by omega), Ar_s, va_cpy0 hk]
  · rw [Ar_n (by omega), Ar_n (by omega), Ar_n (by omega), Ar_s, va_cpy0 hk]
  · rw [Ar_n (by omega), Ar_n (by omega), Ar_s, va_cpy0 hk]
  · rw [Ar_n (by omega), Ar_s, va_cpy0 hk]
  · rw [Ar_s, va_cpy0 hk]
theorem cp73_f (hs : isSt s = true) (hw : WT h) : Fi (cp73 h s t) s 5 = Fi h t 5 ∧ Fi (cp73 h s t) s 6 = Fi h t 6 := by
  obtain ⟨⟨bs, ls⟩, os, ⟨s1, s2, s3, s4, s5⟩, -, -, -⟩ := xst_of hs
  have w5 : WT (cpA h s t 8 5 (cpA h s t 8 4 (cpA h s t 36 3 (cpA h s t 36 2 (cpA h s t 6 1 h))))) := wt_as s5 (wt_as s4 (wt_as s3 (wt_as s2 (wt_as s1 hw))))
  refine ⟨(Fi_n (Or.inr (by decide))).trans (Fi_s w5 (by omega) os (by decide) rfl), Fi_s (wt_fs os (by decide) rfl w5) (by omega) os (by decide) rfl⟩
theorem xst_27 {i : Nat} (hi : i < 16) : isSt (27 + 6 * i) = true := by
  have e : ∀ i, i < 16 → isSt (27 + 6 * i) = true := by decide
  exact e i hi
theorem xst_124 {i : Nat} (hi : i < 3) : isSt (124 + 6 * i) = true := by
  have e : ∀ i, i < 3 → isSt (124 + 6 * i) = true := by decide
  exact e i hi
theorem stF (hs : isSt s = true) {c j : Nat} (hw : WT h) (z : c ≠ s ∨ (j ≠ 5 ∧ j ≠ 6)) (ho : isO c = true) : Fi (cp73 h s t) c j = Fi h c j := by
  obtain ⟨⟨bs, ls⟩, os, ⟨s1, s2, s3, s4, s5⟩, -, -, -⟩ := xst_of hs
  have ne : ∀ i m : Nat, wd (bB (s + i)) = .inl (0, m, ai_top) → c ≠ s + i := by
    intro i m e
    rintro rfl
    unfold isO at ho
    cases e2 : bB (s + i) with
    | inl y => rw [e2] at ho; cases ho
    | inr y =>
      rw [e2] at ho
      unfold wd at e
      rw [e2] at e
      have hl : y.1 < 1000 := Nat.le_of_ble_eq_true ho
      dsimp only at e
      rw [show Nat.ble 1000 y.1 = false by
        cases w : Nat.ble 1000 y.1 with
        | false => rfl
        | true => exact absurd (Nat.le_of_ble_eq_true w) (by omega)] at e
      cases e
  unfold cp73 cpA
  rw [Fi_n (z.elim Or.inl (fun y => Or.inr y.2)), Fi_n (z.elim Or.inl (fun y => Or.inr y.1)), Fi_a (ne 5 8 s5), Fi_a (ne 4 8 s4), Fi_a (ne 3 36 s3), Fi_a (ne 2 36 s2), Fi_a (ne 1 6 s1)]
theorem fr_c27 {W : List Nat} {V : List (Nat × Nat)} {i : Nat} (hi : i < 16) (hw : WT g) (e : (List.range 96).all (fun j => W.elem (27 + j)) = true) (e2 : (List.range 16).all (fun j => V.elem (27 + 6 * j, 5) && V.elem (27 + 6 * j, 6)) = true) (z : frm W V h g) : frm W V h (cp73 g (27 + 6 * i) t) := by
  refine ⟨fun j hj => (cp73_ne ?_).trans (z.1 j hj), fun c j hc hv => (stF (xst_27 hi) hw ?_ hc).trans (z.2 c j hc hv)⟩
  · by_cases y : j < 27 ∨ 123 ≤ j
    · omega
    · have q := List.all_eq_true.mp e (j - 27) (List.mem_range.mpr (by omega))
      rw [show 27 + (j - 27) = j by omega, hj] at q
      cases q
  · by_cases y : c = 27 + 6 * i
    · refine Or.inr ?_
      have q := List.all_eq_true.mp e2 i (List.mem_range.mpr hi)
      rw [Bool.and_eq_true] at q
      constructor
      · rintro rfl
        rw [y, q.1] at hv
        cases hv
      · rintro rfl
        rw [y, q.2] at hv
        cases hv
    · exact Or.inl y
theorem fr_c124 {W : List Nat} {V : List (Nat × Nat)} {i : Nat} (hi : i < 3) (hw : WT g) (e : (List.range 18).all (fun j => W.elem (124 + j)) = true) (e2 : (List.range 3).all (fun j => V.elem (124 + 6 * j, 5) && V.elem (124 + 6 * j, 6)) = true) (z : frm W V h g) : frm W V h (cp73 g (124 + 6 * i) t) := by
  refine ⟨fun j hj => (cp73_ne ?_).trans (z.1 j hj), fun c j hc hv => (stF (xst_124 hi) hw ?_ hc).trans (z.2 c j hc hv)⟩
  · by_cases y : j < 124 ∨ 142 ≤ j
    · omega
    · have q := List.all_eq_true.mp e (j - 124) (List.mem_range.mpr (by omega))
      rw [show 124 + (j - 124) = j by omega, hj] at q
      cases q
  · by_cases y : c = 124 + 6 * i
    · refine Or.inr ?_
      have q := List.all_eq_true.mp e2 i (List.mem_range.mpr hi)
      rw [Bool.and_eq_true] at q
      constructor
      · rintro rfl
        rw [y, q.1] at hv
        cases hv
      · rintro rfl
        rw [y, q.2] at hv
        cases hv
    · exact Or.inl y
theorem fr_cs {W : List Nat} {V : List (Nat × Nat)} (hs : isSt s = true) (hw : WT g) (e : (List.range 6).all (fun j => W.elem (s + j)) = true) (e2 : (V.elem (s, 5) && V.elem (s, 6)) = true) (z : frm W V h g) : frm W V h (cp73 g s t) := by
  refine ⟨fun j hj => (cp73_ne ?_).trans (z.1 j hj), fun c j hc hv => (stF hs hw ?_ hc).trans (z.2 c j hc hv)⟩
  · by_cases y : j < s ∨ s + 6 ≤ j
    · omega
    · have q := List.all_eq_true.mp e (j - s) (List.mem_range.mpr (by omega))
      rw [show s + (j - s) = j by omega, hj] at q
      cases q
  · by_cases y : c = s
    · refine Or.inr ?_
      rw [Bool.and_eq_true] at e2
      constructor
      · rintro rfl
        rw [y, e2.1] at hv
        cases hv
      · rintro rfl
        rw [y, e2.2] at hv
        cases hv
    · exact Or.inl y
end CPY
end MG95zzxdx1
end MH95zux8
