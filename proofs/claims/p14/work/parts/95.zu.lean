/-! arrays that are read, and written by some calls alone: the taints of the stack -/
section TNT
variable {fr lo k pc sz sl : Nat} {L : pm_L} {S : List Value} {h : pm_H} {st' : pm_St} {A : Nat → Bool} {G : Nat → Nat → Bool} {t u : List Bool} {v : Value}
/-- what isn't tainted doesn't lead to a cell of A -/
def tS (A : Nat → Bool) : List Bool → List Value → Prop
  | _, [] => True
  | [], v :: S => nrv A v ∧ tS A [] S
  | b :: t, v :: S => (b = false → nrv A v) ∧ tS A t S
theorem tS_e : tS A t [] := by
  cases t <;> exact True.intro
theorem tS_tl (q : tS A t (v :: S)) : tS A t.tail S := by
  cases t with
  | nil => exact q.2
  | cons b t => exact q.2
theorem tS_hd (q : tS A t (v :: S)) (e : t.headD false = false) : nrv A v := by
  cases t with
  | nil => exact q.1
  | cons b t => exact q.1 e
theorem tS_cons {b : Bool} (hv : b = false → nrv A v) (q : tS A t S) : tS A (b :: t) (v :: S) := ⟨hv, q⟩
theorem tS_nr : ∀ {S : List Value}, tS A [] S → nrS A S
  | [], _ => fun v hv => absurd hv (by simp)
  | _ :: _, q => nrS_cons.mpr ⟨q.1, tS_nr q.2⟩
theorem tS_of : ∀ {S : List Value}, nrS A S → tS A [] S
  | [], _ => True.intro
  | _ :: _, q => ⟨(nrS_cons.mp q).1, tS_of (nrS_cons.mp q).2⟩
def tle : List Bool → List Bool → Bool
  | [], _ => true
  | b :: t, [] => !b && tle t []
  | b :: t, c :: u => (!b || c) && tle t u
theorem tS_le : ∀ (S : List Value) (t u : List Bool), tle t u = true → tS A t S → tS A u S
  | [], _, _, _, _ => tS_e
  | v :: S, t, u, e, q => by
    have q2 := tS_tl q
    cases t with
    | nil =>
      cases u with
      | nil => exact q
      | cons c u => exact ⟨fun _ => q.1, tS_le S [] u rfl q2⟩
    | cons b t =>
      cases u with
      | nil =>
        have e : (!b && tle t []) = true := e
        rw [Bool.and_eq_true] at e
        exact ⟨q.1 (by simpa using e.1), tS_le S t [] e.2 q2⟩
      | cons c u =>
        have e : ((!b || c) && tle t u) = true := e
        rw [Bool.and_eq_true] at e
        refine ⟨fun hc => q.1 ?_, tS_le S t u e.2 q2⟩
        subst hc
        simpa using e.1
theorem tle_nil : ∀ (t u : List Bool), tle t [] = true → tle t u = true
  | [], _, _ => rfl
  | b :: t, [], e => e
  | b :: t, c :: u, e => by
    have e : (!b && tle t []) = true := e
    rw [Bool.and_eq_true] at e
    show ((!b || c) && tle t u) = true
    rw [e.1, Bool.true_or, Bool.true_and]
    exact tle_nil t u e.2
theorem tS_take : ∀ (n : Nat) (t : List Bool) (S : List Value), tS A t S → tS A (t.take n) (S.take n)
  | 0, _, _, _ => tS_e
  | n + 1, _, [], _ => tS_e
  | n + 1, [], _ :: S, q => ⟨q.1, by simpa using tS_take n [] S q.2⟩
  | n + 1, _ :: t, _ :: S, q => ⟨q.1, tS_take n t S q.2⟩
theorem tS_drop : ∀ (n : Nat) (t : List Bool) (S : List Value), tS A t S → tS A (t.drop n) (S.drop n)
  | 0, _, _, q => q
  | n + 1, _, [], _ => tS_e
  | n + 1, [], _ :: S, q => by simpa using tS_drop n [] S q.2
  | n + 1, _ :: t, _ :: S, q => tS_drop n t S q.2
def tg (G : Nat → Nat → Bool) (k j : Nat) : Bool := match pm_fld PT (pm_o PT k) j with
  | some (ci, f, _) => G ci f
  | none => false
/-- what an instruction may do -/
def tc (i : Instr) (t : List Bool) : Bool := match i with
  | .istore _ | .istore_n _ | .astore _ | .astore_n _ | .lstore _ | .lstore_n _ => !(t.headD false)
  | .putfield _ => !(t.headD false) && !(t.tail.headD false)
  | .iastore | .castore | .bastore | .lastore => !(t.tail.tail.headD false)
  | .invokespecial _ | .invokestatic _ | .invokevirtual _ => tle t []
  | .aastore | .newarray _ | .anewarray _ | .new _ => false
  | _ => true
/-- the taints behind it -/
def tf (G : Nat → Nat → Bool) (k : Nat) (i : Instr) (t : List Bool) : List Bool := match i with
  | .iconst _ | .bipush _ | .sipush _ | .lconst _ | .ldc _ | .ldc_w _ | .ldc2_w _ => false :: t
  | .iload _ | .iload_n _ | .lload _ | .lload_n _ | .aload _ | .aload_n _ => false :: t
  | .istore _ | .istore_n _ | .astore _ | .astore_n _ | .lstore _ | .lstore_n _ => t.tail
  | .iadd | .isub | .imul | .iand | .ior | .ixor | .ishl | .ishr | .iushr | .idiv | .irem => false :: t.tail.tail
  | .lmul | .ladd | .lsub | .ldiv | .lrem | .lcmp => false :: t.tail.tail
  | .ineg | .i2l | .i2b | .i2s | .i2c => false :: t.tail
  | .dup => t.headD false :: t.headD false :: t.tail
  | .pop => t.tail
  | .dup_x1 => t.headD false :: t.tail.headD false :: t.headD false :: t.tail.tail
  | .dup_x2 => t.headD false :: t.tail.headD false :: t.tail.tail.headD false :: t.headD false :: t.tail.tail.tail
  | .dup2 => t.headD false :: t.tail.headD false :: t.headD false :: t.tail.headD false :: t.tail.tail
  | .ifCond _ _ => t.tail
  | .if_icmp _ _ => t.tail.tail
  | .tableswitch _ _ _ _ | .lookupswitch _ _ => t.tail
  | .getfield j => tg G k j :: t.tail
  | .putfield _ => t.tail.tail
  | .iaload | .caload | .baload | .laload | .aaload => false :: t.tail.tail
  | .iastore | .castore | .bastore | .lastore => t.tail.tail.tail
  | .arraylength => false :: t.tail
  | .invokespecial _ | .invokestatic _ | .invokevirtual _ => []
  | _ => t
set_option maxHeartbeats 8000000 in
theorem tn_simple {i : Instr} (hB : sz ≤ 198) (hi : tc i t = true) (hL : nrL A L) (hS : tS A t S) (hH : nrH A G h) (hh : pm_simple PT fr lo k i pc L S h sz sl = some st') : (nrL A st'.2.1 ∧ tS A (tf G k i t) st'.2.2.1 ∧ nrH A G st'.2.2.2.1) ∧ ∀ a, A a = true → st'.2.2.2.1 a = h a := by
  have lib : nr_i G k i = true → tle t [] = true → tf G k i t = [] → (nrL A st'.2.1 ∧ tS A (tf G k i t) st'.2.2.1 ∧ nrH A G st'.2.2.2.1) ∧ ∀ a, A a = true → st'.2.2.2.1 a = h a := by
    intro hn e ef
    obtain ⟨⟨a1, a2, a3⟩, a4⟩ := nr_simple hB hn ⟨hL, tS_nr (tS_le S t [] e hS), hH⟩ hh
    rw [ef]
    exact ⟨⟨a1, tS_of a2, a3⟩, a4⟩
  by_cases hq : (∃ j, i = .invokespecial j) ∨ (∃ j, i = .invokestatic j) ∨ ∃ j, i = .invokevirtual j
  · rcases hq with ⟨j, rfl⟩ | ⟨j, rfl⟩ | ⟨j, rfl⟩
    · exact lib rfl hi rfl
    · exact lib rfl hi rfl
    · exact lib rfl hi rfl
  · clear lib
    unfold pm_simple at hh
    split at hh
    all_goals (try (cases hi; done))
    all_goals (try (exact absurd (Or.inl ⟨_, rfl⟩) hq))
    all_goals (try (exact absurd (Or.inr (Or.inl ⟨_, rfl⟩)) hq))
    all_goals (try (exact absurd (Or.inr (Or.inr ⟨_, rfl⟩)) hq))
    all_goals (try simp only [pm_bi, pm_bd, pm_bl, pm_bdL, pm_ui, pm_lo, pm_so, pm_sL, pm_jp, pm_br, pm_ia, pm_la, pm_qa, pm_al, pm_gf, pm_pf, pm_iS, pm_lS, pm_qS] at hh)
    all_goals (repeat' split at hh)
    all_goals (try (cases hh; done))
    all_goals cases hh
    all_goals first
      | exact ⟨⟨hL, hS, hH⟩, fun _ _ => rfl⟩
      | exact ⟨⟨hL, tS_tl hS, hH⟩, fun _ _ => rfl⟩
      | exact ⟨⟨hL, tS_tl (tS_tl hS), hH⟩, fun _ _ => rfl⟩
      | exact ⟨⟨hL, tS_cons (fun _ => nrv_i _) hS, hH⟩, fun _ _ => rfl⟩
      | exact ⟨⟨hL, tS_cons (fun _ => nrv_l _) hS, hH⟩, fun _ _ => rfl⟩
      | exact ⟨⟨hL, tS_cons (fun _ => nrv_t _) hS, hH⟩, fun _ _ => rfl⟩
      | exact ⟨⟨hL, tS_cons (fun _ => nrv_i _) (tS_tl hS), hH⟩, fun _ _ => rfl⟩
      | exact ⟨⟨hL, tS_cons (fun _ => nrv_l _) (tS_tl hS), hH⟩, fun _ _ => rfl⟩
      | exact ⟨⟨hL, tS_cons (fun _ => nrv_i _) (tS_tl (tS_tl hS)), hH⟩, fun _ _ => rfl⟩
      | exact ⟨⟨hL, tS_cons (fun _ => nrv_l _) (tS_tl (tS_tl hS)), hH⟩, fun _ _ => rfl⟩
      | exact ⟨⟨hL, tS_cons (fun _ => nrL_ld hL ‹_›) hS, hH⟩, fun _ _ => rfl⟩
      | exact ⟨⟨nrL_st2 hL (nrv_l _), tS_tl hS, hH⟩, fun _ _ => rfl⟩
      | exact ⟨⟨nrL_st1 hL (nrv_i _), hS, hH⟩, fun _ _ => rfl⟩
      | exact ⟨⟨nrL_st1 hL (tS_hd hS (by simpa [tc] using hi)), tS_tl hS, hH⟩, fun _ _ => rfl⟩
      | exact ⟨⟨hL, tS_tl (tS_tl (tS_tl hS)), nrH_arr hH (fun kd n f e => by cases e)⟩, nr_up (tS_hd (tS_tl (tS_tl hS)) (by simpa [tc] using hi) _ rfl)⟩
      | exact ⟨⟨hL, tS_cons (tS_hd hS) (tS_cons (tS_hd hS) (tS_tl hS)), hH⟩, fun _ _ => rfl⟩
      | exact ⟨⟨hL, tS_cons (tS_hd hS) (tS_cons (tS_hd (tS_tl hS)) (tS_cons (tS_hd hS) (tS_tl (tS_tl hS)))), hH⟩, fun _ _ => rfl⟩
      | exact ⟨⟨hL, tS_cons (tS_hd hS) (tS_cons (tS_hd (tS_tl hS)) (tS_cons (tS_hd (tS_tl (tS_tl hS))) (tS_cons (tS_hd hS) (tS_tl (tS_tl (tS_tl hS)))))), hH⟩, fun _ _ => rfl⟩
      | exact ⟨⟨hL, tS_cons (tS_hd hS) (tS_cons (tS_hd (tS_tl hS)) (tS_cons (tS_hd hS) (tS_cons (tS_hd (tS_tl hS)) (tS_tl (tS_tl hS))))), hH⟩, fun _ _ => rfl⟩
      | skip
    · rename_i j S0 a r x2 x1 ci fs cj f t2 e2 e1 hc x v e
      subst hc
      refine ⟨⟨hL, tS_cons (b := tg G k j) (fun hg => ?_) (tS_tl hS), hH⟩, fun _ _ => rfl⟩
      have hg : G cj f = false := by
        unfold tg at hg
        rw [e1] at hg
        exact hg
      exact hH.1 a cj fs (Nat.lt_of_lt_of_le (pm_obj_inv e2).1 hB) (pm_obj_inv e2).2 f v e hg
    · rename_i j v a r x1 x ci fs cj f t2 e1 e hc
      have hi : (!(t.headD false) && !(t.tail.headD false)) = true := hi
      rw [Bool.and_eq_true] at hi
      exact ⟨⟨hL, tS_tl (tS_tl hS), nrH_fld hH (pm_obj_inv e1).2 (tS_hd hS (by simpa using hi.1))⟩, nr_up (tS_hd (tS_tl hS) (by simpa using hi.2) _ rfl)⟩
    · rename_i i a r x kd n f e hc
      refine ⟨⟨hL, tS_cons (fun _ => ?_) (tS_tl (tS_tl hS)), hH⟩, fun _ _ => rfl⟩
      unfold pm_qar at e
      split at e
      · rename_i hlt
        split at e
        · rename_i kd' n' f' eh
          cases e
          exact hH.2 a _ _ _ (Nat.lt_of_lt_of_le hlt hB) eh _ (by
            have := of_decide_eq_true hc.1
            omega)
        · cases e
      · cases e
def tto (T : Nat → List Bool) (pc : Nat) (off : Int) (t : List Bool) : Bool := match pm_tgt pc off with
  | some q => tle t (T q)
  | none => true
/-- the taints behind it are those of the places to which it leads -/
def tnx (T : Nat → List Bool) (pc len : Nat) (i : Instr) (t : List Bool) : Bool := match i with
  | .ifCond _ off => tto T pc off t && tle t (T (pc + 3))
  | .if_icmp _ off => tto T pc off t && tle t (T (pc + 3))
  | .goto off => tto T pc off t
  | .tableswitch _ _ _ _ | .lookupswitch _ _ => tle t []
  | _ => tle t (T (pc + len))
theorem tn_jp {T : Nat → List Bool} {off : Int} (hi : tto T pc off t = true) (hh : pm_jp pc off L S h sz sl = some st') : tle t (T st'.1) = true := by
  unfold pm_jp at hh
  split at hh
  · rename_i q e
    cases hh
    unfold tto at hi
    rw [e] at hi
    exact hi
  · cases hh
theorem tn_br {T : Nat → List Bool} {off : Int} {b : Bool} (hi : (tto T pc off t && tle t (T (pc + 3))) = true) (hh : pm_br b pc off L S h sz sl = some st') : tle t (T st'.1) = true := by
  rw [Bool.and_eq_true] at hi
  unfold pm_br at hh
  split at hh
  · rename_i q e
    have h1 := hi.1
    unfold tto at h1
    rw [e] at h1
    cases b <;> (cases hh; first | exact h1 | exact hi.2)
  · cases hh
set_option maxHeartbeats 4000000 in
theorem tn_next {T : Nat → List Bool} {len : Nat} {i : Instr} (hl : pm_lenOk i len = true) (hi : tnx T pc len i t = true) (hh : pm_simple PT fr lo k i pc L S h sz sl = some st') : tle t (T st'.1) = true := by
  have lib : ∀ sp j, pm_libW PT sp fr lo k j pc L S h sz sl = some st' → st'.1 = pc + 3 := by
    intro sp j hh
    unfold pm_libW at hh
    split at hh
    · split at hh
      · unfold pm_lib at hh
        repeat' split at hh
        all_goals first
          | (cases hh; done)
          | (cases hh; rfl)
      · cases hh
    · cases hh
  by_cases hq : (∃ j, i = .invokespecial j) ∨ ∃ j, i = .invokestatic j
  · rcases hq with ⟨j, rfl⟩ | ⟨j, rfl⟩
    · have el : len = 3 := by simpa [pm_lenOk] using hl
      subst el
      rw [lib true j hh]
      exact hi
    · have el : len = 3 := by simpa [pm_lenOk] using hl
      subst el
      rw [lib false j hh]
      exact hi
  · unfold pm_simple at hh
    split at hh
    all_goals (try (exact tle_nil _ _ hi))
    all_goals (try (exact absurd (Or.inl ⟨_, rfl⟩) hq))
    all_goals (try (exact absurd (Or.inr ⟨_, rfl⟩) hq))
    all_goals (try (split at hh <;> first | (cases hh; done) | (exact tn_br hi hh)))
    all_goals (try (exact tn_jp hi hh))
    all_goals (try (cases hh; done))
    all_goals (simp only [pm_lenOk, beq_iff_eq] at hl)
    all_goals (subst hl)
    all_goals (try simp only [pm_bi, pm_bd, pm_bl, pm_bdL, pm_ui, pm_lo, pm_so, pm_sL, pm_ia, pm_la, pm_qa, pm_al, pm_gf, pm_pf, pm_iS, pm_lS, pm_qS, pm_libV, pm_newI, pm_newL, pm_newQ, pm_newO, pm_nw] at hh)
    all_goals (repeat' split at hh)
    all_goals (first | (cases hh; done) | (cases hh; exact hi))
theorem vs_run {n fr lo k : Nat} {st : pm_St} {r : pm_Rs} {ty : FieldType} (hr : pm_ret PT k = some ty) (hh : pm_run PT n fr lo k st = some r) : ∃ v, r.1 = some v := by
  induction n generalizing st with
  | zero => cases hh
  | succ n ih =>
    unfold pm_run at hh
    split at hh
    · rename_i r' e1
      cases hh
      unfold pm_end at e1
      split at e1
      · cases e1
      · split at e1
        · split at e1
          · rename_i rv er
            cases e1
            unfold pm_rets at er
            rw [hr] at er
            repeat' split at er
            all_goals first
              | (cases er; done)
              | (cases er; exact ⟨_, rfl⟩)
              | (exfalso; cases ‹some _ = (none : Option FieldType)›)
          · cases e1
        · cases e1
    · split at hh
      · exact ih hh
      · cases hh
/-- in the methods of K no cell of A is written: C tells the taints of each place -/
def tn_ok (C : Nat → Nat → List Bool) (G : Nat → Nat → Bool) (K : Nat → Bool) : Prop := ∀ k pc i len, K k = true → pm_ins PT k pc = some (i, len) → (pm_callee PT k i = none → tc i (C k pc) = true ∧ tnx (C k) pc len i (tf G k i (C k pc)) = true) ∧ ∀ w t, pm_callee PT k i = some (w, t) → K t = true ∧ tle ((C k pc).take (pm_na PT t)) [] = true ∧ tle (cond (pm_ret PT t).isSome [false] [] ++ (C k pc).drop (pm_na PT t)) (C k (pc + 3)) = true
theorem tn_run {P : Nat → Nat → Bool} {K : Nat → Bool} {C : Nat → Nat → List Bool} (hK : tn_ok C G K) (hS : sf_ok P K) : ∀ (n fr lo k : Nat) (st : pm_St) (r : pm_Rs), K k = true → st.2.2.2.2.1 ≤ 198 → nrL A st.2.1 → tS A (C k st.1) st.2.2.1 → nrH A G st.2.2.2.1 → pm_run PT n fr lo k st = some r → ((∀ v, r.1 = some v → nrv A v) ∧ nrH A G r.2.1) ∧ ∀ a, A a = true → r.2.1 a = st.2.2.2.1 a
  | 0, _, _, _, _, _, _, _, _, _, _, h => by cases h
  | n + 1, fr, lo, k, st, r, hk, hB, qL, qS, qH, h => by
    unfold pm_run at h
    split at h
    · rename_i r' e1
      cases h
      unfold pm_end at e1
      split at e1
      · cases e1
      · split at e1
        · split at e1
          · rename_i rv er
            cases e1
            refine ⟨⟨fun v ev => ?_, qH⟩, fun _ _ => rfl⟩
            dsimp only at ev
            subst ev
            unfold pm_rets at er
            repeat' split at er
            all_goals first
              | (cases er; done)
              | (cases er; first | exact nrv_i _ | exact nrv_l _)
          · cases e1
        · cases e1
    · split at h
      · rename_i st' e2
        unfold pm_step at e2
        split at e2
        · cases e2
        · rename_i i len ei
          obtain ⟨n1, n2⟩ := hK k _ i len hk ei
          split at e2
          · rename_i hlen
            split at e2
            · rename_i w t ec
              obtain ⟨c1, c2, c3⟩ := n2 w t ec
              split at e2
              · split at e2
                · rename_i rv h1 sz1 sl1 e3
                  cases e2
                  have qa := tS_nr (tS_le _ _ [] c2 (tS_take (pm_na PT t) _ _ qS))
                  obtain ⟨⟨a1, a2⟩, a3⟩ := tn_run hK hS n _ _ t (0, pm_l0 (st.2.2.1.take (pm_na PT t)).reverse (pm_max PT t), [], st.2.2.2.1, st.2.2.2.2.1, st.2.2.2.2.2) (rv, h1, sz1, sl1) c1 hB (nrL_l0 (fun v hv => qa v (List.mem_reverse.mp hv))) tS_e qH e3
                  have hz := sz_run hS n _ _ t (0, pm_l0 (st.2.2.1.take (pm_na PT t)).reverse (pm_max PT t), [], st.2.2.2.1, st.2.2.2.2.1, st.2.2.2.2.2) (rv, h1, sz1, sl1) c1 e3
                  have hz1 : sz1 = st.2.2.2.2.1 := congrArg (fun q : Nat × Nat => q.1) hz
                  have q3 : tS A (C k (st.1 + 3)) (rv.toList ++ st.2.2.1.drop (pm_na PT t)) := by
                    refine tS_le _ _ _ c3 ?_
                    have qd := tS_drop (pm_na PT t) _ _ qS
                    cases hr : pm_ret PT t with
                    | none =>
                      have e := vd_run hr e3
                      dsimp only at e
                      subst e
                      exact qd
                    | some ty =>
                      obtain ⟨v, e⟩ := vs_run hr e3
                      dsimp only at e
                      subst e
                      exact ⟨fun _ => a1 v rfl, qd⟩
                  obtain ⟨b1, b3⟩ := tn_run hK hS n fr lo k (st.1 + 3, st.2.1, rv.toList ++ st.2.2.1.drop (pm_na PT t), h1, sz1, sl1) r hk (by show sz1 ≤ 198; omega) qL q3 a2 h
                  exact ⟨b1, fun a ha => (b3 a ha).trans (a3 a ha)⟩
                · cases e2
              · cases e2
            · rename_i ec
              obtain ⟨m1, m2⟩ := n1 ec
              obtain ⟨⟨a1, a2, a3⟩, a4⟩ := tn_simple hB m1 qL qS qH e2
              have hz := sz_simple ((hS k _ i len hk ei).1) e2
              have hz1 : st'.2.2.2.2.1 = st.2.2.2.2.1 := congrArg (fun q : Nat × Nat => q.1) hz
              obtain ⟨b1, b3⟩ := tn_run hK hS n fr lo k st' r hk (by omega) a1 (tS_le _ _ _ (tn_next hlen m2 e2) a2) a3 h
              exact ⟨b1, fun a ha => (b3 a ha).trans (a4 a ha)⟩
          · cases e2
      · cases h
def tn_c (C : Nat → Nat → List Bool) (G : Nat → Nat → Bool) (K : Nat → Bool) (k : Nat) (x : Nat × Instr × Nat) : Bool := match pm_callee PT k x.2.1 with
  | some (_, t) => K t && (tle ((C k x.1).take (pm_na PT t)) [] && tle (cond (pm_ret PT t).isSome [false] [] ++ (C k x.1).drop (pm_na PT t)) (C k (x.1 + 3)))
  | none => tc x.2.1 (C k x.1) && tnx (C k) x.1 x.2.2 x.2.1 (tf G k x.2.1 (C k x.1))
def tn_b (C : Nat → Nat → List Bool) (G : Nat → Nat → Bool) (K : Nat → Bool) (k : Nat) : Bool := match pd_a2 k with
  | some e => e.2.all (fun c => c.all (fun x => tn_c C G K k x))
  | none => true
theorem tn_of {C : Nat → Nat → List Bool} {K : Nat → Bool} {N : List Nat} (hN : ∀ k, K k = true → k ∈ N) (hb : N.all (tn_b C G K) = true) : tn_ok C G K := by
  intro k pc i len hk hi
  have hb := List.all_eq_true.mp hb k (hN k hk)
  have hi : pd_ins k pc = some (i, len) := hi
  unfold pd_ins at hi
  unfold tn_b at hb
  split at hi
  · rename_i e ee
    rw [ee] at hb
    dsimp only at hb
    unfold pm_ch at hi
    split at hi
    · rename_i c ec
      have h1 := List.all_eq_true.mp (List.all_eq_true.mp hb c (pm_nth_mem ec)) _ (pm_fd_mem hi)
      unfold tn_c at h1
      dsimp only at h1
      refine ⟨fun hn => ?_, fun w t ht => ?_⟩
      · rw [hn] at h1
        dsimp only at h1
        rw [Bool.and_eq_true] at h1
        exact h1
      · rw [ht] at h1
        dsimp only at h1
        rw [Bool.and_eq_true, Bool.and_eq_true] at h1
        exact h1
    · cases hi
  · cases hi
def tk_at (l : List (Nat × List (Nat × List Bool))) (k pc : Nat) : List Bool := match pm_fd l k with
  | some m => (match pm_fd m pc with
    | some t => t
    | none => [])
  | none => []
def tnA (As : List Nat) (i : Nat) : Bool := As.any (fun p => Nat.beq i p)
def tn_tc (As : List Nat) (G : Nat → Nat → Bool) (c : ac) : Bool := match c with
  | .inr (ci, as) => (List.range as.length).all (fun f => G ci f || (match as[f]? with
    | some a => As.all (fun p => !(av_has a p))
    | none => true))
  | .inl (_, n, a) => (List.range n).all (fun j => As.all (fun p => !(av_has (aq a j) p)))
theorem tn_nrv {As : List Nat} {a : av} (hv : av_ok v a) (ha : As.all (fun p => !(av_has a p)) = true) : nrv (tnA As) v := by
  intro p e
  subst e
  cases hp : tnA As p with
  | false => rfl
  | true =>
    exfalso
    obtain ⟨h1, h2⟩ := hv
    obtain ⟨q, hq, e⟩ := List.any_eq_true.mp hp
    have e := Nat.eq_of_beq_eq_true e
    subst e
    have := List.all_eq_true.mp ha p hq
    rw [av_hasn h1 h2] at this
    cases this
theorem tn_ty {As : List Nat} (htb : (List.range 198).all (fun i => tn_tc As G (bB i)) = true) (hh : ah_ok bB 198 [] h) : nrH (tnA As) G h := by
  refine ⟨fun i ci fs hi e f v hv hG => ?_, fun i kd n f hi e j hj => ?_⟩
  · have h0 := hh i hi
    have hb := List.all_eq_true.mp htb i (List.mem_range.mpr hi)
    rw [show ah_get bB [] i = bB i from rfl, e] at h0
    cases hB : bB i with
    | inl q =>
      rw [hB] at h0
      exact h0.elim
    | inr q =>
      obtain ⟨ci', as⟩ := q
      rw [hB] at h0 hb
      obtain ⟨⟨h1, -⟩, h2, h3⟩ := h0
      subst h1
      have hf : f < as.length := by rw [← h2]; exact (List.getElem?_eq_some_iff.mp hv).1
      have hq := List.all_eq_true.mp hb f (List.mem_range.mpr hf)
      rw [hG, Bool.false_or, List.getElem?_eq_getElem hf] at hq
      exact tn_nrv (h3 f v _ hv (List.getElem?_eq_getElem hf)) hq
  · have h0 := hh i hi
    have hb := List.all_eq_true.mp htb i (List.mem_range.mpr hi)
    rw [show ah_get bB [] i = bB i from rfl, e] at h0
    cases hB : bB i with
    | inl q =>
      obtain ⟨kd', n', a⟩ := q
      rw [hB] at h0 hb
      obtain ⟨h1, h2, h3⟩ := h0
      subst h2
      exact tn_nrv (h3 j hj) (List.all_eq_true.mp hb j (List.mem_range.mpr hj))
    | inr q =>
      rw [hB] at h0
      exact h0.elim
/-- a call leaves the cells of As alone -/
theorem tn_keeps {As : List Nat} {P : Nat → Nat → Bool} {K : Nat → Bool} {C : Nat → Nat → List Bool} (hK : tn_ok C G K) (hS : sf_ok P K) (htb : (List.range 198).all (fun i => tn_tc As G (bB i)) = true) (hk : K k = true) (hh : ah_ok bB 198 [] h) {o mx n : Nat} (ho : tnA As o = false) (vs : List Int32) {R : pm_Rs} (hr : pm_run PT n fr lo k (0, pm_l0 (.ref o :: vs.map Value.int) mx, [], h, 198, sl) = some R) : ∀ a, tnA As a = true → R.2.1 a = h a := by
  refine (tn_run hK hS n fr lo k _ R hk (Nat.le_refl _) (nrL_l0 ?_) tS_e (tn_ty htb hh) hr).2
  refine nrS_cons.mpr ⟨fun p e => by cases e; exact ho, fun v hv => ?_⟩
  obtain ⟨x, -, rfl⟩ := List.mem_map.mp hv
  exact nrv_i x
end TNT
