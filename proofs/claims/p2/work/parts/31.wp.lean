/-! reasoning about runs of the pure machine: pm_WP .. st Q: from st the method ends, with Q -/
section PMW
variable {T : pm_Tab} {k fr lo : Nat} {st st' : pm_St}
theorem pm_step_go {go go' : Nat → Nat → Nat → List Value → pm_H → Nat → Nat → Option pm_Rs} (hg : ∀ fr lo t as h sz sl r, go fr lo t as h sz sl = some r → go' fr lo t as h sz sl = some r) (e : pm_step T go fr lo k st = some st') : pm_step T go' fr lo k st = some st' := by
  unfold pm_step at e ⊢
  cases e1 : pm_ins T k st.1 with
  | none => rw [e1] at e; cases e
  | some il =>
    obtain ⟨i, len⟩ := il
    rw [e1] at e
    dsimp only at e ⊢
    by_cases e2 : pm_lenOk i len = true
    · rw [if_pos e2] at e ⊢
      cases e3 : pm_callee T k i with
      | none => rw [e3] at e; exact e
      | some wt =>
        obtain ⟨w, t⟩ := wt
        rw [e3] at e
        dsimp only at e ⊢
        by_cases e4 : pm_na T t ≤ st.2.2.1.length ∧ pm_rcv T w t (st.2.2.1.take (pm_na T t)).reverse st.2.2.2.1 st.2.2.2.2.1 = true ∧ pm_sum (st.2.2.1.drop (pm_na T t)) ≤ 8 ∧ 1 ≤ fr ∧ 19 + pm_max T t ≤ lo ∧ (pm_args (st.2.2.1.take (pm_na T t)).reverse).length ≤ pm_max T t
        · rw [if_pos e4] at e ⊢
          cases e5 : go (fr - 1) (lo - (19 + pm_max T t)) t (st.2.2.1.take (pm_na T t)).reverse st.2.2.2.1 st.2.2.2.2.1 st.2.2.2.2.2 with
          | none => rw [e5] at e; cases e
          | some r =>
            rw [e5] at e
            rw [hg _ _ _ _ _ _ _ _ e5]
            exact e
        · rw [if_neg e4] at e; cases e
    · rw [if_neg e2] at e; cases e
theorem pm_run_succ : ∀ (n fr lo k : Nat) (st : pm_St) (r : pm_Rs), pm_run T n fr lo k st = some r → pm_run T (n + 1) fr lo k st = some r
  | 0, _, _, _, _, _, h => by cases h
  | n + 1, fr, lo, k, st, r, h => by
    unfold pm_run at h
    unfold pm_run
    cases e1 : pm_end T k st with
    | some r' => rw [e1] at h; exact h
    | none =>
      rw [e1] at h
      dsimp only at h ⊢
      cases e2 : pm_step T (fun fr lo t as h sz sl => pm_run T n fr lo t (0, pm_l0 as (pm_max T t), [], h, sz, sl)) fr lo k st with
      | none => rw [e2] at h; cases h
      | some st' =>
        rw [e2] at h
        rw [pm_step_go (fun fr lo t as h sz sl r q => pm_run_succ n _ _ _ _ _ q) e2]
        exact pm_run_succ n _ _ _ _ _ h
theorem pm_run_le {n n' : Nat} {r : pm_Rs} (hn : n ≤ n') (h : pm_run T n fr lo k st = some r) : pm_run T n' fr lo k st = some r := by
  induction hn with
  | refl => exact h
  | step _ ih => exact pm_run_succ _ _ _ _ _ _ ih
def pm_WP (T : pm_Tab) (fr lo k : Nat) (st : pm_St) (Q : pm_Rs → Prop) : Prop := ∃ n r, pm_run T n fr lo k st = some r ∧ Q r
variable {Q Q' : pm_Rs → Prop}
theorem wp_mono (h : pm_WP T fr lo k st Q) (hq : ∀ r, Q r → Q' r) : pm_WP T fr lo k st Q' := by
  obtain ⟨n, r, h1, h2⟩ := h
  exact ⟨n, r, h1, hq r h2⟩
theorem wp_end {r : pm_Rs} (h : pm_end T k st = some r) (hq : Q r) : pm_WP T fr lo k st Q := ⟨1, r, by unfold pm_run; rw [h], hq⟩
theorem pm_rets_no {i : Instr} {S : List Value} {rv : Option Value} (h : pm_rets T k i S = some rv) : i = .return_ ∨ i = .ireturn ∨ i = .lreturn := by
  unfold pm_rets at h
  split at h
  · exact Or.inl rfl
  · exact Or.inr (Or.inl rfl)
  · exact Or.inr (Or.inr rfl)
  · cases h
theorem pm_end_no {go : Nat → Nat → Nat → List Value → pm_H → Nat → Nat → Option pm_Rs} (e : pm_step T go fr lo k st = some st') : pm_end T k st = none := by
  unfold pm_step at e
  unfold pm_end
  cases e1 : pm_ins T k st.1 with
  | none => rfl
  | some il =>
    obtain ⟨i, len⟩ := il
    rw [e1] at e
    dsimp only at e ⊢
    by_cases e2 : pm_lenOk i len = true
    · rw [if_pos e2] at e ⊢
      cases hr : pm_rets T k i st.2.2.1 with
      | none => rfl
      | some rv =>
        rcases pm_rets_no hr with rfl | rfl | rfl
        · cases e
        · cases e
        · cases e
    · rw [if_neg e2] at e; cases e
def pm_go0 : Nat → Nat → Nat → List Value → pm_H → Nat → Nat → Option pm_Rs := fun _ _ _ _ _ _ _ => none
theorem wp_step (h : pm_step T pm_go0 fr lo k st = some st') (kk : pm_WP T fr lo k st' Q) : pm_WP T fr lo k st Q := by
  obtain ⟨n, r, h1, h2⟩ := kk
  refine ⟨n + 1, r, ?_, h2⟩
  unfold pm_run
  rw [pm_end_no h, pm_step_go (go' := fun fr lo t as h sz sl => pm_run T n fr lo t (0, pm_l0 as (pm_max T t), [], h, sz, sl)) (fun _ _ _ _ _ _ _ _ q => by cases q) h]
  exact h1
/-- n simple steps -/
def pm_sN (T : pm_Tab) (fr lo k : Nat) : Nat → pm_St → Option pm_St
  | 0, st => some st
  | n + 1, st => match pm_step T pm_go0 fr lo k st with
    | some st' => pm_sN T fr lo k n st'
    | none => none
theorem wp_steps : ∀ (n : Nat) {st st' : pm_St}, pm_sN T fr lo k n st = some st' → pm_WP T fr lo k st' Q → pm_WP T fr lo k st Q
  | 0, st, st', h, kk => by cases (Option.some.inj h : st = st'); exact kk
  | n + 1, st, st', h, kk => by
    unfold pm_sN at h
    split at h
    · rename_i st1 e1
      exact wp_step e1 (wp_steps n h kk)
    · cases h
/-- the callee, its arguments, what stays on the stack -/
def pm_cd (T : pm_Tab) (k : Nat) (st : pm_St) : Option (Nat × List Value × List Value) := match pm_ins T k st.1 with
  | none => none
  | some (i, len) => if pm_lenOk i len = true then (match pm_callee T k i with
    | some (w, t) => if pm_na T t ≤ st.2.2.1.length ∧ pm_rcv T w t (st.2.2.1.take (pm_na T t)).reverse st.2.2.2.1 st.2.2.2.2.1 = true ∧ pm_sum (st.2.2.1.drop (pm_na T t)) ≤ 8 ∧ (pm_args (st.2.2.1.take (pm_na T t)).reverse).length ≤ pm_max T t then some (t, (st.2.2.1.take (pm_na T t)).reverse, st.2.2.1.drop (pm_na T t)) else none
    | none => none) else none
theorem wp_call {t mx : Nat} {As rest : List Value} (h : pm_cd T k st = some (t, As, rest)) (hmx : pm_max T t = mx) (hf : 1 ≤ fr) (hl : 19 + mx ≤ lo)
    (kk : pm_WP T (fr - 1) (lo - (19 + mx)) t (0, pm_l0 As mx, [], st.2.2.2) (fun r => pm_WP T fr lo k (st.1 + 3, st.2.1, r.1.toList ++ rest, r.2) Q)) : pm_WP T fr lo k st Q := by
  subst hmx
  obtain ⟨n, r, h1, n2, r2, h2, h3⟩ := kk
  have a1 := pm_run_le (Nat.le_max_left n n2) h1
  have a2 := pm_run_le (Nat.le_max_right n n2) h2
  refine ⟨max n n2 + 1, r2, ?_, h3⟩
  have hs : pm_step T (fun fr lo t as h sz sl => pm_run T (max n n2) fr lo t (0, pm_l0 as (pm_max T t), [], h, sz, sl)) fr lo k st = some (st.1 + 3, st.2.1, r.1.toList ++ rest, r.2) := by
    unfold pm_cd at h
    unfold pm_step
    cases e1 : pm_ins T k st.1 with
    | none => rw [e1] at h; cases h
    | some il =>
      obtain ⟨i, len⟩ := il
      rw [e1] at h
      dsimp only at h ⊢
      by_cases e2 : pm_lenOk i len = true
      · rw [if_pos e2] at h ⊢
        cases e3 : pm_callee T k i with
        | none => rw [e3] at h; cases h
        | some wt =>
          obtain ⟨w, t'⟩ := wt
          rw [e3] at h
          dsimp only at h ⊢
          split at h
          · rename_i e4
            cases h
            rw [if_pos ⟨e4.1, e4.2.1, e4.2.2.1, hf, hl, e4.2.2.2⟩]
            have e5 : pm_run T (max n n2) (fr - 1) (lo - (19 + pm_max T t)) t (0, pm_l0 (st.2.2.1.take (pm_na T t)).reverse (pm_max T t), [], st.2.2.2.1, st.2.2.2.2.1, st.2.2.2.2.2) = some r := a1
            rw [e5]
          · cases h
      · rw [if_neg e2] at h; cases h
  unfold pm_run
  rw [pm_end_no hs, hs]
  exact a2
/-- what the library does -/
theorem wp_lib {w : Nat} {i : Instr} {j x : Nat} (hi : pm_ins T k st.1 = some (i, 3)) (hj : (i = .invokespecial j ∧ w = 6) ∨ (i = .invokestatic j ∧ w ≠ 6 ∧ 6 < w)) (hm : pm_mlk T (pm_o T k) j = some (w, x)) (h : pm_lib T fr lo w st.1 st.2.1 st.2.2.1 st.2.2.2.1 st.2.2.2.2.1 st.2.2.2.2.2 = some st') (kk : pm_WP T fr lo k st' Q) : pm_WP T fr lo k st Q := by
  refine wp_step ?_ kk
  unfold pm_step
  rw [hi]
  dsimp only
  rcases hj with ⟨rfl, rfl⟩ | ⟨rfl, hw, hw6⟩
  · rw [if_pos (show pm_lenOk (Instr.invokespecial j) 3 = true from rfl)]
    have hc : pm_callee T k (.invokespecial j) = none := by
      unfold pm_callee
      dsimp only
      rw [hm]
      rfl
    rw [hc]
    dsimp only [pm_simple, pm_libW]
    rw [hm]
    exact h
  · rw [if_pos (show pm_lenOk (Instr.invokestatic j) 3 = true from rfl)]
    have hc : pm_callee T k (.invokestatic j) = none := by
      unfold pm_callee
      dsimp only
      rw [hm]
      split
      · rename_i e; cases e; omega
      · rename_i e; cases e; omega
      · rfl
    rw [hc]
    dsimp only [pm_simple, pm_libW]
    rw [hm]
    dsimp only
    rw [if_pos (by rw [beq_eq_false_iff_ne]; exact hw)]
    exact h
theorem wp_lib6 {j x pc sz sl a : Nat} {L : pm_L} {r : List Value} {h : pm_H} (hi : pm_ins T k pc = some (.invokespecial j, 3)) (hm : pm_mlk T (pm_o T k) j = some (6, x)) (hf : 1 ≤ fr) (hl : pm_sum r + 12 ≤ lo) (kk : pm_WP T fr lo k (pc + 3, L, r, h, sz, sl) Q) : pm_WP T fr lo k (pc, L, .ref a :: r, h, sz, sl) Q := by
  refine wp_lib (w := 6) (j := j) (x := x) hi (Or.inl ⟨rfl, rfl⟩) hm ?_ kk
  exact (if_pos ⟨hf, hl⟩ : (if 1 ≤ fr ∧ pm_sum r + 12 ≤ lo then some (pc + 3, L, r, h, sz, sl) else none) = some (pc + 3, L, r, h, sz, sl))
theorem wp_min {j x' pc sz sl : Nat} {x y : Int32} {L : pm_L} {r : List Value} {h : pm_H} (hi : pm_ins T k pc = some (.invokestatic j, 3)) (hm : pm_mlk T (pm_o T k) j = some (7, x')) (hf : 1 ≤ fr) (hl : pm_sum r + 13 ≤ lo) (kk : pm_WP T fr lo k (pc + 3, L, .int (if y < x then y else x) :: r, h, sz, sl) Q) : pm_WP T fr lo k (pc, L, .int y :: .int x :: r, h, sz, sl) Q := by
  refine wp_lib (w := 7) (j := j) (x := x') hi (Or.inr ⟨rfl, by omega, by omega⟩) hm ?_ kk
  exact (if_pos ⟨hf, hl⟩ : (if 1 ≤ fr ∧ pm_sum r + 13 ≤ lo then some (pc + 3, L, Value.int (if y < x then y else x) :: r, h, sz, sl) else none) = some (pc + 3, L, Value.int (if y < x then y else x) :: r, h, sz, sl))
theorem wp_max {j x' pc sz sl : Nat} {x y : Int32} {L : pm_L} {r : List Value} {h : pm_H} (hi : pm_ins T k pc = some (.invokestatic j, 3)) (hm : pm_mlk T (pm_o T k) j = some (8, x')) (hf : 1 ≤ fr) (hl : pm_sum r + 13 ≤ lo) (kk : pm_WP T fr lo k (pc + 3, L, .int (if x < y then y else x) :: r, h, sz, sl) Q) : pm_WP T fr lo k (pc, L, .int y :: .int x :: r, h, sz, sl) Q := by
  refine wp_lib (w := 8) (j := j) (x := x') hi (Or.inr ⟨rfl, by omega, by omega⟩) hm ?_ kk
  exact (if_pos ⟨hf, hl⟩ : (if 1 ≤ fr ∧ pm_sum r + 13 ≤ lo then some (pc + 3, L, Value.int (if x < y then y else x) :: r, h, sz, sl) else none) = some (pc + 3, L, Value.int (if x < y then y else x) :: r, h, sz, sl))
theorem wp_copy {j x' pc sz sl a a0 k0 kd n0 n1 : Nat} {n dp sp : Int32} {f g : Nat → Int32} {L : pm_L} {r : List Value} {h : pm_H} (hi : pm_ins T k pc = some (.invokestatic j, 3)) (hm : pm_mlk T (pm_o T k) j = some (9, x')) (hf : 1 ≤ fr) (hl : pm_sum r + 60 ≤ lo) (h0 : pm_iar T .int h sz a0 = some (k0, n0, f)) (h1 : pm_iar T .int h sz a = some (kd, n1, g)) (hc : ¬ sp < 0 ∧ ¬ dp < 0 ∧ ¬ n < 0 ∧ sp.toNatClampNeg + n.toNatClampNeg ≤ n0 ∧ dp.toNatClampNeg + n.toNatClampNeg ≤ n1)
    (kk : pm_WP T fr lo k (pc + 3, L, r, va_up h a (.inl (kd, n1, .inl (va_cpy f g sp.toNatClampNeg dp.toNatClampNeg n.toNatClampNeg))), sz, sl) Q) : pm_WP T fr lo k (pc, L, .int n :: .int dp :: .ref a :: .int sp :: .ref a0 :: r, h, sz, sl) Q := by
  refine wp_lib (w := 9) (j := j) (x := x') hi (Or.inr ⟨rfl, by omega, by omega⟩) hm ?_ kk
  simp only [pm_lib, h0, h1]
  rw [if_pos (show (1 ≤ fr ∧ pm_sum r + 60 ≤ lo) ∧ ¬ sp < 0 ∧ ¬ dp < 0 ∧ ¬ n < 0 ∧ sp.toNatClampNeg + n.toNatClampNeg ≤ n0 ∧ dp.toNatClampNeg + n.toNatClampNeg ≤ n1 from ⟨⟨hf, hl⟩, hc⟩)]
/-- branches -/
theorem wp_if {c : Jvm.ClassFile.Cond} {off : Int} {pc t sz sl : Nat} {x : Int32} {L : pm_L} {r : List Value} {h : pm_H} (hi : pm_ins T k pc = some (.ifCond c off, 3)) (ht : pm_tgt pc off = some t) (k1 : pm_cmp c x 0 = true → pm_WP T fr lo k (t, L, r, h, sz, sl) Q) (k2 : pm_cmp c x 0 = false → pm_WP T fr lo k (pc + 3, L, r, h, sz, sl) Q) : pm_WP T fr lo k (pc, L, .int x :: r, h, sz, sl) Q := by
  cases hc : pm_cmp c x 0 with
  | true =>
    refine wp_step ?_ (k1 hc)
    unfold pm_step
    rw [hi]
    dsimp only [pm_lenOk, pm_callee, pm_simple, pm_br]
    rw [hc, ht]
    rfl
  | false =>
    refine wp_step ?_ (k2 hc)
    unfold pm_step
    rw [hi]
    dsimp only [pm_lenOk, pm_callee, pm_simple, pm_br]
    rw [hc, ht]
    rfl
theorem wp_icmp {c : Jvm.ClassFile.Cond} {off : Int} {pc t sz sl : Nat} {x y : Int32} {L : pm_L} {r : List Value} {h : pm_H} (hi : pm_ins T k pc = some (.if_icmp c off, 3)) (ht : pm_tgt pc off = some t) (k1 : pm_cmp c x y = true → pm_WP T fr lo k (t, L, r, h, sz, sl) Q) (k2 : pm_cmp c x y = false → pm_WP T fr lo k (pc + 3, L, r, h, sz, sl) Q) : pm_WP T fr lo k (pc, L, .int y :: .int x :: r, h, sz, sl) Q := by
  cases hc : pm_cmp c x y with
  | true =>
    refine wp_step ?_ (k1 hc)
    unfold pm_step
    rw [hi]
    dsimp only [pm_lenOk, pm_callee, pm_simple, pm_br]
    rw [hc, ht]
    rfl
  | false =>
    refine wp_step ?_ (k2 hc)
    unfold pm_step
    rw [hi]
    dsimp only [pm_lenOk, pm_callee, pm_simple, pm_br]
    rw [hc, ht]
    rfl
end PMW
