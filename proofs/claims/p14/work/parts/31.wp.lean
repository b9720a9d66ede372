section MG31wpx0
/-! reasoning about runs of the pure machine: pm_WP .. st Q: from st the method ends, with Q -/
section PMW
variable {T : pm_Tab} {k fr lo : Nat} {st st' : pm_St}
theorem pm_step_go {go go' : Nat → Nat → Nat → List Value → pm_H → Nat → Nat → Option pm_Rs} (hg : ∀ fr lo t as h sz sl r, go fr lo t as h sz sl = some r → go' fr lo t as h sz sl = some r) (e : pm_step T go fr lo k st = some st') : pm_step T go' fr lo k st = some st' := by
  unfold pm_step at e ⊢
  cases e1 : pm_ins T k st.1 with
  | none => rw [e1] at e; cases e
  | some il =>
    obtain ⟨i, len⟩ := il
    rw [e1] at e
    dsimp only at e ⊢
    by_cases e2 : pm_lenOk i len = true
    · rw [if_pos e2] at e ⊢
      cases e3 : pm_callee T k i with
      | none => rw [e3] at e; exact e
      | some wt =>
        obtain ⟨w, t⟩ := wt
        rw [e3] at e
        dsimp only at e ⊢
        by_cases e4 : pm_na T t ≤ st.2.2.1.length ∧ pm_rcv T w t (st.2.2.1.take (pm_na T t)).reverse st.2.2.2.1 st.2.2.2.2.1 = true ∧ pm_sum (st.2.2.1.drop (pm_na T t)) ≤ 8 ∧ 1 ≤ fr ∧ 19 + pm_max T t ≤ lo ∧ (pm_args (st.2.2.1.take (pm_na T t)).reverse).length ≤ pm_max T t
        · rw [if_pos e4] at e ⊢
          cases e5 : go (fr - 1) (lo - (19 + pm_max T t)) t (st.2.2.1.take (pm_na T t)).reverse st.2.2.2.1 st.2.2.2.2.1 st.2.2.2.2.2 with
          | none => rw [e5] at e; cases e
          | some r =>
            rw [e5] at e
            rw [hg _ _ _ _ _ _ _ _ e5]
            exact e
        · rw [if_neg e4] at e; cases e
    · rw [if_neg e2] at e; cases e
theorem pm_run_succ : ∀ (n fr lo k : Nat) (st : pm_St) (r : pm_Rs), pm_run T n fr lo k st = some r → pm_run T (n + 1) fr lo k st = some r
  | 0, _, _, _, _, _, h => by cases h
  | n + 1, fr, lo, k, st, r, h => by
    unfold pm_run at h
    unfold pm_run
    cases e1 : pm_end T k st with
    | some r' => rw [e1] at h; exact h
    | none =>
      rw [e1] at h
      dsimp only at h ⊢
      cases e2 : pm_step T (fun fr lo t as h sz sl => pm_run T n fr lo t (0, pm_l0 as (pm_max T t), [], h, sz, sl)) fr lo k st with
      | none => rw [e2] at h; cases h
      | some st' =>
        rw [e2] at h
        rw [pm_step_go (fun fr lo t as h sz sl r q => pm_run_succ n _ _ _ _ _ q) e2]
        exact pm_run_succ n _ _ _ _ _ h
theorem pm_run_le {n n' : Nat} {r : pm_Rs} (hn : n ≤ n') (h : pm_run T n fr lo k st = some r) : pm_run T n' fr lo k st = some r := by
  induction hn with
  | refl => exact h
  | step _ ih => exact pm_run_succ _ _ _ _ _ _ ih
def pm_WP (T : pm_Tab) (fr lo k : Nat) (st : pm_St) (Q : pm_Rs → Prop) : Prop := ∃ n r, pm_run T n fr lo k st = some r ∧ Q r
variable {Q Q' : pm_Rs → Prop}
theorem wp_mono (h : pm_WP T fr lo k st Q) (hq : ∀ r, Q r → Q' r) : pm_WP T fr lo k st Q' := by
  obtain ⟨n, r, h1, h2⟩ := h
  exact ⟨n, r, h1, hq r h2⟩
theorem wp_end {r : pm_Rs} (h : pm_end T k st = some r) (hq : Q r) : pm_WP T fr lo k st Q := ⟨1, r, by unfold pm_run; rw [h], hq⟩
theorem pm_rets_no {i : Instr} {S : List Value} {rv : Option Value} (h : pm_rets T k i S = some rv) : i = .return_ ∨ i = .ireturn ∨ i = .lreturn := by
  unfold pm_rets at h
  split at h
  · exact Or.inl rfl
  · exact Or.inr (Or.inl rfl)
  · exact Or.inr (Or.inr rfl)
  · cases h
theorem pm_end_no {go : Nat → Nat → Nat → List Value → pm_H → Nat → Nat → Option pm_Rs} (e : pm_step T go fr lo k st = some st') : pm_end T k st = none := by
  unfold pm_step at e
  unfold pm_end
  cases e1 : pm_ins T k st.1 with
  | none => rfl
  | some il =>
    obtain ⟨i, len⟩ := il
    rw [e1] at e
    dsimp only at e ⊢
    by_cases e2 : pm_lenOk i len = true
    · rw [if_pos e2] at e ⊢
      cases hr : pm_rets T k i st.2.2.1 with
      | none => rfl
      | some rv =>
        rcases pm_rets_no hr with rfl | rfl | rfl
        · cases e
        · cases e
        · cases e
    · rw [if_neg e2] at e; cases e
def pm_go0 : Nat → Nat → Nat → List Value → pm_H → Nat → Nat → Option pm_Rs := fun _ _ _ _ _ _ _ => none
theorem wp_step (h : pm_step T pm_go0 fr lo k st = some st') (kk : pm_WP T fr lo k st' Q) : pm_WP T fr lo k st Q := by
  obtain ⟨n, r, h1, h2⟩ := kk
  refine ⟨n + 1, r, ?_, h2⟩
  unfold pm_run
  rw [pm_end_no h, pm_step_go (go' := fun fr lo t as h sz sl => pm_run T n fr lo t (0, pm_l0 as (pm_max T t), [], h, sz, sl)) (fun _ _ _ _ _ _ _ _ q => by cases q) h]
  exact h1
/-- n simple steps -/
def pm_sN (T : pm_Tab) (fr lo k : Nat) : Nat → pm_St → Option pm_St
  | 0, st => some st
  | n + 1, st => match pm_step T pm_go0 fr lo k st with
    | some st' => pm_sN T fr lo k n st'
    | none => none
theorem wp_steps : ∀ (n : Nat) {st st' : pm_St}, pm_sN T fr lo k n st = some st' → pm_WP T fr lo k st' Q → pm_WP T fr lo k st Q
  | 0, st, st', h, kk => by cases (Option.some.inj h : st = st'); exact kk
  | n + 1, st, st', h, kk => by
    unfold pm_sN at h
    split at h
    · rename_i st1 e1
      exact wp_step e1 (wp_steps n h kk)
    · cases h
/-- the callee, its arguments, what stays on the stack -/
def pm_cd (T : pm_Tab) (k : Nat) (st : pm_St) : Option (Nat × List Value × List Value) := match pm_ins T k st.1 with
  | none => none
  | some (i, len) => if pm_lenOk i len = true then (match pm_callee T k i with
    | some (w, t) => if pm_na T t ≤ st.2.2.1.length ∧ pm_rcv T w t (st.2.2.1.take (pm_na T t)).reverse st.2.2.2.1 st.2.2.2.2.1 = true ∧ pm_sum (st.2.2.1.drop (pm_na T t)) ≤ 8 ∧ (pm_args (st.2.2.1.take (pm_na T t)).reverse).length ≤ pm_max T t then some (t, (st.2.2.1.take (pm_na T t)).reverse, st.2.2.1.drop (pm_na T t)) else none
    | none => none) else none
theorem wp_call {t mx : Nat} {As rest : List Value} (h : pm_cd T k st = some (t, As, rest)) (hmx : pm_max T t = mx) (hf : 1 ≤ fr) (hl : 19 + mx ≤ lo)
    (kk : pm_WP T (fr - 1) (lo - (19 + mx)) t (0, pm_l0 As mx, [], st.2.2.2) (fun r => pm_WP T fr lo k (st.1 + 3, st.2.1, r.1.toList ++ rest, r.2) Q)) : pm_WP T fr lo k st Q := by
  subst hmx
  obtain ⟨n, r, h1, n2, r2, h2, h3⟩ := kk
  have a1 := pm_run_le (Nat.le_max_left n n2) h1
  have a2 := pm_run_le (Nat.le_max_right n n2) h2
  refine ⟨max n n2 + 1, r2, ?_, h3⟩
  have hs : pm_step T (fun fr lo t as h sz sl => pm_run T (max n n2) fr lo t (0, pm_l0 as (pm_max T t), [], h, sz, sl)) fr lo k st = some (st.1 + 3, st.2.1, r.1.toList ++ rest, r.2) := by
    unfold pm_cd at h
    unfold pm_step
    cases e1 : pm_ins T k st.1 with
    | none => rw [e1] at h; cases h
    | some il =>
      obtain ⟨i, len⟩ := il
      rw [e1] at h
      dsimp only at h ⊢
      by_cases e2 : pm_lenOk i len = true
      · rw [if_pos e2] at h ⊢
        cases e3 : pm_callee T k i with
        | none => rw [e3] at h; cases h
        | some wt =>
          obtain ⟨w, t'⟩ := wt
          rw [e3] at h
          dsimp only at h ⊢
          split at h
          · rename_i e4
            cases h
            rw [if_pos ⟨e4.1, e4.2.1, e4.2.2.1, hf, hl, e4.2.2.2⟩]
            have e5 : pm_run T (max n n2) (fr - 1) (lo - (19 + pm_max T t)) t (0, pm_l0 (st.2.2.1.take (pm_na T t)).reverse (pm_max T t), [], st.2.2.2.1, st.2.2.2.2.1, st.2.2.2.2.2) = some r := a1
            rw [e5]
          · cases h
      · rw [if_neg e2] at h; cases h
  unfold pm_run
  rw [pm_end_no hs, hs]
  exact a2
/-- what the library does -/
theorem wp_lib {w : Nat} {i : Instr} {j x : Nat} (hi : pm_ins T k st.1 = some (i, 3)) (hj : (i = .invokespecial j ∧ w = 6) ∨ (i = .invokestatic j ∧ w ≠ 6 ∧ 6 < w)) (hm : pm_mlk T (pm_o T k) j = some (w, x)) (h : pm_lib T fr lo w st.1 st.2.1 st.2.2.1 st.2.2.2.1 st.2.2.2.2.1 st.2.2.2.2.2 = some st') (kk : pm_WP T fr lo k st' Q) : pm_WP T fr lo k st Q := by
  refine wp_step ?_ kk
  unfold pm_step
  rw [hi]
  dsimp only
  rcases hj with ⟨rfl, rfl⟩ | ⟨rfl, hw, hw6⟩
  · rw [if_pos (show pm_lenOk (Instr.invokespecial j) 3 = true from rfl)]
    have hc : pm_callee T k (.invokespecial j) = none := by
      unfold pm_callee
      dsimp only
      rw [hm]
      rfl
    rw [hc]
    dsimp only [pm_simple, pm_libW]
    rw [hm]
    exact h
  · rw [if_pos (show pm_lenOk (Instr.invokestatic j) 3 = true from rfl)]
    have hc : pm_callee T k (.invokestatic j) = none := by
      unfold pm_callee
      dsimp only
      rw [hm]
      split
      · rename_i e; cases e; omega
      · rename_i e; cases e; omega
      · rfl
    rw [hc]
    dsimp only [pm_simple, pm_libW]
    rw [hm]
    dsimp only
    rw [if_pos (by rw [beq_eq_false_iff_ne]; exact hw)]
    exact h
theorem wp_lib6 {j x pc sz sl a : Nat} {L : pm_L} {r : List Value} {h : pm_H} (hi : pm_ins T k pc = some (.invokespecial j, 3)) (hm : pm_mlk T (pm_o T k) j = some (6, x)) (hf : 1 ≤ fr) (hl : pm_sum r + 12 ≤ lo) (kk : pm_WP T fr lo k (pc + 3, L, r, h, sz, sl) Q) : pm_WP T fr lo k (pc, L, .ref a :: r, h, sz, sl) Q := by
  refine wp_lib (w := 6) (j := j) (x := x) hi (Or.inl ⟨rfl, rfl⟩) hm ?_ kk
  exact (if_pos ⟨hf, hl⟩ : (if 1 ≤ fr ∧ pm_sum r + 12 ≤ lo then some (pc + 3, L, r, h, sz, sl) else none) = some (pc + 3, L, r, h, sz, sl))
theorem wp_min {j x' pc sz sl : Nat} {x y : Int32} {L : pm_L} {r : List Value} {h : pm_H} (hi : pm_ins T k pc = some (.invokestatic j, 3)) (hm : pm_mlk T (pm_o T k) j = some (7, x')) (hf : 1 ≤ fr) (hl : pm_sum r + 13 ≤ lo) (kk : pm_WP T fr lo k (pc + 3, L, .int (if y < x then y else x) :: r, h, sz, sl) Q) : pm_WP T fr lo k (pc, L, .int y :: .int x :: r, h, sz, sl) Q := by
  refine wp_lib (w := 7) (j := j) (x := x') hi (Or.inr ⟨rfl, by omega, by omega⟩) hm ?_ kk
  exact (if_pos ⟨hf, hl⟩ : (if 1 ≤ fr ∧ pm_sum r + 13 ≤ lo then some (pc + 3, L, Value.int (if y < x then y else x) :: r, h, sz, sl) else none) = some (pc + 3, L, Value.int (if y < x then y else x) :: r, h, sz, sl))
theorem wp_max {j x' pc sz sl : Nat} {x y : Int32} {L : pm_L} {r : List Value} {h : pm_H} (hi : pm_ins T k pc = some (.invokestatic j, 3)) (hm : pm_mlk T (pm_o T k) j = some (8, x')) (hf : 1 ≤ fr) (hl : pm_sum r + 13 ≤ lo) (kk : pm_WP T fr lo k (pc + 3, L, .int (if x < y then y else x) :: r, h, sz, sl) Q) : pm_WP T fr lo k (pc, L, .int y :: .int x :: r, h, sz, sl) Q := by
  refine wp_lib (w := 8) (j := j) (x := x') hi (Or.inr ⟨rfl, by omega, by omega⟩) hm ?_ kk
  exact (if_pos ⟨hf, hl⟩ : (if 1 ≤ fr ∧ pm_sum r + 13 ≤ lo then some (pc + 3, L, Value.int (if x < y then y else x) :: r, h, sz, sl) else none) = some (pc + 3, L, Value.int (if x < y then y else x) :: r, h, sz, sl))
theorem wp_copy {j x' pc sz sl a a0 k0 kd n0 n1 : Nat} {n dp sp : Int32} {f g : Nat → Int32} {L : pm_L} {r : List Value} {h : pm_H} (hi : pm_ins T k pc = some (.invokestatic j, 3)) (hm : pm_mlk T (pm_o T k) j = some (9, x')) (hf : 1 ≤ fr) (hl : pm_sum r + 60 ≤ lo) (h0 : pm_iar T .int h sz a0 = some (k0, n0, f)) (h1 : pm_iar T .int h sz a = some (kd, n1, g)) (hc : ¬ sp < 0 ∧ ¬ dp < 0 ∧ ¬ n < 0 ∧ sp.toNatClampNeg + n.toNatClampNeg ≤ n0 ∧ dp.toNatClampNeg + n.toNatClampNeg ≤ n1)
    (kk : pm_WP T fr lo k (pc + 3, L, r, va_up h a (.inl (kd, n1, .inl (va_cpy f g sp.toNatClampNeg dp.toNatClampNeg n.toNatClampNeg))), sz, sl) Q) : pm_WP T fr lo k (pc, L, .int n :: .int dp :: .ref a :: .int sp :: .ref a0 :: r, h, sz, sl) Q := by
  refine wp_lib (w := 9) (j := j) (x := x') hi (Or.inr ⟨rfl, by omega, by omega⟩) hm ?_ kk
  simp only [pm_lib, h0, h1]
  rw [if_pos (show (1 ≤ fr ∧ pm_sum r + 60 ≤ lo) ∧ ¬ sp < 0 ∧ ¬ dp < 0 ∧ ¬ n < 0 ∧ sp.toNatClampNeg + n.toNatClampNeg ≤ n0 ∧ dp.toNatClampNeg + n.toNatClampNeg ≤ n1 from ⟨⟨hf, hl⟩, hc⟩)]
/-- branches -/
theorem wp_if {c : Jvm.ClassFile.Cond} {off : Int} {pc t sz sl : Nat} {x : Int32} {L : pm_L} {r : List Value} {h : pm_H} (hi : pm_ins T k pc = some (.ifCond c off, 3)) (ht : pm_tgt pc off = some t) (k1 : pm_cmp c x 0 = true → pm_WP T fr lo k (t, L, r, h, sz, sl) Q) (k2 : pm_cmp c x 0 = false → pm_WP T fr lo k (pc + 3, L, r, h, sz, sl) Q) : pm_WP T fr lo k (pc, L, .int x :: r, h, sz, sl) Q := by
  cases hc : pm_cmp c x 0 with
  | true =>
    refine wp_step ?_ (k1 hc)
    unfold pm_step
    rw [hi]
    dsimp only [pm_lenOk, pm_callee, pm_simple, pm_br]
    rw [hc, ht]
    rfl
  | false =>
    refine wp_step ?_ (k2 hc)
    unfold pm_step
    rw [hi]
    dsimp only [pm_lenOk, pm_callee, pm_simple, pm_br]
    rw [hc, ht]
    rfl
theorem wp_icmp {c : Jvm.ClassFile.Cond} {off : Int} {pc t sz sl : Nat} {x y : Int32} {L : pm_L} {r : List Value} {h : pm_H} (hi : pm_ins T k pc = some (.if_icmp c off, 3)) (ht : pm_tgt pc off = some t) (k1 : pm_cmp c x y = true → pm_WP T fr lo k (t, L, r, h, sz, sl) Q) (k2 : pm_cmp c x y = false → pm_WP T fr lo k (pc + 3, L, r, h, sz, sl) Q) : pm_WP T fr lo k (pc, L, .int y :: .int x :: r, h, sz, sl) Q := by
  cases hc : pm_cmp c x y with
  | true =>
    refine wp_step ?_ (k1 hc)
    unfold pm_step
    rw [hi]
    dsimp only [pm_lenOk, pm_callee, pm_simple, pm_br]
    rw [hc, ht]
    rfl
  | false =>
    refine wp_step ?_ (k2 hc)
    unfold pm_step
    rw [hi]
    dsimp only [pm_lenOk, pm_callee, pm_simple, pm_br]
    rw [hc, ht]
    rfl
end PMW
end MG31wpx0
section MG31wpx1
/-! AN ABSTRACT MACHINE over the pure one: ints and longs by intervals, references by sets {a + 6 j | j < n}, heaps by cells of these. It is closed data, so the kernel runs it. -/
abbrev av : Type := Nat × Int × Int
abbrev ac : Type := (Nat × Nat × av) ⊕ (Nat × List av)
abbrev ah : Type := List (Nat × ac)
abbrev ast : Type := Nat × List (Option av) × List av × ah
/-- so many, 6 apart; from 1000 on: n / 1000 apart -/
def av_ids (a : av) : List Nat := (List.range (a.2.2.toNat % 1000)).map (fun j => a.2.1.toNat + cond (Nat.blt a.2.2.toNat 1000) 6 (a.2.2.toNat / 1000) * j)
/-- 0 an int, 1 a long, 2 a reference to one of some cells, 3 null, 4 the reference to one of the cells outside -/
def av_ok (v : Value) (a : av) : Prop := match v with
  | .int x => a.1 = 0 ∧ a.2.1 ≤ x.toInt ∧ x.toInt ≤ a.2.2
  | .long x => a.1 = 1 ∧ a.2.1 ≤ x.toInt ∧ x.toInt ≤ a.2.2
  | .ref p => a.1 = 2 ∧ p ∈ av_ids a
  | .null => a.1 = 3
  | .retAddr i => a.1 = 4 ∧ a.2.1 = (i : Int)
  | _ => False
/-- the element j of an array: of references, the one at a + 6 j -/
def aq (a : av) (j : Nat) : av := if a.1 = 2 then (2, a.2.1 + 6 * (j : Int), 1) else a
def ac_ok (e : pm_E) (c : ac) : Prop := match e, c with
  | .inl (kd, n, .inl f), .inl (kd', n', a) => kd = kd' ∧ n = n' ∧ ∀ j, j < n → av_ok (.int (f j)) a
  | .inl (kd, n, .inr (.inl f)), .inl (kd', n', a) => kd = kd' ∧ n = n' ∧ ∀ j, j < n → av_ok (.long (f j)) a
  | .inl (kd, n, .inr (.inr (.inr (.inr f)))), .inl (kd', n', a) => kd = kd' ∧ n = n' ∧ ∀ j, j < n → av_ok (va_rf (f j)) (aq a j)
  | .inl (kd, n, .inl f), .inr (c, as) => c = 1000 + kd ∧ n = as.length ∧ ∀ (j : Nat) (a : av), as[j]? = some a → av_ok (.int (f j)) a
  | .inr (ci, fs), .inr (ci', as) => (ci = ci' ∧ ci < 1000) ∧ fs.length = as.length ∧ ∀ (i : Nat) (v : Value) (a : av), fs[i]? = some v → as[i]? = some a → av_ok v a
  | _, _ => False
def ah_get (B : Nat → ac) (o : ah) (i : Nat) : ac := match pm_fd o i with
  | some c => c
  | none => B i
def ah_ok (B : Nat → ac) (sz : Nat) (o : ah) (h : pm_H) : Prop := ∀ i, i < sz → ac_ok (h i) (ah_get B o i)
def al_ok (L : pm_L) (A : List (Option av)) : Prop := L.length = A.length ∧ ∀ (i : Nat) (a : av), A[i]? = some (some a) → ∃ v, pm_get L i = some v ∧ av_ok v a
def as_ok : List Value → List av → Prop
  | [], [] => True
  | v :: vs, a :: as => av_ok v a ∧ as_ok vs as
  | _, _ => False
/-- the pure state st is one of those that s tells -/
def ast_ok (B : Nat → ac) (sz sl : Nat) (s : ast) (st : pm_St) : Prop := st.1 = s.1 ∧ al_ok st.2.1 s.2.1 ∧ as_ok st.2.2.1 s.2.2.1 ∧ ah_ok B sz s.2.2.2 st.2.2.2.1 ∧ st.2.2.2.2.1 = sz ∧ st.2.2.2.2.2 = sl
def ai_lo : Int := -2147483648
def ai_hi : Int := 2147483647
def ai_top : av := (0, ai_lo, ai_hi)
/-- an interval, if it lies within the ints; else all of them -/
def ai_mk (lo hi : Int) : av := if ai_lo ≤ lo ∧ hi ≤ ai_hi then (0, lo, hi) else ai_top
def al_lo : Int := -9223372036854775808
def al_hi : Int := 9223372036854775807
def al_top : av := (1, al_lo, al_hi)
def al_mk (lo hi : Int) : av := if al_lo ≤ lo ∧ hi ≤ al_hi then (1, lo, hi) else al_top
theorem ai_rng (x : Int32) : ai_lo ≤ x.toInt ∧ x.toInt ≤ ai_hi := by
  have h1 := Int32.le_toInt x
  have h2 := Int32.toInt_lt x
  unfold ai_lo ai_hi
  omega
theorem al_rng (x : Int64) : al_lo ≤ x.toInt ∧ x.toInt ≤ al_hi := by
  have h1 := Int64.le_toInt x
  have h2 := Int64.toInt_lt x
  unfold al_lo al_hi
  omega
theorem ai_top_ok (x : Int32) : av_ok (.int x) ai_top := ⟨rfl, ai_rng x⟩
theorem al_top_ok (x : Int64) : av_ok (.long x) al_top := ⟨rfl, al_rng x⟩
theorem ai_mk_ok {x : Int32} {z lo hi : Int} (e : ai_lo ≤ z → z ≤ ai_hi → x.toInt = z) (h1 : lo ≤ z) (h2 : z ≤ hi) : av_ok (.int x) (ai_mk lo hi) := by
  unfold ai_mk
  split
  · rename_i h
    have := e (by omega) (by omega)
    exact ⟨rfl, by dsimp only; omega, by dsimp only; omega⟩
  · exact ai_top_ok x
theorem al_mk_ok {x : Int64} {z lo hi : Int} (e : al_lo ≤ z → z ≤ al_hi → x.toInt = z) (h1 : lo ≤ z) (h2 : z ≤ hi) : av_ok (.long x) (al_mk lo hi) := by
  unfold al_mk
  split
  · rename_i h
    have := e (by omega) (by omega)
    exact ⟨rfl, by dsimp only; omega, by dsimp only; omega⟩
  · exact al_top_ok x
theorem as_cons {vs : List Value} {a : av} {as : List av} (h : as_ok vs (a :: as)) : ∃ v r, vs = v :: r ∧ av_ok v a ∧ as_ok r as := by
  match vs, h with
  | v :: r, h => exact ⟨v, r, rfl, h.1, h.2⟩
theorem av_int {v : Value} {a : av} (ha : a.1 = 0) (h : av_ok v a) : ∃ x : Int32, v = .int x ∧ a.2.1 ≤ x.toInt ∧ x.toInt ≤ a.2.2 := by
  cases v with
  | int x => exact ⟨x, rfl, h.2⟩
  | long x => have := h.1; omega
  | ref x => have := h.1; omega
  | null => have h : a.1 = 3 := h; omega
  | retAddr x => have := h.1; omega
  | _ => exact h.elim
theorem av_long {v : Value} {a : av} (ha : a.1 = 1) (h : av_ok v a) : ∃ x : Int64, v = .long x ∧ a.2.1 ≤ x.toInt ∧ x.toInt ≤ a.2.2 := by
  cases v with
  | long x => exact ⟨x, rfl, h.2⟩
  | int x => have := h.1; omega
  | ref x => have := h.1; omega
  | null => have h : a.1 = 3 := h; omega
  | retAddr x => have := h.1; omega
  | _ => exact h.elim
theorem av_ref {v : Value} {a : av} (ha : a.1 = 2) (h : av_ok v a) : ∃ p : Nat, v = .ref p ∧ p ∈ av_ids a := by
  cases v with
  | ref x => exact ⟨x, rfl, h.2⟩
  | int x => have := h.1; omega
  | long x => have := h.1; omega
  | null => have h : a.1 = 3 := h; omega
  | retAddr x => have := h.1; omega
  | _ => exact h.elim
theorem av_cat {v : Value} {a : av} (h : av_ok v a) : v.category = if a.1 = 1 then 2 else 1 := by
  cases v with
  | int x => have := h.1; simp [Value.category, this]
  | long x => have := h.1; simp [Value.category, this]
  | ref x => have := h.1; simp [Value.category, this]
  | null => have h : a.1 = 3 := h; simp [Value.category, h]
  | retAddr x => have := h.1; simp [Value.category, this]
  | _ => exact h.elim
/-! joins -/
def av_join (a b : av) : Option av := if a.1 = b.1 then (if a.1 ≤ 1 then some (a.1, min a.2.1 b.2.1, max a.2.2 b.2.2) else if a = b then some a else none) else none
theorem av_join_ok {a b c : av} (h : av_join a b = some c) {v : Value} : (av_ok v a → av_ok v c) ∧ (av_ok v b → av_ok v c) := by
  unfold av_join at h
  split at h
  · rename_i e1
    split at h
    · cases h
      constructor
      · intro q
        cases v with
        | int x => obtain ⟨q1, q2, q3⟩ := q; exact ⟨q1, by dsimp only; omega, by dsimp only; omega⟩
        | long x => obtain ⟨q1, q2, q3⟩ := q; exact ⟨q1, by dsimp only; omega, by dsimp only; omega⟩
        | ref x => have := q.1; omega
        | null => have q : a.1 = 3 := q; omega
        | retAddr x => have := q.1; omega
        | _ => exact q.elim
      · intro q
        cases v with
        | int x => obtain ⟨q1, q2, q3⟩ := q; exact ⟨by dsimp only; omega, by dsimp only; omega, by dsimp only; omega⟩
        | long x => obtain ⟨q1, q2, q3⟩ := q; exact ⟨by dsimp only; omega, by dsimp only; omega, by dsimp only; omega⟩
        | ref x => have := q.1; omega
        | null => have q : b.1 = 3 := q; omega
        | retAddr x => have := q.1; omega
        | _ => exact q.elim
    · split at h
      · rename_i e2; subst e2; cases h; exact ⟨id, id⟩
      · cases h
  · cases h
theorem aq_join {a b c : av} (h : av_join a b = some c) {v : Value} (j : Nat) : (av_ok v (aq a j) → av_ok v (aq c j)) ∧ (av_ok v (aq b j) → av_ok v (aq c j)) := by
  by_cases e : a.1 = 2
  · unfold av_join at h
    split at h
    · rw [if_neg (by omega)] at h
      split at h
      · rename_i e2
        subst e2
        cases h
        exact ⟨id, id⟩
      · cases h
    · cases h
  · have hk : b.1 = a.1 ∧ c.1 = a.1 := by
      unfold av_join at h
      split at h
      · rename_i e1
        split at h
        · cases h; exact ⟨e1.symm, rfl⟩
        · split at h
          · cases h; exact ⟨e1.symm, rfl⟩
          · cases h
      · cases h
    unfold aq
    rw [if_neg e, if_neg (by omega), if_neg (by omega)]
    exact av_join_ok h
/-- two lists, place by place -/
def al2 {α β γ : Type} (f : α → β → Option γ) : List α → List β → Option (List γ)
  | [], [] => some []
  | a :: r, b :: t => match f a b, al2 f r t with
    | some c, some u => some (c :: u)
    | _, _ => none
  | _, _ => none
theorem al2_get {α β γ : Type} {f : α → β → Option γ} : ∀ {l : List α} {t : List β} {u : List γ}, al2 f l t = some u → l.length = u.length ∧ t.length = u.length ∧ ∀ (i : Nat) (c : γ), u[i]? = some c → ∃ a b, l[i]? = some a ∧ t[i]? = some b ∧ f a b = some c
  | [], [], u, h => by
    cases (Option.some.inj h : [] = u)
    exact ⟨rfl, rfl, fun i c q => by simp at q⟩
  | a :: r, b :: t, u, h => by
    unfold al2 at h
    split at h
    · rename_i c u' e1 e2
      cases h
      obtain ⟨h1, h2, h3⟩ := al2_get e2
      refine ⟨by simp [h1], by simp [h2], fun i c' q => ?_⟩
      match i, q with
      | 0, q => cases (Option.some.inj q : c = c'); exact ⟨a, b, rfl, rfl, e1⟩
      | i + 1, q => exact h3 i c' q
    · cases h
  | [], _ :: _, u, h => by cases h
  | _ :: _, [], u, h => by cases h
def ac_join (c d : ac) : Option ac := match c, d with
  | .inl (k, n, a), .inl (k', n', b) => if k = k' ∧ n = n' then (match av_join a b with
    | some x => some (.inl (k, n, x))
    | none => none) else none
  | .inr (ci, as), .inr (ci', bs) => if ci = ci' then (match al2 av_join as bs with
    | some xs => some (.inr (ci, xs))
    | none => none) else none
  | _, _ => none
theorem ac_join_ok {c d x : ac} (h : ac_join c d = some x) {e : pm_E} : (ac_ok e c → ac_ok e x) ∧ (ac_ok e d → ac_ok e x) := by
  unfold ac_join at h
  split at h
  · rename_i k n a k' n' b
    split at h
    · rename_i e1
      obtain ⟨rfl, rfl⟩ := e1
      split at h
      · rename_i y e2
        cases h
        constructor
        · intro q
          obtain ⟨kd, m, f | f | f | f | f⟩ | ⟨ci, fs⟩ := e
          · exact ⟨q.1, q.2.1, fun j hj => (av_join_ok e2).1 (q.2.2 j hj)⟩
          · exact ⟨q.1, q.2.1, fun j hj => (av_join_ok e2).1 (q.2.2 j hj)⟩
          · exact q.elim
          · exact q.elim
          · exact ⟨q.1, q.2.1, fun j hj => (aq_join e2 j).1 (q.2.2 j hj)⟩
          · exact q.elim
        · intro q
          obtain ⟨kd, m, f | f | f | f | f⟩ | ⟨ci, fs⟩ := e
          · exact ⟨q.1, q.2.1, fun j hj => (av_join_ok e2).2 (q.2.2 j hj)⟩
          · exact ⟨q.1, q.2.1, fun j hj => (av_join_ok e2).2 (q.2.2 j hj)⟩
          · exact q.elim
          · exact q.elim
          · exact ⟨q.1, q.2.1, fun j hj => (aq_join e2 j).2 (q.2.2 j hj)⟩
          · exact q.elim
      · cases h
    · cases h
  · rename_i ci as ci' bs
    split at h
    · rename_i e1
      subst e1
      split at h
      · rename_i xs e2
        cases h
        obtain ⟨l1, l2, l3⟩ := al2_get e2
        constructor
        · intro q
          obtain ⟨kd, m, f | f | f | f | f⟩ | ⟨c2, fs⟩ := e
          · refine ⟨q.1, q.2.1.trans l1, fun j a h2 => ?_⟩
            obtain ⟨a1, b1, h3, h4, h5⟩ := l3 j a h2
            exact (av_join_ok h5).1 (q.2.2 j a1 h3)
          · exact q.elim
          · exact q.elim
          · exact q.elim
          · exact q.elim
          · refine ⟨q.1, q.2.1.trans l1, fun i v a h1 h2 => ?_⟩
            obtain ⟨a1, b1, h3, h4, h5⟩ := l3 i a h2
            exact (av_join_ok h5).1 (q.2.2 i v a1 h1 h3)
        · intro q
          obtain ⟨kd, m, f | f | f | f | f⟩ | ⟨c2, fs⟩ := e
          · refine ⟨q.1, q.2.1.trans l2, fun j a h2 => ?_⟩
            obtain ⟨a1, b1, h3, h4, h5⟩ := l3 j a h2
            exact (av_join_ok h5).2 (q.2.2 j b1 h4)
          · exact q.elim
          · exact q.elim
          · exact q.elim
          · exact q.elim
          · refine ⟨q.1, q.2.1.trans l2, fun i v a h1 h2 => ?_⟩
            obtain ⟨a1, b1, h3, h4, h5⟩ := l3 i a h2
            exact (av_join_ok h5).2 (q.2.2 i v b1 h1 h4)
      · cases h
    · cases h
  · cases h
/-! heaps -/
def ah_put : ah → Nat → ac → ah
  | [], i, c => [(i, c)]
  | e :: r, i, c => cond (Nat.beq e.1 i) ((i, c) :: r) (e :: ah_put r i c)
theorem ah_put_fd : ∀ (o : ah) (i : Nat) (c : ac) (j : Nat), pm_fd (ah_put o i c) j = if j = i then some c else pm_fd o j
  | [], i, c, j => by
    unfold ah_put pm_fd
    by_cases h : j = i
    · subst h; simp [pm_fd]
    · rw [if_neg h]
      have : Nat.beq i j = false := by
        cases hb : Nat.beq i j with
        | false => rfl
        | true => exact absurd (Nat.eq_of_beq_eq_true hb).symm h
      simp [this, pm_fd]
  | e :: r, i, c, j => by
    unfold ah_put
    cases hb : Nat.beq e.1 i with
    | true =>
      have he := Nat.eq_of_beq_eq_true hb
      dsimp only [cond]
      unfold pm_fd
      by_cases h : j = i
      · subst h; simp
      · rw [if_neg h]
        have h1 : Nat.beq i j = false := by
          cases hb : Nat.beq i j with
          | false => rfl
          | true => exact absurd (Nat.eq_of_beq_eq_true hb).symm h
        rw [he]
        simp [h1]
    | false =>
      dsimp only [cond]
      unfold pm_fd
      rw [ah_put_fd r i c j]
      by_cases h : j = i
      · subst h
        rw [hb]
        simp
      · rw [if_neg h, if_neg h]
theorem ah_put_get (B : Nat → ac) (o : ah) (i : Nat) (c : ac) (j : Nat) : ah_get B (ah_put o i c) j = if j = i then c else ah_get B o j := by
  unfold ah_get
  rw [ah_put_fd]
  by_cases h : j = i
  · rw [if_pos h, if_pos h]
  · rw [if_neg h, if_neg h]
/-- the cells of some places are joined with what they become -/
def ah_weak (B : Nat → ac) (f : ac → Option ac) : List Nat → ah → Option ah
  | [], o => some o
  | i :: r, o => match f (ah_get B o i) with
    | some c => (match ac_join (ah_get B o i) c with
      | some d => ah_weak B f r (ah_put o i d)
      | none => none)
    | none => none
def ah_upd (B : Nat → ac) (f : ac → Option ac) (is : List Nat) (o : ah) : Option ah := match is with
  | [i] => (match f (ah_get B o i) with
    | some c => some (ah_put o i c)
    | none => none)
  | is => ah_weak B f is o
end MG31wpx1
section MG31wpx2
/-! the operations on intervals (ab_num, ab_and .. ab_asI: rows out of kit/laws, turned) -/
theorem ab_bm {z : Int} (h1 : ai_lo ≤ z) (h2 : z ≤ ai_hi) : z.bmod (2 ^ 32) = z := by
  unfold ai_lo at h1
  unfold ai_hi at h2
  rw [Int.bmod_eq_of_le (by omega) (by omega)]
theorem ab_bmL {z : Int} (h1 : al_lo ≤ z) (h2 : z ≤ al_hi) : z.bmod (2 ^ 64) = z := by
  unfold al_lo at h1
  unfold al_hi at h2
  rw [Int.bmod_eq_of_le (by omega) (by omega)]
theorem ab_and (a b : Nat) : nI a &&& nI b = nI (a &&& b) := by
  apply Int32.toBitVec_inj.1
  show BitVec.ofNat 32 a &&& BitVec.ofNat 32 b = BitVec.ofNat 32 (a &&& b)
  apply BitVec.eq_of_getLsbD_eq
  intro i hi
  simp [hi]
theorem ab_or (a b : Nat) : nI a ||| nI b = nI (a ||| b) := by
  apply Int32.toBitVec_inj.1
  show BitVec.ofNat 32 a ||| BitVec.ofNat 32 b = BitVec.ofNat 32 (a ||| b)
  apply BitVec.eq_of_getLsbD_eq
  intro i hi
  simp [hi]
theorem ab_xor (a b : Nat) : nI a ^^^ nI b = nI (a ^^^ b) := by
  apply Int32.toBitVec_inj.1
  show BitVec.ofNat 32 a ^^^ BitVec.ofNat 32 b = BitVec.ofNat 32 (a ^^^ b)
  apply BitVec.eq_of_getLsbD_eq
  intro i hi
  simp [hi]
theorem ab_of32 (x : Int32) : ∃ n, n < 2 ^ 32 ∧ x = nI n := ⟨x.toBitVec.toNat, x.toBitVec.isLt, Int32.toBitVec_inj.mp (by show _ = BitVec.ofNat 32 _; simp)⟩
theorem ab_sl : ∀ n, n < 32 → ((nI n &&& 31).toBitVec.smod 32).toNat = n := by decide +kernel
theorem ab_su : ∀ n, n < 32 → (((nI n).toUInt32 &&& Int32.toUInt32 31).toBitVec % 32).toNat = n := by decide +kernel
theorem ab_nn {x : Int32} {lo : Int} (h : lo ≤ x.toInt) (h0 : 0 ≤ lo) : ∃ j : Nat, j < 2 ^ 31 ∧ x = nI j ∧ x.toInt = j := by
  have h1 : ¬ x < 0 := by
    rw [Int32.lt_iff_toInt_lt, Int32.toInt_zero]
    omega
  obtain ⟨j, hj, rfl⟩ := nI_of h1
  exact ⟨j, hj, rfl, nI_toInt hj⟩
/-- both operands are known: the machine's own operation; else g -/
def ab_ex (F : Int32 → Int32 → Int32) (g : av → av → Option av) (a b : av) : Option av := if a.2.1 = a.2.2 ∧ b.2.1 = b.2.2 then some (0, (F (Int32.ofInt a.2.1) (Int32.ofInt b.2.1)).toInt, (F (Int32.ofInt a.2.1) (Int32.ofInt b.2.1)).toInt) else g a b
/-- g is right for F -/
def ab_S (F : Int32 → Int32 → Int32) (g : av → av → Option av) : Prop := ∀ (a b c : av) (x y : Int32), g a b = some c → a.2.1 ≤ x.toInt → x.toInt ≤ a.2.2 → b.2.1 ≤ y.toInt → y.toInt ≤ b.2.2 → av_ok (.int (F x y)) c
theorem ab_ex_ok {F : Int32 → Int32 → Int32} {g : av → av → Option av} (h : ab_S F g) : ab_S F (ab_ex F g) := by
  intro a b c x y e h1 h2 h3 h4
  unfold ab_ex at e
  split at e
  · rename_i q
    cases e
    have ex : Int32.ofInt a.2.1 = x := by rw [show a.2.1 = x.toInt by omega]; exact Int32.ofInt_toInt x
    have ey : Int32.ofInt b.2.1 = y := by rw [show b.2.1 = y.toInt by omega]; exact Int32.ofInt_toInt y
    rw [ex, ey]
    exact ⟨rfl, Int.le_refl _, Int.le_refl _⟩
  · exact h a b c x y e h1 h2 h3 h4
def ag_add (a b : av) : Option av := some (ai_mk (a.2.1 + b.2.1) (a.2.2 + b.2.2))
theorem ag_add_ok : ab_S (fun x y => x + y) ag_add := by
  intro a b c x y e h1 h2 h3 h4
  cases e
  exact ai_mk_ok (z := x.toInt + y.toInt) (fun q1 q2 => by rw [Int32.toInt_add, ab_bm q1 q2]) (by omega) (by omega)
def ag_sub (a b : av) : Option av := some (ai_mk (a.2.1 - b.2.2) (a.2.2 - b.2.1))
theorem ag_sub_ok : ab_S (fun x y => x - y) ag_sub := by
  intro a b c x y e h1 h2 h3 h4
  cases e
  exact ai_mk_ok (z := x.toInt - y.toInt) (fun q1 q2 => by rw [Int32.toInt_sub, ab_bm q1 q2]) (by omega) (by omega)
def ag_mul (a b : av) : Option av := if 0 ≤ a.2.1 ∧ 0 ≤ b.2.1 then some (ai_mk 0 (a.2.2 * b.2.2)) else some ai_top
theorem ag_mul_ok : ab_S (fun x y => x * y) ag_mul := by
  intro a b c x y e h1 h2 h3 h4
  unfold ag_mul at e
  split at e
  · rename_i q
    cases e
    exact ai_mk_ok (z := x.toInt * y.toInt) (fun q1 q2 => by rw [Int32.toInt_mul, ab_bm q1 q2]) (Int.mul_nonneg (by omega) (by omega)) (Int.mul_le_mul h2 h4 (by omega) (by omega))
  · cases e; exact ai_top_ok _
def ag_and (a b : av) : Option av := if 0 ≤ a.2.1 then some (0, 0, a.2.2) else if 0 ≤ b.2.1 then some (0, 0, b.2.2) else some ai_top
theorem ag_and_ok : ab_S (fun x y => x &&& y) ag_and := by
  intro a b c x y e h1 h2 h3 h4
  unfold ag_and at e
  split at e
  · rename_i q
    cases e
    obtain ⟨n, hn, rfl, hx⟩ := ab_nn h1 q
    obtain ⟨m, hm, rfl⟩ := ab_of32 y
    show av_ok (.int (nI n &&& nI m)) _
    rw [ab_and]
    have h5 : n &&& m ≤ n := Nat.and_le_left
    have h6 := nI_toInt (n := n &&& m) (by omega)
    exact ⟨rfl, by rw [h6]; dsimp only; omega, by rw [h6]; dsimp only; omega⟩
  · split at e
    · rename_i q
      cases e
      obtain ⟨n, hn, rfl, hx⟩ := ab_nn h3 q
      obtain ⟨m, hm, rfl⟩ := ab_of32 x
      show av_ok (.int (nI m &&& nI n)) _
      rw [ab_and]
      have h5 : m &&& n ≤ n := Nat.and_le_right
      have h6 := nI_toInt (n := m &&& n) (by omega)
      exact ⟨rfl, by rw [h6]; dsimp only; omega, by rw [h6]; dsimp only; omega⟩
    · cases e; exact ai_top_ok _
theorem ab_or_le : ∀ (a b : Nat), a ||| b ≤ a + b := by
  intro a
  induction a using Nat.strongRecOn with
  | _ a ih =>
    intro b
    by_cases h0 : a = 0
    · subst h0; simp
    · have h1 := ih (a / 2) (by omega) (b / 2)
      have h2 := Nat.or_div_two (a := a) (b := b)
      have h3 := Nat.or_mod_two_eq_one (a := a) (b := b)
      rw [← h2] at h1
      by_cases hm : (a ||| b) % 2 = 1
      · have := h3.mp hm
        omega
      · omega
theorem ab_xor_le : ∀ (a b : Nat), a ^^^ b ≤ a + b := by
  intro a
  induction a using Nat.strongRecOn with
  | _ a ih =>
    intro b
    by_cases h0 : a = 0
    · subst h0; simp
    · have h1 := ih (a / 2) (by omega) (b / 2)
      have h2 := Nat.xor_div_two (a := a) (b := b)
      have h3 := Nat.xor_mod_two_eq_one (a := a) (b := b)
      rw [← h2] at h1
      by_cases hm : (a ^^^ b) % 2 = 1
      · have := h3.mp hm
        omega
      · omega
def ag_or (a b : av) : Option av := if 0 ≤ a.2.1 ∧ 0 ≤ b.2.1 ∧ a.2.2 + b.2.2 ≤ ai_hi then some (0, 0, a.2.2 + b.2.2) else some ai_top
theorem ag_or_ok : ab_S (fun x y => x ||| y) ag_or := by
  intro a b c x y e h1 h2 h3 h4
  unfold ag_or at e
  split at e
  · rename_i q
    cases e
    obtain ⟨n, hn, rfl, hx⟩ := ab_nn h1 q.1
    obtain ⟨m, hm, rfl, hy⟩ := ab_nn h3 q.2.1
    show av_ok (.int (nI n ||| nI m)) _
    rw [ab_or]
    have h5 := ab_or_le n m
    have h7 := q.2.2
    unfold ai_hi at h7
    have h6 := nI_toInt (n := n ||| m) (by omega)
    exact ⟨rfl, by rw [h6]; dsimp only; omega, by rw [h6]; dsimp only; omega⟩
  · cases e; exact ai_top_ok _
def ag_xor (a b : av) : Option av := if 0 ≤ a.2.1 ∧ 0 ≤ b.2.1 ∧ a.2.2 + b.2.2 ≤ ai_hi then some (0, 0, a.2.2 + b.2.2) else if b.2.1 = -1 ∧ b.2.2 = -1 then some (0, -1 - a.2.2, -1 - a.2.1) else some ai_top
theorem ab_not (x : Int32) : (x ^^^ (-1)).toInt = -1 - x.toInt := by
  have e : x ^^^ (-1) = -1 - x := by
    apply Int32.toBitVec_inj.1
    show x.toBitVec ^^^ (-1 : Int32).toBitVec = (-1 : Int32).toBitVec - x.toBitVec
    have h1 : (-1 : Int32).toBitVec = BitVec.allOnes 32 := by decide
    rw [h1, BitVec.xor_allOnes, BitVec.allOnes_sub_eq_not]
  rw [e, Int32.toInt_sub]
  have h2 : (-1 : Int32).toInt = -1 := by decide
  rw [h2]
  have := ai_rng x
  unfold ai_lo ai_hi at this
  exact ab_bm (by unfold ai_lo; omega) (by unfold ai_hi; omega)
theorem ag_xor_ok : ab_S (fun x y => x ^^^ y) ag_xor := by
  intro a b c x y e h1 h2 h3 h4
  unfold ag_xor at e
  split at e
  · rename_i q
    cases e
    obtain ⟨n, hn, rfl, hx⟩ := ab_nn h1 q.1
    obtain ⟨m, hm, rfl, hy⟩ := ab_nn h3 q.2.1
    show av_ok (.int (nI n ^^^ nI m)) _
    rw [ab_xor]
    have h5 := ab_xor_le n m
    have h7 := q.2.2
    unfold ai_hi at h7
    have h6 := nI_toInt (n := n ^^^ m) (by omega)
    exact ⟨rfl, by rw [h6]; dsimp only; omega, by rw [h6]; dsimp only; omega⟩
  · split at e
    · rename_i q
      cases e
      have ey : y = -1 := by
        apply Int32.toInt_inj.1
        have h2 : (-1 : Int32).toInt = -1 := by decide
        rw [h2]
        omega
      subst ey
      show av_ok (.int (x ^^^ (-1))) _
      exact ⟨rfl, by rw [ab_not]; dsimp only; omega, by rw [ab_not]; dsimp only; omega⟩
    · cases e; exact ai_top_ok _
def ag_shl (a b : av) : Option av := if 0 ≤ a.2.1 ∧ 0 ≤ b.2.1 ∧ b.2.2 ≤ 30 ∧ a.2.2 * 2 ^ b.2.2.toNat ≤ ai_hi then some (0, 0, a.2.2 * 2 ^ b.2.2.toNat) else some ai_top
theorem ag_shl_ok : ab_S (fun x y => x <<< (y &&& 31)) ag_shl := by
  intro a b c x y e h1 h2 h3 h4
  unfold ag_shl at e
  split at e
  · rename_i q
    cases e
    obtain ⟨n, hn, rfl, hx⟩ := ab_nn h1 q.1
    obtain ⟨m, hm, rfl, hy⟩ := ab_nn h3 q.2.1
    have h7 := q.2.2.2
    have h8 : m ≤ b.2.2.toNat := by omega
    have h9 : (n : Int) * 2 ^ m ≤ a.2.2 * 2 ^ b.2.2.toNat := by
      have p1 : (2 : Int) ^ m ≤ 2 ^ b.2.2.toNat := by
        have := Nat.pow_le_pow_right (n := 2) (by omega) h8
        exact_mod_cast this
      exact Int.mul_le_mul (by omega) p1 (by exact Int.le_of_lt (Int.pow_pos (by omega))) (by omega)
    have h10 : (n : Int) * 2 ^ m = ((n * 2 ^ m : Nat) : Int) := by simp
    unfold ai_hi at h7
    show av_ok (.int (nI n <<< (nI m &&& 31))) _
    rw [pk_shlN _ m (ab_sl m (by omega)) (by omega)]
    have h6 := nI_toInt (n := n * 2 ^ m) (by omega)
    exact ⟨rfl, by rw [h6]; dsimp only; omega, by rw [h6]; dsimp only; omega⟩
  · cases e; exact ai_top_ok _
def ag_shr (a b : av) : Option av := if 0 ≤ a.2.1 ∧ 0 ≤ b.2.1 ∧ b.2.2 ≤ 31 then some (0, 0, a.2.2) else some ai_top
theorem ag_shr_ok : ab_S (fun x y => x >>> (y &&& 31)) ag_shr := by
  intro a b c x y e h1 h2 h3 h4
  unfold ag_shr at e
  split at e
  · rename_i q
    cases e
    obtain ⟨n, hn, rfl, hx⟩ := ab_nn h1 q.1
    obtain ⟨m, hm, rfl, hy⟩ := ab_nn h3 q.2.1
    show av_ok (.int (nI n >>> (nI m &&& 31))) _
    rw [pk_shrN hn _ m (ab_sl m (by omega))]
    have h5 : n / 2 ^ m ≤ n := Nat.div_le_self _ _
    generalize n / 2 ^ m = z at h5 ⊢
    have h6 := nI_toInt (n := z) (by omega)
    exact ⟨rfl, by rw [h6]; dsimp only; omega, by rw [h6]; dsimp only; omega⟩
  · cases e; exact ai_top_ok _
def ag_ushr (a b : av) : Option av := if 0 ≤ a.2.1 ∧ 0 ≤ b.2.1 ∧ b.2.2 ≤ 31 then some (0, 0, a.2.2) else if 1 ≤ b.2.1 ∧ b.2.2 ≤ 31 then some (0, 0, 4294967295 / 2 ^ b.2.1.toNat) else some ai_top
theorem ag_ushr_ok : ab_S (fun x y => (x.toUInt32 >>> (y.toUInt32 &&& Int32.toUInt32 31)).toInt32) ag_ushr := by
  intro a b c x y e h1 h2 h3 h4
  unfold ag_ushr at e
  split at e
  · rename_i q
    cases e
    obtain ⟨n, hn, rfl, hx⟩ := ab_nn h1 q.1
    obtain ⟨m, hm, rfl, hy⟩ := ab_nn h3 q.2.1
    show av_ok (.int (((nI n).toUInt32 >>> ((nI m).toUInt32 &&& Int32.toUInt32 31)).toInt32)) _
    rw [pk_ushrN (by omega) _ m (ab_su m (by omega))]
    have h5 : n / 2 ^ m ≤ n := Nat.div_le_self _ _
    generalize n / 2 ^ m = z at h5 ⊢
    have h6 := nI_toInt (n := z) (by omega)
    exact ⟨rfl, by rw [h6]; dsimp only; omega, by rw [h6]; dsimp only; omega⟩
  · split at e
    · rename_i q
      cases e
      obtain ⟨m, hm, rfl, hy⟩ := ab_nn h3 (by omega)
      obtain ⟨n, hn, rfl⟩ := ab_of32 x
      show av_ok (.int (((nI n).toUInt32 >>> ((nI m).toUInt32 &&& Int32.toUInt32 31)).toInt32)) _
      rw [pk_ushrN hn _ m (ab_su m (by omega))]
      have h5 : n / 2 ^ m ≤ 4294967295 / 2 ^ b.2.1.toNat := by
        have p1 : 2 ^ b.2.1.toNat ≤ 2 ^ m := Nat.pow_le_pow_right (by omega) (by omega)
        exact Nat.le_trans (Nat.div_le_div_right (by omega)) (Nat.div_le_div_left p1 (Nat.two_pow_pos _))
      have h8 : 2 ≤ 2 ^ b.2.1.toNat := by
        have := Nat.pow_le_pow_right (n := 2) (by omega) (show 1 ≤ b.2.1.toNat by omega)
        omega
      have h9 : 4294967295 / 2 ^ b.2.1.toNat ≤ 4294967295 / 2 := Nat.div_le_div_left h8 (by omega)
      have h10 : (4294967295 : Int) / 2 ^ b.2.1.toNat = ((4294967295 / 2 ^ b.2.1.toNat : Nat) : Int) := by simp
      rw [h10]
      generalize n / 2 ^ m = z at h5 ⊢
      generalize 4294967295 / 2 ^ b.2.1.toNat = u at h5 h9 ⊢
      have h6 := nI_toInt (n := z) (by omega)
      exact ⟨rfl, by rw [h6]; dsimp only; omega, by rw [h6]; dsimp only; omega⟩
    · cases e; exact ai_top_ok _
/-- a divisor that is above 0 -/
def ag_div (a b : av) : Option av := if 0 < b.2.1 ∧ 0 ≤ a.2.1 then some (0, 0, a.2.2) else if 0 < b.2.1 ∨ b.2.2 < 0 then some ai_top else none
theorem ag_div_ok : ab_S (fun x y => x / y) ag_div := by
  intro a b c x y e h1 h2 h3 h4
  unfold ag_div at e
  split at e
  · rename_i q
    cases e
    obtain ⟨n, hn, rfl, hx⟩ := ab_nn h1 q.2
    obtain ⟨m, hm, rfl, hy⟩ := ab_nn h3 (by omega)
    show av_ok (.int (nI n / nI m)) _
    rw [pk_div hn (by omega) hm]
    have h5 : n / m ≤ n := Nat.div_le_self _ _
    generalize n / m = z at h5 ⊢
    have h6 := nI_toInt (n := z) (by omega)
    exact ⟨rfl, by rw [h6]; dsimp only; omega, by rw [h6]; dsimp only; omega⟩
  · split at e
    · cases e; exact ai_top_ok _
    · cases e
theorem ag_div_ne {a b c : av} {y : Int32} (e : ag_div a b = some c) (h3 : b.2.1 ≤ y.toInt) (h4 : y.toInt ≤ b.2.2) : ¬ y = 0 := by
  intro q
  subst q
  rw [Int32.toInt_zero] at h3 h4
  unfold ag_div at e
  split at e
  · omega
  · split at e
    · omega
    · cases e
def ag_rem (a b : av) : Option av := if 0 < b.2.1 ∧ 0 ≤ a.2.1 then some (0, 0, b.2.2 - 1) else if 0 < b.2.1 ∨ b.2.2 < 0 then some ai_top else none
theorem ag_rem_ok : ab_S (fun x y => x - x / y * y) ag_rem := by
  intro a b c x y e h1 h2 h3 h4
  unfold ag_rem at e
  split at e
  · rename_i q
    cases e
    obtain ⟨n, hn, rfl, hx⟩ := ab_nn h1 q.2
    obtain ⟨m, hm, rfl, hy⟩ := ab_nn h3 (by omega)
    show av_ok (.int (nI n - nI n / nI m * nI m)) _
    rw [pk_rem hn (by omega) hm]
    have h5 : n % m < m := Nat.mod_lt _ (by omega)
    generalize n % m = z at h5 ⊢
    have h6 := nI_toInt (n := z) (by omega)
    exact ⟨rfl, by rw [h6]; dsimp only; omega, by rw [h6]; dsimp only; omega⟩
  · split at e
    · cases e; exact ai_top_ok _
    · cases e
theorem ag_rem_ne {a b c : av} {y : Int32} (e : ag_rem a b = some c) (h3 : b.2.1 ≤ y.toInt) (h4 : y.toInt ≤ b.2.2) : ¬ y = 0 := by
  intro q
  subst q
  rw [Int32.toInt_zero] at h3 h4
  unfold ag_rem at e
  split at e
  · omega
  · split at e
    · omega
    · cases e
end MG31wpx2
section MG31wpx3
/-! one step of the abstract machine -/
section ABT
/-- what a comparison of intervals is: known, or not -/
def ag_cmp (c : Jvm.ClassFile.Cond) (a b : av) : Option Bool := match c with
  | .eq => if a.2.2 < b.2.1 ∨ b.2.2 < a.2.1 then some false else if a.2.1 = a.2.2 ∧ b.2.1 = b.2.2 ∧ a.2.1 = b.2.1 then some true else none
  | .ne => if a.2.2 < b.2.1 ∨ b.2.2 < a.2.1 then some true else if a.2.1 = a.2.2 ∧ b.2.1 = b.2.2 ∧ a.2.1 = b.2.1 then some false else none
  | .lt => if a.2.2 < b.2.1 then some true else if b.2.2 ≤ a.2.1 then some false else none
  | .ge => if b.2.2 ≤ a.2.1 then some true else if a.2.2 < b.2.1 then some false else none
  | .gt => if b.2.2 < a.2.1 then some true else if a.2.2 ≤ b.2.1 then some false else none
  | .le => if a.2.2 ≤ b.2.1 then some true else if b.2.2 < a.2.1 then some false else none
theorem ag_cmp_ok {c : Jvm.ClassFile.Cond} {a b : av} {r : Bool} {x y : Int32} (h : ag_cmp c a b = some r) (h1 : a.2.1 ≤ x.toInt) (h2 : x.toInt ≤ a.2.2) (h3 : b.2.1 ≤ y.toInt) (h4 : y.toInt ≤ b.2.2) : pm_cmp c x y = r := by
  cases c with
  | eq =>
    unfold ag_cmp at h
    dsimp only at h
    split at h
    · cases h; exact decide_eq_false (fun q => by subst q; omega)
    · split at h
      · cases h; exact decide_eq_true (Int32.toInt_inj.1 (by omega))
      · cases h
  | ne =>
    unfold ag_cmp at h
    dsimp only at h
    split at h
    · cases h; exact decide_eq_true (fun q => by subst q; omega)
    · split at h
      · cases h; exact decide_eq_false (fun q => q (Int32.toInt_inj.1 (by omega)))
      · cases h
  | lt =>
    unfold ag_cmp at h
    dsimp only at h
    split at h
    · cases h; exact decide_eq_true (by rw [Int32.lt_iff_toInt_lt]; omega)
    · split at h
      · cases h; exact decide_eq_false (by rw [Int32.lt_iff_toInt_lt]; omega)
      · cases h
  | ge =>
    unfold ag_cmp at h
    dsimp only at h
    split at h
    · cases h; exact decide_eq_true (by rw [Int32.le_iff_toInt_le]; omega)
    · split at h
      · cases h; exact decide_eq_false (by rw [Int32.le_iff_toInt_le]; omega)
      · cases h
  | gt =>
    unfold ag_cmp at h
    dsimp only at h
    split at h
    · cases h; exact decide_eq_true (by rw [Int32.lt_iff_toInt_lt]; omega)
    · split at h
      · cases h; exact decide_eq_false (by rw [Int32.lt_iff_toInt_lt]; omega)
      · cases h
  | le =>
    unfold ag_cmp at h
    dsimp only at h
    split at h
    · cases h; exact decide_eq_true (by rw [Int32.le_iff_toInt_le]; omega)
    · split at h
      · cases h; exact decide_eq_false (by rw [Int32.le_iff_toInt_le]; omega)
      · cases h
/-! locals -/
def aA_get (A : List (Option av)) (i : Nat) : Option av := match A[i]? with
  | some (some a) => some a
  | _ => none
def aA_cut (A : List (Option av)) (i : Nat) : List (Option av) := match i with
  | 0 => A
  | j + 1 => (match aA_get A j with
    | some a => cond (Nat.beq a.1 1) (A.set j none) A
    | none => A)
def aA_st1 (A : List (Option av)) (i : Nat) (a : av) : List (Option av) := (aA_cut A i).set i (some a)
def aA_st2 (A : List (Option av)) (i : Nat) (a : av) : List (Option av) := ((aA_cut A i).set i (some a)).set (i + 1) none
theorem aA_get_at {A : List (Option av)} {i : Nat} {a : av} (h : aA_get A i = some a) : A[i]? = some (some a) := by
  unfold aA_get at h
  split at h
  · rename_i e; cases h; exact e
  · cases h
theorem al_len_cut (A : List (Option av)) (i : Nat) : (aA_cut A i).length = A.length := by
  unfold aA_cut
  cases i with
  | zero => rfl
  | succ j =>
    dsimp only
    split
    · rename_i a _
      cases Nat.beq a.1 1 <;> simp [cond]
    · rfl
theorem pm_len_cut (L : pm_L) (i : Nat) : (pm_cut L i).length = L.length := by
  unfold pm_cut
  cases i with
  | zero => rfl
  | succ j =>
    dsimp only
    split <;> simp
theorem pm_set_ne {L : pm_L} {i j : Nat} {o : Option Value} (h : j ≠ i) : pm_get (L.set i o) j = pm_get L j := by
  unfold pm_get
  rw [List.getElem?_set_ne (Ne.symm h)]
theorem pm_set_eq {L : pm_L} {i : Nat} {v : Value} (h : i < L.length) : pm_get (L.set i (some v)) i = some v := by
  unfold pm_get
  rw [List.getElem?_set_self h]
theorem al_cut {L : pm_L} {A : List (Option av)} (h : al_ok L A) (i : Nat) : al_ok (pm_cut L i) (aA_cut A i) ∧ ∀ (j : Nat) (a : av), (aA_cut A i)[j]? = some (some a) → A[j]? = some (some a) := by
  have key : ∀ (j : Nat) (a : av), (aA_cut A i)[j]? = some (some a) → A[j]? = some (some a) ∧ ¬ (j + 1 = i ∧ a.1 = 1) := by
    intro j a hj
    unfold aA_cut at hj
    cases i with
    | zero => exact ⟨hj, fun q => by omega⟩
    | succ i =>
      dsimp only at hj
      cases hg : aA_get A i with
      | none =>
        rw [hg] at hj
        refine ⟨hj, fun q => ?_⟩
        have e : j = i := by omega
        subst e
        unfold aA_get at hg
        rw [hj] at hg
        cases hg
      | some a' =>
        rw [hg] at hj
        dsimp only at hj
        cases hb : Nat.beq a'.1 1 with
        | true =>
          rw [hb] at hj
          dsimp only [cond] at hj
          by_cases e : j = i
          · subst e
            rw [List.getElem?_set] at hj
            rw [if_pos rfl] at hj
            split at hj
            · cases hj
            · cases hj
          · rw [List.getElem?_set_ne (Ne.symm e)] at hj
            exact ⟨hj, fun q => e (by omega)⟩
        | false =>
          rw [hb] at hj
          dsimp only [cond] at hj
          refine ⟨hj, fun q => ?_⟩
          have e : j = i := by omega
          subst e
          have h2 := aA_get_at hg
          rw [hj] at h2
          cases h2
          rw [q.2] at hb
          cases hb
  refine ⟨⟨by rw [pm_len_cut, al_len_cut]; exact h.1, fun j a hj => ?_⟩, fun j a hj => (key j a hj).1⟩
  obtain ⟨k1, k2⟩ := key j a hj
  obtain ⟨v, hv, hok⟩ := h.2 j a k1
  refine ⟨v, ?_, hok⟩
  unfold pm_cut
  cases i with
  | zero => exact hv
  | succ i =>
    dsimp only
    by_cases hc : pm_cat2 L i = true
    · rw [if_pos hc]
      by_cases e : j = i
      · subst e
        exfalso
        apply k2
        refine ⟨rfl, ?_⟩
        unfold pm_cat2 at hc
        rw [hv] at hc
        dsimp only at hc
        have h5 := av_cat hok
        rw [h5] at hc
        by_cases q : a.1 = 1
        · exact q
        · rw [if_neg q] at hc; simp at hc
      · rw [pm_set_ne e]; exact hv
    · rw [if_neg hc]; exact hv
theorem al_st1 {L : pm_L} {A : List (Option av)} {i : Nat} {v : Value} {a : av} (h : al_ok L A) (hv : av_ok v a) (hi : i < A.length) : al_ok (pm_st1 L i v) (aA_st1 A i a) := by
  obtain ⟨⟨hl, hc⟩, -⟩ := al_cut h i
  unfold pm_st1 aA_st1
  refine ⟨by simp [hl], fun j a' hj => ?_⟩
  by_cases e : j = i
  · subst e
    rw [List.getElem?_set_self (by rw [al_len_cut]; exact hi)] at hj
    cases hj
    exact ⟨v, pm_set_eq (by rw [hl, al_len_cut]; exact hi), hv⟩
  · rw [List.getElem?_set_ne (Ne.symm e)] at hj
    obtain ⟨w, hw, hok⟩ := hc j a' hj
    exact ⟨w, by rw [pm_set_ne e]; exact hw, hok⟩
theorem al_st2 {L : pm_L} {A : List (Option av)} {i : Nat} {v : Value} {a : av} (h : al_ok L A) (hv : av_ok v a) (hi : i < A.length) : al_ok (pm_st2 L i v) (aA_st2 A i a) := by
  have h1 := al_st1 h hv hi
  unfold pm_st1 aA_st1 at h1
  unfold pm_st2 aA_st2
  refine ⟨by have h2 := h1.1; simp only [List.length_set] at h2 ⊢; exact h2, fun j a' hj => ?_⟩
  by_cases e : j = i + 1
  · subst e
    rw [List.getElem?_set, if_pos rfl] at hj
    split at hj
    · cases hj
    · cases hj
  · rw [List.getElem?_set_ne (Ne.symm e)] at hj
    obtain ⟨w, hw, hok⟩ := h1.2 j a' hj
    exact ⟨w, by rw [pm_set_ne e]; exact hw, hok⟩
theorem al_get {L : pm_L} {A : List (Option av)} (h : al_ok L A) {i : Nat} {a : av} (hi : aA_get A i = some a) : ∃ v, pm_get L i = some v ∧ av_ok v a := h.2 i a (aA_get_at hi)
/-! cells that are changed -/
theorem ah_weak_mono {B : Nat → ac} {f : ac → Option ac} {sz : Nat} {h : pm_H} : ∀ {is : List Nat} {o o' : ah}, ah_weak B f is o = some o' → ah_ok B sz o h → ah_ok B sz o' h
  | [], o, o', e, q => by cases (Option.some.inj e : o = o'); exact q
  | i :: r, o, o', e, q => by
    unfold ah_weak at e
    split at e
    · rename_i c e1
      split at e
      · rename_i d e2
        refine ah_weak_mono e (fun j hj => ?_)
        rw [ah_put_get]
        by_cases ej : j = i
        · rw [if_pos ej, ej]
          exact (ac_join_ok e2).1 (ej ▸ q j hj)
        · rw [if_neg ej]; exact q j hj
      · cases e
    · cases e
theorem ah_weak_ok {B : Nat → ac} {f : ac → Option ac} {sz : Nat} {h : pm_H} {p : Nat} {x : pm_E} (hp : p < sz) (hf : ∀ c c', f c = some c' → ac_ok (h p) c → ac_ok x c') : ∀ {is : List Nat} {o o' : ah}, ah_weak B f is o = some o' → p ∈ is → ah_ok B sz o h → ah_ok B sz o' (va_up h p x)
  | [], o, o', e, hm, q => by simp at hm
  | i :: r, o, o', e, hm, q => by
    unfold ah_weak at e
    split at e
    · rename_i c e1
      split at e
      · rename_i d e2
        by_cases ei : p = i
        · subst ei
          refine ah_weak_mono e (fun j hj => ?_)
          rw [ah_put_get]
          unfold va_up
          by_cases ej : j = p
          · rw [if_pos ej, if_pos ej]
            exact (ac_join_ok e2).2 (hf _ _ e1 (q p hp))
          · rw [if_neg ej, if_neg ej]; exact q j hj
        · refine ah_weak_ok hp hf e ((List.mem_cons.mp hm).resolve_left ei) (fun j hj => ?_)
          rw [ah_put_get]
          by_cases ej : j = i
          · rw [if_pos ej, ej]
            exact (ac_join_ok e2).1 (ej ▸ q j hj)
          · rw [if_neg ej]; exact q j hj
      · cases e
    · cases e
theorem ah_upd_ok {B : Nat → ac} {f : ac → Option ac} {sz : Nat} {h : pm_H} {p : Nat} {x : pm_E} {is : List Nat} {o o' : ah} (e : ah_upd B f is o = some o') (hm : p ∈ is) (hp : p < sz) (q : ah_ok B sz o h) (hf : ∀ c c', f c = some c' → ac_ok (h p) c → ac_ok x c') : ah_ok B sz o' (va_up h p x) := by
  unfold ah_upd at e
  split at e
  · rename_i i
    split at e
    · rename_i c e1
      cases e
      have ei : p = i := by simpa using hm
      subst ei
      intro j hj
      rw [ah_put_get]
      unfold va_up
      by_cases ej : j = p
      · rw [if_pos ej, if_pos ej]; exact hf _ _ e1 (q p hp)
      · rw [if_neg ej, if_neg ej]; exact q j hj
    · cases e
  · exact ah_weak_ok hp hf e hm q
end ABT
end MG31wpx3
section MG31wpx4
/-! the simple instructions on the abstract machine -/
section ABS
def aa_n (s : ast) (n : Nat) (S : List av) : Option (List ast) := some [(s.1 + n, s.2.1, S, s.2.2.2)]
def aa_bi (g : av → av → Option av) (s : ast) : Option (List ast) := match s.2.2.1 with
  | b :: a :: r => if a.1 = 0 ∧ b.1 = 0 then (match g a b with
    | some c => aa_n s 1 (c :: r)
    | none => none) else none
  | _ => none
def aa_bl (g : av → av → Option av) (s : ast) : Option (List ast) := match s.2.2.1 with
  | b :: a :: r => if a.1 = 1 ∧ b.1 = 1 then (match g a b with
    | some c => aa_n s 1 (c :: r)
    | none => none) else none
  | _ => none
def aa_ui (g : av → av) (s : ast) : Option (List ast) := match s.2.2.1 with
  | a :: r => if a.1 = 0 then aa_n s 1 (g a :: r) else none
  | _ => none
def aa_lo (t n i : Nat) (s : ast) : Option (List ast) := match aA_get s.2.1 i with
  | some a => if a.1 = t then aa_n s n (a :: s.2.2.1) else none
  | none => none
def aa_so (t n mx i : Nat) (s : ast) : Option (List ast) := match s.2.2.1 with
  | a :: r => if a.1 = t ∧ i < mx ∧ i < s.2.1.length then some [(s.1 + n, aA_st1 s.2.1 i a, r, s.2.2.2)] else none
  | _ => none
def aa_sL (n mx i : Nat) (s : ast) : Option (List ast) := match s.2.2.1 with
  | a :: r => if a.1 = 1 ∧ i + 1 < mx ∧ i < s.2.1.length then some [(s.1 + n, aA_st2 s.2.1 i a, r, s.2.2.2)] else none
  | _ => none
def aa_jp (s : ast) (off : Int) (S : List av) : Option (List ast) := match pm_tgt s.1 off with
  | some t => some [(t, s.2.1, S, s.2.2.2)]
  | none => none
def aa_br (r : Option Bool) (s : ast) (off : Int) (S : List av) : Option (List ast) := match pm_tgt s.1 off with
  | some t => (match r with
    | some true => some [(t, s.2.1, S, s.2.2.2)]
    | some false => some [(s.1 + 3, s.2.1, S, s.2.2.2)]
    | none => some [(t, s.2.1, S, s.2.2.2), (s.1 + 3, s.2.1, S, s.2.2.2)])
  | none => none
def aa_all (s : ast) (S : List av) : List Int → Option (List ast)
  | [] => some []
  | off :: r => match pm_tgt s.1 off, aa_all s S r with
    | some t, some l => some ((t, s.2.1, S, s.2.2.2) :: l)
    | _, _ => none
/-- the join over some cells -/
def aa_over (f : Nat → Option av) : List Nat → Option av
  | [] => none
  | [i] => f i
  | i :: r => match f i, aa_over f r with
    | some a, some b => av_join a b
    | _, _ => none
theorem aa_over_ok {f : Nat → Option av} {p : Nat} : ∀ {is : List Nat} {a : av}, aa_over f is = some a → p ∈ is → ∃ b, f p = some b ∧ ∀ v, av_ok v b → av_ok v a
  | [], a, h, hm => by cases h
  | [i], a, h, hm => by
    have e : p = i := by simpa using hm
    subst e
    exact ⟨a, h, fun _ q => q⟩
  | i :: j :: r, a, h, hm => by
    unfold aa_over at h
    split at h
    · rename_i x y e1 e2
      rcases List.mem_cons.mp hm with rfl | hm
      · exact ⟨x, e1, fun v q => (av_join_ok h).1 q⟩
      · obtain ⟨b, h1, h2⟩ := aa_over_ok e2 hm
        exact ⟨b, h1, fun v q => (av_join_ok h).2 (h2 v q)⟩
    · cases h
def aa_fld (B : Nat → ac) (o : ah) (sz cj f i : Nat) : Option av := if i < sz then (match ah_get B o i with
  | .inr (ci, as) => if ci = cj ∧ ci < 1000 then as[f]? else none
  | _ => none) else none
def aa_gf (T : pm_Tab) (B : Nat → ac) (sz k j : Nat) (s : ast) : Option (List ast) := match s.2.2.1 with
  | a :: r => if a.1 = 2 then (match pm_fld T (pm_o T k) j with
    | some (cj, f, _) => (match aa_over (aa_fld B s.2.2.2 sz cj f) (av_ids a) with
      | some v => aa_n s 3 (v :: r)
      | none => none)
    | none => none) else none
  | _ => none
def aa_fits (t : Nat) (v : av) : Bool := match t with
  | 0 => decide (v.1 = 0)
  | 1 => decide (v.1 = 1)
  | 2 => decide (v.1 = 2)
  | 3 => decide (v.1 = 0 ∧ 0 ≤ v.2.1 ∧ v.2.2 ≤ 1)
  | _ => false
def aa_pfu (cj f : Nat) (v : av) (c : ac) : Option ac := match c with
  | .inr (ci, as) => if ci = cj ∧ f < as.length ∧ ci < 1000 then some (.inr (ci, as.set f v)) else none
  | _ => none
def aa_pf (T : pm_Tab) (B : Nat → ac) (sz k j : Nat) (s : ast) : Option (List ast) := match s.2.2.1 with
  | v :: a :: r => if a.1 = 2 then (match pm_fld T (pm_o T k) j with
    | some (cj, f, t) => if aa_fits (t % 10) v = true ∧ (t < 10 ∨ (t < 20 ∧ pm_init T k = true)) ∧ (av_ids a).all (fun i => decide (i < sz) && (aa_pfu cj f v (ah_get B s.2.2.2 i)).isSome) = true then (match ah_upd B (aa_pfu cj f v) (av_ids a) s.2.2.2 with
      | some o => some [(s.1 + 3, s.2.1, r, o)]
      | none => none) else none
    | none => none) else none
  | _ => none
/-- an element of an array: its type ty, its interval's kind t -/
def aa_elt (T : pm_Tab) (B : Nat → ac) (o : ah) (sz t : Nat) (ty : FieldType) (ix : av) (i : Nat) : Option av := if i < sz then (match ah_get B o i with
  | .inl (kd, n, a) => if (pm_ty T)[kd]? = some ty ∧ a.1 = t ∧ 0 ≤ ix.2.1 ∧ ix.2.2 < n then some a else none
  | _ => none) else none
def aa_ald (T : pm_Tab) (B : Nat → ac) (sz t : Nat) (ty : FieldType) (s : ast) : Option (List ast) := match s.2.2.1 with
  | ix :: a :: r => if ix.1 = 0 ∧ a.1 = 2 then (match aa_over (aa_elt T B s.2.2.2 sz t ty ix) (av_ids a) with
    | some v => aa_n s 1 (v :: r)
    | none => none) else none
  | _ => none
/-- an element of an array of references -/
def aa_qelt (T : pm_Tab) (B : Nat → ac) (o : ah) (sz : Nat) (ix : av) (i : Nat) : Option av := if i < sz then (match ah_get B o i with
  | .inl (kd, n, a) => if pm_isObj (pm_ty T)[kd]? = true ∧ a.1 = 2 ∧ 0 ≤ ix.2.1 ∧ ix.2.2 < n ∧ 0 ≤ a.2.1 ∧ ix.2.2 < 900 then some (2, a.2.1 + 6 * ix.2.1, ix.2.2 - ix.2.1 + 1) else none
  | _ => none) else none
def aa_qld (T : pm_Tab) (B : Nat → ac) (sz : Nat) (s : ast) : Option (List ast) := match s.2.2.1 with
  | ix :: a :: r => if ix.1 = 0 ∧ a.1 = 2 then (match aa_over (aa_qelt T B s.2.2.2 sz ix) (av_ids a) with
    | some v => aa_n s 1 (v :: r)
    | none => none) else none
  | _ => none
/-- the same of ints; an array may be known place by place (.inr, 1000 more than its type's number) -/
def aa_elti (T : pm_Tab) (B : Nat → ac) (o : ah) (sz : Nat) (ty : FieldType) (ix : av) (i : Nat) : Option av := if i < sz then (match ah_get B o i with
  | .inl (kd, n, a) => if (pm_ty T)[kd]? = some ty ∧ a.1 = 0 ∧ 0 ≤ ix.2.1 ∧ ix.2.2 < n then some a else none
  | .inr (c, as) => if 1000 ≤ c ∧ (pm_ty T)[c - 1000]? = some ty ∧ 0 ≤ ix.2.1 ∧ ix.2.2 < as.length then aa_over (fun j => as[j]?) ((List.range (ix.2.2 - ix.2.1 + 1).toNat).map (fun j => ix.2.1.toNat + j)) else none) else none
def aa_aldi (T : pm_Tab) (B : Nat → ac) (sz : Nat) (ty : FieldType) (s : ast) : Option (List ast) := match s.2.2.1 with
  | ix :: a :: r => if ix.1 = 0 ∧ a.1 = 2 then (match aa_over (aa_elti T B s.2.2.2 sz ty ix) (av_ids a) with
    | some v => aa_n s 1 (v :: r)
    | none => none) else none
  | _ => none
/-- the places lo .. hi (counted from i) are joined with v -/
def aa_wk (v : av) (lo hi : Int) : Nat → List av → Option (List av)
  | _, [] => some []
  | i, a :: r => match (if lo ≤ (i : Int) ∧ (i : Int) ≤ hi then av_join a v else some a), aa_wk v lo hi (i + 1) r with
    | some b, some t => some (b :: t)
    | _, _ => none
def aa_astui (T : pm_Tab) (ty : FieldType) (ix v : av) (c : ac) : Option ac := match c with
  | .inl (kd, n, a) => if (pm_ty T)[kd]? = some ty ∧ a.1 = 0 ∧ 0 ≤ ix.2.1 ∧ ix.2.2 < n then (match av_join a v with
    | some b => some (.inl (kd, n, b))
    | none => none) else none
  | .inr (c, as) => if 1000 ≤ c ∧ (pm_ty T)[c - 1000]? = some ty ∧ 0 ≤ ix.2.1 ∧ ix.2.2 < as.length then (if ix.2.1 = ix.2.2 then some (.inr (c, as.set ix.2.1.toNat v)) else (match aa_wk v ix.2.1 ix.2.2 0 as with
    | some bs => some (.inr (c, bs))
    | none => none)) else none
def aa_asti (T : pm_Tab) (B : Nat → ac) (sz : Nat) (ty : FieldType) (nr : av → av) (s : ast) : Option (List ast) := match s.2.2.1 with
  | v :: ix :: a :: r => if v.1 = 0 ∧ ix.1 = 0 ∧ a.1 = 2 ∧ (av_ids a).all (fun i => decide (i < sz) && (aa_astui T ty ix (nr v) (ah_get B s.2.2.2 i)).isSome) = true then (match ah_upd B (aa_astui T ty ix (nr v)) (av_ids a) s.2.2.2 with
      | some o => some [(s.1 + 1, s.2.1, r, o)]
      | none => none) else none
  | _ => none
def aa_astu (T : pm_Tab) (t : Nat) (ty : FieldType) (ix v : av) (c : ac) : Option ac := match c with
  | .inl (kd, n, a) => if (pm_ty T)[kd]? = some ty ∧ a.1 = t ∧ 0 ≤ ix.2.1 ∧ ix.2.2 < n then (match av_join a v with
    | some b => some (.inl (kd, n, b))
    | none => none) else none
  | _ => none
def aa_ast (T : pm_Tab) (B : Nat → ac) (sz t : Nat) (ty : FieldType) (nr : av → av) (s : ast) : Option (List ast) := match s.2.2.1 with
  | v :: ix :: a :: r => if v.1 = t ∧ ix.1 = 0 ∧ a.1 = 2 ∧ (av_ids a).all (fun i => decide (i < sz) && (aa_astu T t ty ix (nr v) (ah_get B s.2.2.2 i)).isSome) = true then (match ah_upd B (aa_astu T t ty ix (nr v)) (av_ids a) s.2.2.2 with
      | some o => some [(s.1 + 1, s.2.1, r, o)]
      | none => none) else none
  | _ => none
def aa_len (T : pm_Tab) (B : Nat → ac) (o : ah) (sz i : Nat) : Option av := if i < sz then (match ah_get B o i with
  | .inl (kd, n, _) => if ((pm_ty T)[kd]?).isSome = true then some (0, (Int32.ofNat n).toInt, (Int32.ofNat n).toInt) else none
  | .inr (c, as) => if 1000 ≤ c ∧ ((pm_ty T)[c - 1000]?).isSome = true then some (0, (Int32.ofNat as.length).toInt, (Int32.ofNat as.length).toInt) else none) else none
def aa_alen (T : pm_Tab) (B : Nat → ac) (sz : Nat) (s : ast) : Option (List ast) := match s.2.2.1 with
  | a :: r => if a.1 = 2 then (match aa_over (aa_len T B s.2.2.2 sz) (av_ids a) with
    | some v => aa_n s 1 (v :: r)
    | none => none) else none
  | _ => none
def aa_sum (S : List av) : Nat := (S.map fun a => cond (Nat.beq a.1 1) 2 1).sum
def aa_src (T : pm_Tab) (B : Nat → ac) (o : ah) (sz : Nat) (q : Int) (i : Nat) : Option av := if i < sz then (match ah_get B o i with
  | .inl (kd, n, a) => if (pm_ty T)[kd]? = some .int ∧ a.1 = 0 ∧ q ≤ n ∧ 0 < n then some a else none
  | _ => none) else none
def aa_cpu (T : pm_Tab) (q : Int) (v : av) (c : ac) : Option ac := match c with
  | .inl (kd, n, a) => if (pm_ty T)[kd]? = some .int ∧ a.1 = 0 ∧ q ≤ n ∧ 0 < n then (match av_join a v with
    | some b => some (.inl (kd, n, b))
    | none => none) else none
  | _ => none
def aa_lib (T : pm_Tab) (B : Nat → ac) (sz fr lo w : Nat) (s : ast) : Option (List ast) := match w, s.2.2.1 with
  | 6, a :: r => if a.1 = 2 ∧ 1 ≤ fr ∧ aa_sum r + 12 ≤ lo then aa_n s 3 r else none
  | 7, b :: a :: r => if a.1 = 0 ∧ b.1 = 0 ∧ 1 ≤ fr ∧ aa_sum r + 13 ≤ lo then aa_n s 3 ((0, min a.2.1 b.2.1, min a.2.2 b.2.2) :: r) else none
  | 8, b :: a :: r => if a.1 = 0 ∧ b.1 = 0 ∧ 1 ≤ fr ∧ aa_sum r + 13 ≤ lo then aa_n s 3 ((0, max a.2.1 b.2.1, max a.2.2 b.2.2) :: r) else none
  | 9, n :: dp :: a :: sp :: a0 :: r => if n.1 = 0 ∧ dp.1 = 0 ∧ a.1 = 2 ∧ sp.1 = 0 ∧ a0.1 = 2 ∧ 0 ≤ n.2.1 ∧ 0 ≤ dp.2.1 ∧ 0 ≤ sp.2.1 ∧ 1 ≤ fr ∧ aa_sum r + 60 ≤ lo then (match aa_over (aa_src T B s.2.2.2 sz (sp.2.2 + n.2.2)) (av_ids a0) with
    | some v => if (av_ids a).all (fun i => decide (i < sz) && (aa_cpu T (dp.2.2 + n.2.2) v (ah_get B s.2.2.2 i)).isSome) = true then (match ah_upd B (aa_cpu T (dp.2.2 + n.2.2) v) (av_ids a) s.2.2.2 with
      | some o => some [(s.1 + 3, s.2.1, r, o)]
      | none => none) else none
    | none => none) else none
  | _, _ => none
def aa_libW (T : pm_Tab) (B : Nat → ac) (sp : Bool) (sz fr lo k j : Nat) (s : ast) : Option (List ast) := match pm_mlk T (pm_o T k) j with
  | some (w, _) => if (w == 6) = sp then aa_lib T B sz fr lo w s else none
  | none => none
def ag_neg (a : av) : av := ai_mk (-a.2.2) (-a.2.1)
def ag_i2l (a : av) : av := (1, a.2.1, a.2.2)
def ag_cut (lo hi : Int) (a : av) : av := if lo ≤ a.2.1 ∧ a.2.2 ≤ hi then a else (0, lo, hi)
def ag_addL (a b : av) : Option av := some (al_mk (a.2.1 + b.2.1) (a.2.2 + b.2.2))
def ag_subL (a b : av) : Option av := some (al_mk (a.2.1 - b.2.2) (a.2.2 - b.2.1))
def ag_mulL (_ _ : av) : Option av := some al_top
def ag_divL (_ b : av) : Option av := if 0 < b.2.1 ∨ b.2.2 < 0 then some al_top else none
def ag_lcmp (a b : av) : Option av := if a.2.2 < b.2.1 then some (0, -1, -1) else if b.2.2 < a.2.1 then some (0, 1, 1) else if a.2.1 = a.2.2 ∧ b.2.1 = b.2.2 ∧ a.2.1 = b.2.1 then some (0, 0, 0) else if b.2.2 ≤ a.2.1 then some (0, 0, 1) else if a.2.2 ≤ b.2.1 then some (0, -1, 0) else some (0, -1, 1)
def aa_k (x : Int32) : av := (0, x.toInt, x.toInt)
/-- as g, but exact where both are known -/
def ag_gd (F : Int32 → Int32 → Int32) (g : av → av → Option av) (a b : av) : Option av := match g a b with
  | some _ => ab_ex F g a b
  | none => none
def aa_simple (T : pm_Tab) (B : Nat → ac) (sz fr lo k : Nat) (i : Instr) (s : ast) : Option (List ast) := match i with
  | .iconst n => aa_n s 1 (aa_k (Int32.ofInt n) :: s.2.2.1)
  | .bipush n => aa_n s 2 (aa_k (Int8.ofInt n).toInt32 :: s.2.2.1)
  | .sipush n => aa_n s 3 (aa_k (Int16.ofInt n).toInt32 :: s.2.2.1)
  | .lconst n => aa_n s 1 ((1, (Int64.ofNat n.val).toInt, (Int64.ofNat n.val).toInt) :: s.2.2.1)
  | .ldc j => (match pm_con T (pm_o T k) j with
    | some v => aa_n s 2 (aa_k v :: s.2.2.1)
    | none => (match st_str (pm_o T k) j with
      | some i => aa_n s 2 ((4, (i : Int), 0) :: s.2.2.1)
      | none => none))
  | .ldc_w j => (match pm_con T (pm_o T k) j with
    | some v => aa_n s 3 (aa_k v :: s.2.2.1)
    | none => (match st_str (pm_o T k) j with
      | some i => aa_n s 3 ((4, (i : Int), 0) :: s.2.2.1)
      | none => none))
  | .ldc2_w j => (match pm_conL T (pm_o T k) j with
    | some v => aa_n s 3 ((1, v.toInt, v.toInt) :: s.2.2.1)
    | none => none)
  | .iload j => aa_lo 0 2 j s
  | .iload_n j => aa_lo 0 1 j.val s
  | .lload j => aa_lo 1 2 j s
  | .lload_n j => aa_lo 1 1 j.val s
  | .aload j => aa_lo 2 2 j s
  | .aload_n j => aa_lo 2 1 j.val s
  | .istore j => aa_so 0 2 (pm_max T k) j s
  | .istore_n j => aa_so 0 1 (pm_max T k) j.val s
  | .astore j => aa_so 2 2 (pm_max T k) j s
  | .astore_n j => aa_so 2 1 (pm_max T k) j.val s
  | .lstore j => aa_sL 2 (pm_max T k) j s
  | .lstore_n j => aa_sL 1 (pm_max T k) j.val s
  | .iinc j n => (match aA_get s.2.1 j with
    | some a => if a.1 = 0 ∧ j < pm_max T k ∧ j < s.2.1.length then (match ab_ex (fun x y => x + y) ag_add a (aa_k (Int32.ofInt n)) with
      | some c => some [(s.1 + 3, aA_st1 s.2.1 j c, s.2.2.1, s.2.2.2)]
      | none => none) else none
    | none => none)
  | .iadd => aa_bi (ab_ex (fun x y => x + y) ag_add) s
  | .isub => aa_bi (ab_ex (fun x y => x - y) ag_sub) s
  | .imul => aa_bi (ab_ex (fun x y => x * y) ag_mul) s
  | .iand => aa_bi (ab_ex (fun x y => x &&& y) ag_and) s
  | .ior => aa_bi (ab_ex (fun x y => x ||| y) ag_or) s
  | .ixor => aa_bi (ab_ex (fun x y => x ^^^ y) ag_xor) s
  | .ishl => aa_bi (ab_ex (fun x y => x <<< (y &&& 31)) ag_shl) s
  | .ishr => aa_bi (ab_ex (fun x y => x >>> (y &&& 31)) ag_shr) s
  | .iushr => aa_bi (ab_ex (fun x y => (x.toUInt32 >>> (y.toUInt32 &&& Int32.toUInt32 31)).toInt32) ag_ushr) s
  | .idiv => aa_bi (ag_gd (fun x y => x / y) ag_div) s
  | .irem => aa_bi (ag_gd (fun x y => x - x / y * y) ag_rem) s
  | .ineg => aa_ui ag_neg s
  | .i2l => aa_ui ag_i2l s
  | .i2b => aa_ui (ag_cut (-128) 127) s
  | .i2s => aa_ui (ag_cut (-32768) 32767) s
  | .i2c => aa_ui (ag_cut 0 65535) s
  | .lmul => aa_bl ag_mulL s
  | .ladd => aa_bl ag_addL s
  | .lsub => aa_bl ag_subL s
  | .ldiv => aa_bl ag_divL s
  | .lrem => aa_bl ag_divL s
  | .lcmp => aa_bl ag_lcmp s
  | .dup => (match s.2.2.1 with
    | a :: r => if a.1 ≠ 1 then aa_n s 1 (a :: a :: r) else none
    | _ => none)
  | .pop => (match s.2.2.1 with
    | a :: r => if a.1 ≠ 1 then aa_n s 1 r else none
    | _ => none)
  | .dup_x1 => (match s.2.2.1 with
    | a :: b :: r => if a.1 ≠ 1 ∧ b.1 ≠ 1 then aa_n s 1 (a :: b :: a :: r) else none
    | _ => none)
  | .dup_x2 => (match s.2.2.1 with
    | a :: b :: c :: r => if a.1 ≠ 1 ∧ b.1 ≠ 1 ∧ c.1 ≠ 1 then aa_n s 1 (a :: b :: c :: a :: r) else none
    | _ => none)
  | .dup2 => (match s.2.2.1 with
    | a :: b :: r => if a.1 ≠ 1 ∧ b.1 ≠ 1 then aa_n s 1 (a :: b :: a :: b :: r) else none
    | _ => none)
  | .ifCond c off => (match s.2.2.1 with
    | a :: r => if a.1 = 0 then aa_br (ag_cmp c a (0, 0, 0)) s off r else none
    | _ => none)
  | .if_icmp c off => (match s.2.2.1 with
    | b :: a :: r => if a.1 = 0 ∧ b.1 = 0 then aa_br (ag_cmp c a b) s off r else none
    | _ => none)
  | .goto off => aa_jp s off s.2.2.1
  | .tableswitch d lo' hi offs => (match s.2.2.1 with
    | a :: r => if a.1 = 0 then (if a.2.2 < lo' ∨ hi < a.2.1 then aa_jp s d r else if a.2.1 = a.2.2 then (if a.2.1 < lo' ∨ hi < a.2.1 then aa_jp s d r else (match offs[(a.2.1 - lo').toNat]? with
      | some off => aa_jp s off r
      | none => none)) else if hi - lo' < offs.size then aa_all s r (d :: offs.toList) else none) else none
    | _ => none)
  | .lookupswitch d ps => (match s.2.2.1 with
    | a :: r => if a.1 = 0 ∧ pm_swOk ps.toList = true then (if ps.toList.all (fun q => decide (q.1 < a.2.1 ∨ a.2.2 < q.1)) = true then aa_jp s d r else if a.2.1 = a.2.2 then aa_jp s (Op.lookupswitch.offset ps.toList d a.2.1) r else aa_all s r (d :: ps.toList.map (fun q => q.2))) else none
    | _ => none)
  | .getfield j => aa_gf T B sz k j s
  | .putfield j => aa_pf T B sz k j s
  | .iaload => aa_aldi T B sz .int s
  | .caload => aa_aldi T B sz .char s
  | .baload => aa_aldi T B sz .boolean s
  | .laload => aa_ald T B sz 1 .long s
  | .aaload => aa_qld T B sz s
  | .iastore => aa_asti T B sz .int (fun v => v) s
  | .castore => aa_asti T B sz .char (ag_cut 0 65535) s
  | .bastore => aa_asti T B sz .boolean (ag_cut 0 1) s
  | .lastore => aa_ast T B sz 1 .long (fun v => v) s
  | .arraylength => aa_alen T B sz s
  | .invokespecial j => aa_libW T B true sz fr lo k j s
  | .invokestatic j => aa_libW T B false sz fr lo k j s
  | _ => none
end ABS
end MG31wpx4
section MG31wpx5
/-! the simple instructions on the abstract machine are right: first the shapes -/
section ABV
variable {T : pm_Tab} {B : Nat → ac} {sz sl fr lo k pc : Nat} {A : List (Option av)} {SA : List av} {o : ah} {L : pm_L} {S : List Value} {h : pm_H} {ss : List ast}
/-- the pure machine goes on, to one of these -/
def aa_R (B : Nat → ac) (sz sl : Nat) (r : Option pm_St) (ss : List ast) : Prop := ∃ st', r = some st' ∧ ∃ s', s' ∈ ss ∧ ast_ok B sz sl s' st'
theorem aR_n {n : Nat} {r : Option pm_St} {SB : List av} (e : aa_n (pc, A, SB, o) n SA = some ss) (hL : al_ok L A) (hS : as_ok S SA) (hH : ah_ok B sz o h) (hr : r = some (pc + n, L, S, h, sz, sl)) : aa_R B sz sl r ss := by
  unfold aa_n at e
  cases e
  exact ⟨_, hr, _, List.mem_singleton_self _, rfl, hL, hS, hH, rfl, rfl⟩
theorem aR_1 {pc' : Nat} {r : Option pm_St} (hL : al_ok L A) (hS : as_ok S SA) (hH : ah_ok B sz o h) (hr : r = some (pc', L, S, h, sz, sl)) : aa_R B sz sl r [(pc', A, SA, o)] := ⟨_, hr, _, List.mem_singleton_self _, rfl, hL, hS, hH, rfl, rfl⟩
theorem as_two {a b : av} {r : List av} (hS : as_ok S (b :: a :: r)) : ∃ v w S', S = v :: w :: S' ∧ av_ok v b ∧ av_ok w a ∧ as_ok S' r := by
  obtain ⟨v, S1, rfl, hv, hS1⟩ := as_cons hS
  obtain ⟨w, S2, rfl, hw, hS2⟩ := as_cons hS1
  exact ⟨v, w, S2, rfl, hv, hw, hS2⟩
theorem aR_bi {g : av → av → Option av} {F : Int32 → Int32 → Int32} (hg : ab_S F g) (e : aa_bi g (pc, A, SA, o) = some ss) (hL : al_ok L A) (hS : as_ok S SA) (hH : ah_ok B sz o h) : aa_R B sz sl (pm_bi F pc L S h sz sl) ss := by
  unfold aa_bi at e
  dsimp only at e
  match SA, hS, e with
  | [], _, e => cases e
  | [_], _, e => cases e
  | b :: a :: r, hS, e =>
    dsimp only at e
    split at e
    · rename_i q
      split at e
      · rename_i c ec
        obtain ⟨v, w, S2, rfl, hv, hw, hS2⟩ := as_two hS
        obtain ⟨y, rfl, y1, y2⟩ := av_int q.2 hv
        obtain ⟨x, rfl, x1, x2⟩ := av_int q.1 hw
        exact aR_n e hL (S := .int (F x y) :: S2) ⟨hg a b c x y ec x1 x2 y1 y2, hS2⟩ hH rfl
      · cases e
    · cases e
theorem aR_bd {g : av → av → Option av} {F : Int32 → Int32 → Int32} (hg : ab_S F g) (hne : ∀ {a b c : av} {y : Int32}, g a b = some c → b.2.1 ≤ y.toInt → y.toInt ≤ b.2.2 → ¬ y = 0) (e : aa_bi g (pc, A, SA, o) = some ss) (hL : al_ok L A) (hS : as_ok S SA) (hH : ah_ok B sz o h) : aa_R B sz sl (pm_bd F pc L S h sz sl) ss := by
  unfold aa_bi at e
  dsimp only at e
  match SA, hS, e with
  | [], _, e => cases e
  | [_], _, e => cases e
  | b :: a :: r, hS, e =>
    dsimp only at e
    split at e
    · rename_i q
      split at e
      · rename_i c ec
        obtain ⟨v, w, S2, rfl, hv, hw, hS2⟩ := as_two hS
        obtain ⟨y, rfl, y1, y2⟩ := av_int q.2 hv
        obtain ⟨x, rfl, x1, x2⟩ := av_int q.1 hw
        exact aR_n e hL (S := .int (F x y) :: S2) ⟨hg a b c x y ec x1 x2 y1 y2, hS2⟩ hH (if_neg (hne ec y1 y2))
      · cases e
    · cases e
def ab_SL (F : Int64 → Int64 → Int64) (g : av → av → Option av) : Prop := ∀ (a b c : av) (x y : Int64), g a b = some c → a.2.1 ≤ x.toInt → x.toInt ≤ a.2.2 → b.2.1 ≤ y.toInt → y.toInt ≤ b.2.2 → av_ok (.long (F x y)) c
theorem aR_bl {g : av → av → Option av} {F : Int64 → Int64 → Int64} (hg : ab_SL F g) (e : aa_bl g (pc, A, SA, o) = some ss) (hL : al_ok L A) (hS : as_ok S SA) (hH : ah_ok B sz o h) : aa_R B sz sl (pm_bl F pc L S h sz sl) ss := by
  unfold aa_bl at e
  dsimp only at e
  match SA, hS, e with
  | [], _, e => cases e
  | [_], _, e => cases e
  | b :: a :: r, hS, e =>
    dsimp only at e
    split at e
    · rename_i q
      split at e
      · rename_i c ec
        obtain ⟨v, w, S2, rfl, hv, hw, hS2⟩ := as_two hS
        obtain ⟨y, rfl, y1, y2⟩ := av_long q.2 hv
        obtain ⟨x, rfl, x1, x2⟩ := av_long q.1 hw
        exact aR_n e hL (S := .long (F x y) :: S2) ⟨hg a b c x y ec x1 x2 y1 y2, hS2⟩ hH rfl
      · cases e
    · cases e
theorem ag_divL_ne {a b c : av} {y : Int64} (e : ag_divL a b = some c) (h3 : b.2.1 ≤ y.toInt) (h4 : y.toInt ≤ b.2.2) : ¬ y = 0 := by
  unfold ag_divL at e
  split at e
  · rename_i q
    rintro rfl
    rw [Int64.toInt_zero] at h3 h4
    omega
  · cases e
theorem ag_divL_ok {F : Int64 → Int64 → Int64} : ab_SL F ag_divL := by
  intro a b c x y e h1 h2 h3 h4
  unfold ag_divL at e
  split at e
  · cases e; exact al_top_ok _
  · cases e
theorem aR_bdL {F : Int64 → Int64 → Int64} (e : aa_bl ag_divL (pc, A, SA, o) = some ss) (hL : al_ok L A) (hS : as_ok S SA) (hH : ah_ok B sz o h) : aa_R B sz sl (pm_bdL F pc L S h sz sl) ss := by
  unfold aa_bl at e
  dsimp only at e
  match SA, hS, e with
  | [], _, e => cases e
  | [_], _, e => cases e
  | b :: a :: r, hS, e =>
    dsimp only at e
    split at e
    · rename_i q
      split at e
      · rename_i c ec
        obtain ⟨v, w, S2, rfl, hv, hw, hS2⟩ := as_two hS
        obtain ⟨y, rfl, y1, y2⟩ := av_long q.2 hv
        obtain ⟨x, rfl, x1, x2⟩ := av_long q.1 hw
        exact aR_n e hL (S := .long (F x y) :: S2) ⟨ag_divL_ok a b c x y ec x1 x2 y1 y2, hS2⟩ hH (if_neg (ag_divL_ne ec y1 y2))
      · cases e
    · cases e
theorem ag_mulL_ok : ab_SL (fun x y => x * y) ag_mulL := by
  intro a b c x y e h1 h2 h3 h4
  cases e
  exact al_top_ok _
theorem ag_addL_ok : ab_SL (fun x y => x + y) ag_addL := by
  intro a b c x y e h1 h2 h3 h4
  cases e
  exact al_mk_ok (z := x.toInt + y.toInt) (fun q1 q2 => by rw [Int64.toInt_add, ab_bmL q1 q2]) (by omega) (by omega)
theorem ag_subL_ok : ab_SL (fun x y => x - y) ag_subL := by
  intro a b c x y e h1 h2 h3 h4
  cases e
  exact al_mk_ok (z := x.toInt - y.toInt) (fun q1 q2 => by rw [Int64.toInt_sub, ab_bmL q1 q2]) (by omega) (by omega)
theorem ag_lcmp_ok {a b c : av} {x y : Int64} (e : ag_lcmp a b = some c) (h1 : a.2.1 ≤ x.toInt) (h2 : x.toInt ≤ a.2.2) (h3 : b.2.1 ≤ y.toInt) (h4 : y.toInt ≤ b.2.2) : av_ok (.int (lg_cmp x y)) c := by
  have hx : lg_cmp x y = if y.toInt < x.toInt then 1 else if x.toInt = y.toInt then 0 else -1 := by
    unfold lg_cmp
    simp only [gt_iff_lt, Int64.lt_iff_toInt_lt, ← Int64.toInt_inj]
  rw [hx]
  have n1 : (1 : Int32).toInt = 1 := by decide
  have n0 : (0 : Int32).toInt = 0 := by decide
  have nm : (-1 : Int32).toInt = -1 := by decide
  unfold ag_lcmp at e
  split at e
  · cases e
    rw [if_neg (by omega), if_neg (by omega)]
    exact ⟨rfl, by rw [nm]; exact Int.le_refl _, by rw [nm]; exact Int.le_refl _⟩
  · split at e
    · cases e
      rw [if_pos (by omega)]
      exact ⟨rfl, by rw [n1]; exact Int.le_refl _, by rw [n1]; exact Int.le_refl _⟩
    · split at e
      · cases e
        rw [if_neg (by omega), if_pos (by omega)]
        exact ⟨rfl, by rw [n0]; exact Int.le_refl _, by rw [n0]; exact Int.le_refl _⟩
      split at e
      · cases e
        split
        · exact ⟨rfl, by rw [n1]; decide, by rw [n1]; decide⟩
        · rw [if_pos (by omega)]
          exact ⟨rfl, by rw [n0]; decide, by rw [n0]; decide⟩
      split at e
      · cases e
        rw [if_neg (by omega)]
        split
        · exact ⟨rfl, by rw [n0]; decide, by rw [n0]; decide⟩
        · exact ⟨rfl, by rw [nm]; decide, by rw [nm]; decide⟩
      · cases e
        split
        · exact ⟨rfl, by rw [n1]; decide, by rw [n1]; decide⟩
        · split
          · exact ⟨rfl, by rw [n0]; decide, by rw [n0]; decide⟩
          · exact ⟨rfl, by rw [nm]; decide, by rw [nm]; decide⟩
theorem aR_ui {g : av → av} {F : Int32 → Value} (hg : ∀ (a : av) (x : Int32), a.1 = 0 → a.2.1 ≤ x.toInt → x.toInt ≤ a.2.2 → av_ok (F x) (g a)) (e : aa_ui g (pc, A, SA, o) = some ss) (hL : al_ok L A) (hS : as_ok S SA) (hH : ah_ok B sz o h) : aa_R B sz sl (pm_ui F pc L S h sz sl) ss := by
  unfold aa_ui at e
  dsimp only at e
  match SA, hS, e with
  | [], _, e => cases e
  | a :: r, hS, e =>
    dsimp only at e
    split at e
    · rename_i q
      obtain ⟨v, S1, rfl, hv, hS1⟩ := as_cons hS
      obtain ⟨x, rfl, x1, x2⟩ := av_int q hv
      exact aR_n e hL (S := F x :: S1) ⟨hg a x q x1 x2, hS1⟩ hH rfl
    · cases e
theorem ag_neg_ok (a : av) (x : Int32) (_ : a.1 = 0) (h1 : a.2.1 ≤ x.toInt) (h2 : x.toInt ≤ a.2.2) : av_ok (.int (-x)) (ag_neg a) := ai_mk_ok (z := -x.toInt) (fun q1 q2 => by rw [Int32.toInt_neg, ab_bm q1 q2]) (by omega) (by omega)
theorem ag_i2l_ok (a : av) (x : Int32) (_ : a.1 = 0) (h1 : a.2.1 ≤ x.toInt) (h2 : x.toInt ≤ a.2.2) : av_ok (.long x.toInt64) (ag_i2l a) := ⟨rfl, by rw [Int32.toInt_toInt64]; exact h1, by rw [Int32.toInt_toInt64]; exact h2⟩
theorem ag_cut_ok {lo hi : Int} {F : Int32 → Int32} (hF : ∀ x : Int32, lo ≤ (F x).toInt ∧ (F x).toInt ≤ hi) (hI : ∀ x : Int32, lo ≤ x.toInt → x.toInt ≤ hi → F x = x) (a : av) (x : Int32) (ha : a.1 = 0) (h1 : a.2.1 ≤ x.toInt) (h2 : x.toInt ≤ a.2.2) : av_ok (.int (F x)) (ag_cut lo hi a) := by
  unfold ag_cut
  split
  · rw [hI x (by omega) (by omega)]
    exact ⟨ha, h1, h2⟩
  · exact ⟨rfl, (hF x).1, (hF x).2⟩
theorem ac_b (x : Int32) : x.toInt8.toInt32.toInt = x.toInt.bmod (2 ^ 8) := by rw [Int8.toInt_toInt32, Int32.toInt_toInt8]
theorem ac_s (x : Int32) : x.toInt16.toInt32.toInt = x.toInt.bmod (2 ^ 16) := by rw [Int16.toInt_toInt32, Int32.toInt_toInt16]
theorem ag_b_ok (a : av) (x : Int32) (ha : a.1 = 0) (h1 : a.2.1 ≤ x.toInt) (h2 : x.toInt ≤ a.2.2) : av_ok (.int x.toInt8.toInt32) (ag_cut (-128) 127 a) := by
  refine ag_cut_ok (F := fun x => x.toInt8.toInt32) (fun x => ?_) (fun x q1 q2 => Int32.toInt_inj.1 ?_) a x ha h1 h2
  · show _ ≤ x.toInt8.toInt32.toInt ∧ x.toInt8.toInt32.toInt ≤ _
    rw [ac_b]
    have q1 := Int.le_bmod (x := x.toInt) (m := 2 ^ 8) (by decide)
    have q2 := Int.bmod_lt (x := x.toInt) (m := 2 ^ 8) (by decide)
    generalize x.toInt.bmod (2 ^ 8) = z at q1 q2 ⊢
    exact ⟨by omega, by omega⟩
  · show x.toInt8.toInt32.toInt = _
    rw [ac_b, Int.bmod_eq_of_le (by omega) (by omega)]
theorem ag_s_ok (a : av) (x : Int32) (ha : a.1 = 0) (h1 : a.2.1 ≤ x.toInt) (h2 : x.toInt ≤ a.2.2) : av_ok (.int x.toInt16.toInt32) (ag_cut (-32768) 32767 a) := by
  refine ag_cut_ok (F := fun x => x.toInt16.toInt32) (fun x => ?_) (fun x q1 q2 => Int32.toInt_inj.1 ?_) a x ha h1 h2
  · show _ ≤ x.toInt16.toInt32.toInt ∧ x.toInt16.toInt32.toInt ≤ _
    rw [ac_s]
    have q1 := Int.le_bmod (x := x.toInt) (m := 2 ^ 16) (by decide)
    have q2 := Int.bmod_lt (x := x.toInt) (m := 2 ^ 16) (by decide)
    generalize x.toInt.bmod (2 ^ 16) = z at q1 q2 ⊢
    exact ⟨by omega, by omega⟩
  · show x.toInt16.toInt32.toInt = _
    rw [ac_s, Int.bmod_eq_of_le (by omega) (by omega)]
theorem ac_nn {x : Int32} (h0 : 0 ≤ x.toInt) : (x.toBitVec.toNat : Int) = x.toInt := by
  obtain ⟨j, hj, rfl, hx⟩ := ab_nn (Int.le_refl x.toInt) h0
  rw [hx]
  show ((BitVec.ofNat 32 j).toNat : Int) = j
  rw [BitVec.toNat_ofNat, Nat.mod_eq_of_lt (by omega)]
theorem ag_c_ok (a : av) (x : Int32) (ha : a.1 = 0) (h1 : a.2.1 ≤ x.toInt) (h2 : x.toInt ≤ a.2.2) : av_ok (.int (x.toUInt32 % 65536).toInt32) (ag_cut 0 65535 a) := by
  refine ag_cut_ok (F := fun x => (x.toUInt32 % 65536).toInt32) (fun x => ?_) (fun x q1 q2 => ?_) a x ha h1 h2
  · show _ ≤ (x.toUInt32 % 65536).toInt32.toInt ∧ (x.toUInt32 % 65536).toInt32.toInt ≤ _
    rw [pk_char]
    have h5 : x.toBitVec.toNat % 65536 < 65536 := Nat.mod_lt _ (by decide)
    generalize x.toBitVec.toNat % 65536 = z at h5 ⊢
    rw [nI_toInt (by omega)]
    omega
  · show (x.toUInt32 % 65536).toInt32 = x
    rw [pk_char]
    have h5 := ac_nn q1
    rw [Nat.mod_eq_of_lt (by omega)]
    exact Int32.toBitVec_inj.1 (by show BitVec.ofNat 32 _ = _; simp)
theorem ac_char (x : Int32) : vp_nar .char x = (x.toUInt32 % 65536).toInt32 := by
  rw [vp_nar_char, lg_i2c_mask, pk_char]
  obtain ⟨n, hn, rfl⟩ := ab_of32 x
  show nI n &&& nI 65535 = nI ((BitVec.ofNat 32 n).toNat % 65536)
  rw [ab_and, BitVec.toNat_ofNat, Nat.mod_eq_of_lt hn, show (65535 : Nat) = 2 ^ 16 - 1 from rfl, Nat.and_two_pow_sub_one_eq_mod]
theorem ag_z_ok (a : av) (x : Int32) (ha : a.1 = 0) (h1 : a.2.1 ≤ x.toInt) (h2 : x.toInt ≤ a.2.2) : av_ok (.int (vp_nar .boolean x)) (ag_cut 0 1 a) := by
  have key : ∀ x : Int32, vp_nar .boolean x = nI (x.toBitVec.toNat % 2) := by
    intro x
    obtain ⟨n, hn, rfl⟩ := ab_of32 x
    show nI n &&& nI 1 = nI ((BitVec.ofNat 32 n).toNat % 2)
    rw [ab_and, BitVec.toNat_ofNat, Nat.mod_eq_of_lt hn, Nat.and_one_is_mod]
  refine ag_cut_ok (F := fun x => vp_nar .boolean x) (fun x => ?_) (fun x q1 q2 => ?_) a x ha h1 h2
  · show _ ≤ (vp_nar .boolean x).toInt ∧ (vp_nar .boolean x).toInt ≤ _
    rw [key]
    have h5 : x.toBitVec.toNat % 2 < 2 := Nat.mod_lt _ (by decide)
    generalize x.toBitVec.toNat % 2 = z at h5 ⊢
    rw [nI_toInt (by omega)]
    omega
  · show vp_nar .boolean x = x
    rw [key]
    have h5 := ac_nn q1
    rw [Nat.mod_eq_of_lt (by omega)]
    exact Int32.toBitVec_inj.1 (by show BitVec.ofNat 32 _ = _; simp)
end ABV
end MG31wpx5
