/-! rests: the gain and the best reply, by hand -/
section RSG
variable {fr lo sz sl : Nat} {h : pm_H}
def rs_g (s a p : Int32) : Int32 := (if s ≤ a then (if s = a then p / 2 else 0) else p) - s - (if s ≤ 2 * a then 0 else 3)
theorem rs_154 (s a p : Int32) : pm_WP PT fr lo 154 (0, pm_l0 [.int s, .int a, .int p] 5, [], h, sz, sl) (fun r => r = (some (.int (rs_g s a p)), h, sz, sl)) := by
  have tail : ∀ w : Int32, pm_WP PT fr lo 154 (21, [some (.int s), some (.int a), some (.int p), none, none], [.int w], h, sz, sl) (fun r => r = (some (.int (w - s - (if s ≤ 2 * a then 0 else 3))), h, sz, sl)) := by
    intro w
    refine wp_i rfl rfl rfl rfl ?_
    refine wp_i rfl rfl rfl rfl ?_
    refine wp_i rfl rfl rfl rfl ?_
    refine wp_i rfl rfl rfl rfl ?_
    refine wp_i rfl rfl rfl rfl ?_
    show pm_WP PT fr lo 154 (26, [some (.int s), some (.int a), some (.int p), some (.int w), none], [.int (2 * a), .int s], h, sz, sl) _
    refine wp_icmp (c := .le) (off := 7) (t := 33) rfl rfl (fun q => ?_) (fun q => ?_)
    · rw [if_pos ((rs_t (P := s ≤ 2 * a) rfl).1 q)]
      refine wp_i rfl rfl rfl rfl ?_
      refine wp_i rfl rfl rfl rfl ?_
      refine wp_i rfl rfl rfl rfl ?_
      refine wp_i rfl rfl rfl rfl ?_
      refine wp_i rfl rfl rfl rfl ?_
      refine wp_i rfl rfl rfl rfl ?_
      refine wp_i rfl rfl rfl rfl ?_
      show pm_WP PT fr lo 154 (42, [some (.int s), some (.int a), some (.int p), some (.int w), some (.int 0)], [.int (w - s - 0)], h, sz, sl) _
      exact wp_iret rfl rfl rfl
    · rw [if_neg ((rs_t (P := s ≤ 2 * a) rfl).2 q)]
      refine wp_i rfl rfl rfl rfl ?_
      refine wp_i rfl rfl rfl rfl ?_
      refine wp_i rfl rfl rfl rfl ?_
      refine wp_i rfl rfl rfl rfl ?_
      refine wp_i rfl rfl rfl rfl ?_
      refine wp_i rfl rfl rfl rfl ?_
      refine wp_i rfl rfl rfl rfl ?_
      refine wp_i rfl rfl rfl rfl ?_
      show pm_WP PT fr lo 154 (42, [some (.int s), some (.int a), some (.int p), some (.int w), some (.int 3)], [.int (w - s - 3)], h, sz, sl) _
      exact wp_iret rfl rfl rfl
  unfold rs_g
  refine wp_i rfl rfl rfl rfl ?_
  refine wp_i rfl rfl rfl rfl ?_
  show pm_WP PT fr lo 154 (2, [some (.int s), some (.int a), some (.int p), none, none], [.int a, .int s], h, sz, sl) _
  refine wp_icmp (c := .le) (off := 7) (t := 9) rfl rfl (fun q => ?_) (fun q => ?_)
  · rw [if_pos ((rs_t (P := s ≤ a) rfl).1 q)]
    refine wp_i rfl rfl rfl rfl ?_
    refine wp_i rfl rfl rfl rfl ?_
    show pm_WP PT fr lo 154 (11, [some (.int s), some (.int a), some (.int p), none, none], [.int a, .int s], h, sz, sl) _
    refine wp_icmp (c := .ne) (off := 9) (t := 20) rfl rfl (fun q => ?_) (fun q => ?_)
    · rw [if_neg ((rs_t (P := ¬ s = a) rfl).1 q)]
      refine wp_i rfl rfl rfl rfl ?_
      show pm_WP PT fr lo 154 (21, [some (.int s), some (.int a), some (.int p), none, none], [.int 0], h, sz, sl) _
      exact (tail 0)
    · rw [if_pos (Decidable.not_not.mp ((rs_t (P := ¬ s = a) rfl).2 q))]
      refine wp_i rfl rfl rfl rfl ?_
      refine wp_i rfl rfl rfl rfl ?_
      refine wp_i rfl rfl rfl rfl ?_
      refine wp_i rfl rfl rfl rfl ?_
      show pm_WP PT fr lo 154 (21, [some (.int s), some (.int a), some (.int p), none, none], [.int (p / 2)], h, sz, sl) _
      exact (tail (p / 2))
  · rw [if_neg ((rs_t (P := s ≤ a) rfl).2 q)]
    refine wp_i rfl rfl rfl rfl ?_
    refine wp_i rfl rfl rfl rfl ?_
    show pm_WP PT fr lo 154 (21, [some (.int s), some (.int a), some (.int p), none, none], [.int p], h, sz, sl) _
    exact (tail p)
theorem rs_166 (b : Bool) : pm_WP PT fr lo 165 (0, pm_l0 [.int (cond b 1 0)] 1, [], h, sz, sl) (fun r => r = (some (.int (cond b 1 0)), h, sz, sl)) := by
  cases b with
  | true =>
    refine wp_i rfl rfl rfl rfl ?_
    refine wp_i rfl rfl rfl rfl ?_
    refine wp_i rfl rfl rfl rfl ?_
    refine wp_i rfl rfl rfl rfl ?_
    show pm_WP PT fr lo 165 (9, [some (.int 1)], [.int 1], h, sz, sl) _
    exact wp_iret rfl rfl rfl
  | false =>
    refine wp_i rfl rfl rfl rfl ?_
    refine wp_i rfl rfl rfl rfl ?_
    refine wp_i rfl rfl rfl rfl ?_
    show pm_WP PT fr lo 165 (9, [some (.int 0)], [.int 0], h, sz, sl) _
    exact wp_iret rfl rfl rfl
theorem rs_259 (hf : 1 ≤ fr) (hl : 20 ≤ lo) (s a p : Int32) : pm_WP PT fr lo 259 (0, pm_l0 [.int s, .int a, .int p] 4, [], h, sz, sl) (fun r => r = (some (.int (rs_g s a p)), h, sz, sl)) := by
  have last : ∀ (w : Int32) (b : Bool), pm_WP PT fr lo 259 (38, [some (.int s), some (.int a), some (.int p), some (.int w)], [.int (cond b 1 0), .int 3, .int (w - s)], h, sz, sl) (fun r => r = (some (.int (w - s - cond b 3 0)), h, sz, sl)) := by
    intro w b
    refine wp_callS (t := 165) (As := [.int (cond b 1 0)]) (rest := [.int 3, .int (w - s)]) (mx := 1) rfl rfl rfl rfl (Nat.le_of_ble_eq_true rfl) (Nat.le_of_ble_eq_true rfl) hf hl (wp_mono (rs_166 b) ?_)
    rintro _ rfl
    cases b with
    | true =>
      refine wp_i rfl rfl rfl rfl ?_
      refine wp_i rfl rfl rfl rfl ?_
      show pm_WP PT fr lo 259 (43, [some (.int s), some (.int a), some (.int p), some (.int w)], [.int (w - s - 3)], h, sz, sl) _
      exact wp_iret rfl rfl rfl
    | false =>
      refine wp_i rfl rfl rfl rfl ?_
      refine wp_i rfl rfl rfl rfl ?_
      show pm_WP PT fr lo 259 (43, [some (.int s), some (.int a), some (.int p), some (.int w)], [.int (w - s - 0)], h, sz, sl) _
      exact wp_iret rfl rfl rfl
  have tail : ∀ w : Int32, pm_WP PT fr lo 259 (21, [some (.int s), some (.int a), some (.int p), none], [.int w], h, sz, sl) (fun r => r = (some (.int (w - s - (if s ≤ 2 * a then 0 else 3))), h, sz, sl)) := by
    intro w
    refine wp_i rfl rfl rfl rfl ?_
    refine wp_i rfl rfl rfl rfl ?_
    refine wp_i rfl rfl rfl rfl ?_
    refine wp_i rfl rfl rfl rfl ?_
    refine wp_i rfl rfl rfl rfl ?_
    refine wp_i rfl rfl rfl rfl ?_
    refine wp_i rfl rfl rfl rfl ?_
    refine wp_i rfl rfl rfl rfl ?_
    refine wp_i rfl rfl rfl rfl ?_
    show pm_WP PT fr lo 259 (30, [some (.int s), some (.int a), some (.int p), some (.int w)], [.int (2 * a), .int s, .int 3, .int (w - s)], h, sz, sl) _
    refine wp_icmp (c := .le) (off := 7) (t := 37) rfl rfl (fun q => ?_) (fun q => ?_)
    · rw [if_pos ((rs_t (P := s ≤ 2 * a) rfl).1 q)]
      refine wp_i rfl rfl rfl rfl ?_
      show pm_WP PT fr lo 259 (38, [some (.int s), some (.int a), some (.int p), some (.int w)], [.int 0, .int 3, .int (w - s)], h, sz, sl) _
      exact (last w false)
    · rw [if_neg ((rs_t (P := s ≤ 2 * a) rfl).2 q)]
      refine wp_i rfl rfl rfl rfl ?_
      refine wp_i rfl rfl rfl rfl ?_
      show pm_WP PT fr lo 259 (38, [some (.int s), some (.int a), some (.int p), some (.int w)], [.int 1, .int 3, .int (w - s)], h, sz, sl) _
      exact (last w true)
  unfold rs_g
  refine wp_i rfl rfl rfl rfl ?_
  refine wp_i rfl rfl rfl rfl ?_
  show pm_WP PT fr lo 259 (2, [some (.int s), some (.int a), some (.int p), none], [.int a, .int s], h, sz, sl) _
  refine wp_icmp (c := .le) (off := 7) (t := 9) rfl rfl (fun q => ?_) (fun q => ?_)
  · rw [if_pos ((rs_t (P := s ≤ a) rfl).1 q)]
    refine wp_i rfl rfl rfl rfl ?_
    refine wp_i rfl rfl rfl rfl ?_
    show pm_WP PT fr lo 259 (11, [some (.int s), some (.int a), some (.int p), none], [.int a, .int s], h, sz, sl) _
    refine wp_icmp (c := .ne) (off := 9) (t := 20) rfl rfl (fun q => ?_) (fun q => ?_)
    · rw [if_neg ((rs_t (P := ¬ s = a) rfl).1 q)]
      refine wp_i rfl rfl rfl rfl ?_
      show pm_WP PT fr lo 259 (21, [some (.int s), some (.int a), some (.int p), none], [.int 0], h, sz, sl) _
      exact (tail 0)
    · rw [if_pos (Decidable.not_not.mp ((rs_t (P := ¬ s = a) rfl).2 q))]
      refine wp_i rfl rfl rfl rfl ?_
      refine wp_i rfl rfl rfl rfl ?_
      refine wp_i rfl rfl rfl rfl ?_
      refine wp_i rfl rfl rfl rfl ?_
      show pm_WP PT fr lo 259 (21, [some (.int s), some (.int a), some (.int p), none], [.int (p / 2)], h, sz, sl) _
      exact (tail (p / 2))
  · rw [if_neg ((rs_t (P := s ≤ a) rfl).2 q)]
    refine wp_i rfl rfl rfl rfl ?_
    refine wp_i rfl rfl rfl rfl ?_
    show pm_WP PT fr lo 259 (21, [some (.int s), some (.int a), some (.int p), none], [.int p], h, sz, sl) _
    exact (tail p)
def rs_it (s a p : Int32) : Nat → Int32 → Bool
  | 0, _ => true
  | n + 1, x => if rs_g x a p ≤ rs_g s a p then rs_it s a p n (x + 1) else false
theorem rs_c1 : ∀ n : Nat, n < 10 → pm_cmp .gt (Int32.ofNat (10 - (n + 1))) 9 = false := by decide
theorem rs_c2 : ∀ n : Nat, n < 10 → Int32.ofNat (10 - (n + 1)) + 1 = Int32.ofNat (10 - n) := by decide
theorem rs_153l (hf : 1 ≤ fr) (hl : 24 ≤ lo) (s a p : Int32) : ∀ n : Nat, n ≤ 10 → pm_WP PT fr lo 153 (2, [some (.int s), some (.int a), some (.int p), some (.int (Int32.ofNat (10 - n)))], [], h, sz, sl) (fun r => r = (some (.int (cond (rs_it s a p n (Int32.ofNat (10 - n))) 1 0)), h, sz, sl)) := by
  intro n
  induction n with
  | zero =>
    intro _
    refine wp_i rfl rfl rfl rfl ?_
    refine wp_i rfl rfl rfl rfl ?_
    show pm_WP PT fr lo 153 (5, [some (.int s), some (.int a), some (.int p), some (.int (Int32.ofNat (10 - 0)))], [.int 9, .int (Int32.ofNat (10 - 0))], h, sz, sl) _
    refine wp_icmp (c := .gt) (off := 26) (t := 31) rfl rfl (fun q => ?_) (fun q => ?_)
    · refine wp_i rfl rfl rfl rfl ?_
      show pm_WP PT fr lo 153 (32, [some (.int s), some (.int a), some (.int p), some (.int (Int32.ofNat (10 - 0)))], [.int 1], h, sz, sl) _
      exact wp_zret rfl rfl (by decide) rfl
    · exact absurd q (by decide)
  | succ n ih =>
    intro hn
    have hn' : n < 10 := by omega
    have e2 := rs_c2 n hn'
    have e1 := rs_c1 n hn'
    revert e1 e2
    unfold rs_it
    generalize Int32.ofNat (10 - (n + 1)) = x
    intro e2 e1
    refine wp_i rfl rfl rfl rfl ?_
    refine wp_i rfl rfl rfl rfl ?_
    show pm_WP PT fr lo 153 (5, [some (.int s), some (.int a), some (.int p), some (.int x)], [.int 9, .int x], h, sz, sl) _
    refine wp_icmp (c := .gt) (off := 26) (t := 31) rfl rfl (fun q => by rw [e1] at q; cases q) (fun _ => ?_)
    refine wp_i rfl rfl rfl rfl ?_
    refine wp_i rfl rfl rfl rfl ?_
    refine wp_i rfl rfl rfl rfl ?_
    show pm_WP PT fr lo 153 (11, [some (.int s), some (.int a), some (.int p), some (.int x)], [.int p, .int a, .int x], h, sz, sl) _
    refine wp_callS (t := 154) (As := [.int x, .int a, .int p]) (rest := []) (mx := 5) rfl rfl rfl rfl (Nat.le_of_ble_eq_true rfl) (Nat.le_of_ble_eq_true rfl) hf hl (wp_mono (rs_154 x a p) ?_)
    rintro _ rfl
    refine wp_i rfl rfl rfl rfl ?_
    refine wp_i rfl rfl rfl rfl ?_
    refine wp_i rfl rfl rfl rfl ?_
    show pm_WP PT fr lo 153 (17, [some (.int s), some (.int a), some (.int p), some (.int x)], [.int p, .int a, .int s, .int (rs_g x a p)], h, sz, sl) _
    refine wp_callS (t := 154) (As := [.int s, .int a, .int p]) (rest := [.int (rs_g x a p)]) (mx := 5) rfl rfl rfl rfl (Nat.le_of_ble_eq_true rfl) (Nat.le_of_ble_eq_true rfl) hf hl (wp_mono (rs_154 s a p) ?_)
    rintro _ rfl
    refine wp_icmp (c := .le) (off := 5) (t := 25) (x := rs_g x a p) (y := rs_g s a p) rfl rfl (fun q => ?_) (fun q => ?_)
    · rw [if_pos ((rs_t (P := rs_g x a p ≤ rs_g s a p) rfl).1 q)]
      refine wp_i rfl rfl rfl rfl ?_
      refine wp_i rfl rfl rfl rfl ?_
      show pm_WP PT fr lo 153 (2, [some (.int s), some (.int a), some (.int p), some (.int (x + 1))], [], h, sz, sl) _
      rw [e2]
      exact ih (by omega)
    · rw [if_neg ((rs_t (P := rs_g x a p ≤ rs_g s a p) rfl).2 q)]
      refine wp_i rfl rfl rfl rfl ?_
      show pm_WP PT fr lo 153 (24, [some (.int s), some (.int a), some (.int p), some (.int x)], [.int 0], h, sz, sl) _
      exact wp_zret rfl rfl (by decide) rfl
theorem rs_153 (hf : 1 ≤ fr) (hl : 24 ≤ lo) (s a p : Int32) : pm_WP PT fr lo 153 (0, pm_l0 [.int s, .int a, .int p] 4, [], h, sz, sl) (fun r => r = (some (.int (cond (rs_it s a p 10 0) 1 0)), h, sz, sl)) := by
  refine wp_i rfl rfl rfl rfl ?_
  refine wp_i rfl rfl rfl rfl ?_
  show pm_WP PT fr lo 153 (2, [some (.int s), some (.int a), some (.int p), some (.int (Int32.ofNat (10 - 10)))], [], h, sz, sl) _
  exact rs_153l hf hl s a p 10 (Nat.le_refl _)
theorem rs_260l (hf : 2 ≤ fr) (hl : 43 ≤ lo) (s a p : Int32) : ∀ n : Nat, n ≤ 10 → ∀ b : Bool, pm_WP PT fr lo 260 (5, [some (.int s), some (.int a), some (.int p), some (.int (cond b 1 0)), some (.int (Int32.ofNat (10 - n)))], [], h, sz, sl) (fun r => r = (some (.int (cond (b && rs_it s a p n (Int32.ofNat (10 - n))) 1 0)), h, sz, sl)) := by
  intro n
  induction n with
  | zero =>
    intro _ b
    refine wp_i rfl rfl rfl rfl ?_
    refine wp_i rfl rfl rfl rfl ?_
    show pm_WP PT fr lo 260 (9, [some (.int s), some (.int a), some (.int p), some (.int (cond b 1 0)), some (.int (Int32.ofNat (10 - 0)))], [.int 9, .int (Int32.ofNat (10 - 0))], h, sz, sl) _
    refine wp_icmp (c := .gt) (off := 35) (t := 44) rfl rfl (fun q => ?_) (fun q => ?_)
    · cases b with
      | true =>
        refine wp_i rfl rfl rfl rfl ?_
        show pm_WP PT fr lo 260 (45, [some (.int s), some (.int a), some (.int p), some (.int 1), some (.int (Int32.ofNat (10 - 0)))], [.int 1], h, sz, sl) _
        exact wp_zret rfl rfl (by decide) rfl
      | false =>
        refine wp_i rfl rfl rfl rfl ?_
        show pm_WP PT fr lo 260 (45, [some (.int s), some (.int a), some (.int p), some (.int 0), some (.int (Int32.ofNat (10 - 0)))], [.int 0], h, sz, sl) _
        exact wp_zret rfl rfl (by decide) rfl
    · exact absurd q (by decide)
  | succ n ih =>
    intro hn b
    have hn' : n < 10 := by omega
    have e2 := rs_c2 n hn'
    have e1 := rs_c1 n hn'
    revert e1 e2
    unfold rs_it
    generalize Int32.ofNat (10 - (n + 1)) = x
    intro e2 e1
    have ih := ih (by omega)
    rw [← e2] at ih
    refine wp_i rfl rfl rfl rfl ?_
    refine wp_i rfl rfl rfl rfl ?_
    show pm_WP PT fr lo 260 (9, [some (.int s), some (.int a), some (.int p), some (.int (cond b 1 0)), some (.int x)], [.int 9, .int x], h, sz, sl) _
    refine wp_icmp (c := .gt) (off := 35) (t := 44) rfl rfl (fun q => by rw [e1] at q; cases q) (fun _ => ?_)
    cases b with
    | false =>
      rw [Bool.false_and]
      refine wp_i rfl rfl rfl rfl ?_
      refine wp_i rfl rfl rfl rfl ?_
      refine wp_i rfl rfl rfl rfl ?_
      refine wp_i rfl rfl rfl rfl ?_
      refine wp_i rfl rfl rfl rfl ?_
      refine wp_i rfl rfl rfl rfl ?_
      show pm_WP PT fr lo 260 (5, [some (.int s), some (.int a), some (.int p), some (.int 0), some (.int (x + 1))], [], h, sz, sl) _
      exact (ih false)
    | true =>
      refine wp_i rfl rfl rfl rfl ?_
      refine wp_i rfl rfl rfl rfl ?_
      refine wp_i rfl rfl rfl rfl ?_
      refine wp_i rfl rfl rfl rfl ?_
      refine wp_i rfl rfl rfl rfl ?_
      show pm_WP PT fr lo 260 (20, [some (.int s), some (.int a), some (.int p), some (.int 1), some (.int x)], [.int p, .int a, .int x], h, sz, sl) _
      refine wp_callS (t := 259) (As := [.int x, .int a, .int p]) (rest := []) (mx := 4) rfl rfl rfl rfl (Nat.le_of_ble_eq_true rfl) (Nat.le_of_ble_eq_true rfl) (by omega) (by omega) (wp_mono (rs_259 (by omega) (by omega) x a p) ?_)
      rintro _ rfl
      refine wp_i rfl rfl rfl rfl ?_
      refine wp_i rfl rfl rfl rfl ?_
      refine wp_i rfl rfl rfl rfl ?_
      show pm_WP PT fr lo 260 (26, [some (.int s), some (.int a), some (.int p), some (.int 1), some (.int x)], [.int p, .int a, .int s, .int (rs_g x a p)], h, sz, sl) _
      refine wp_callS (t := 259) (As := [.int s, .int a, .int p]) (rest := [.int (rs_g x a p)]) (mx := 4) rfl rfl rfl rfl (Nat.le_of_ble_eq_true rfl) (Nat.le_of_ble_eq_true rfl) (by omega) (by omega) (wp_mono (rs_259 (by omega) (by omega) s a p) ?_)
      rintro _ rfl
      refine wp_icmp (c := .gt) (off := 7) (t := 36) (x := rs_g x a p) (y := rs_g s a p) rfl rfl (fun q => ?_) (fun q => ?_)
      · have q1 : rs_g s a p < rs_g x a p := (rs_t (P := rs_g s a p < rs_g x a p) rfl).1 q
        rw [if_neg (by rw [Int32.le_iff_toInt_le]; rw [Int32.lt_iff_toInt_lt] at q1; omega)]
        refine wp_i rfl rfl rfl rfl ?_
        refine wp_i rfl rfl rfl rfl ?_
        refine wp_i rfl rfl rfl rfl ?_
        refine wp_i rfl rfl rfl rfl ?_
        show pm_WP PT fr lo 260 (5, [some (.int s), some (.int a), some (.int p), some (.int 0), some (.int (x + 1))], [], h, sz, sl) _
        exact (ih false)
      · have q1 : ¬ rs_g s a p < rs_g x a p := (rs_t (P := rs_g s a p < rs_g x a p) rfl).2 q
        rw [if_pos (by rw [Int32.le_iff_toInt_le]; rw [Int32.lt_iff_toInt_lt] at q1; omega)]
        refine wp_i rfl rfl rfl rfl ?_
        refine wp_i rfl rfl rfl rfl ?_
        refine wp_i rfl rfl rfl rfl ?_
        refine wp_i rfl rfl rfl rfl ?_
        refine wp_i rfl rfl rfl rfl ?_
        show pm_WP PT fr lo 260 (5, [some (.int s), some (.int a), some (.int p), some (.int 1), some (.int (x + 1))], [], h, sz, sl) _
        exact (ih true)
theorem rs_260 (hf : 2 ≤ fr) (hl : 43 ≤ lo) (s a p : Int32) : pm_WP PT fr lo 260 (0, pm_l0 [.int s, .int a, .int p] 5, [], h, sz, sl) (fun r => r = (some (.int (cond (rs_it s a p 10 0) 1 0)), h, sz, sl)) := by
  refine wp_i rfl rfl rfl rfl ?_
  refine wp_i rfl rfl rfl rfl ?_
  refine wp_i rfl rfl rfl rfl ?_
  refine wp_i rfl rfl rfl rfl ?_
  show pm_WP PT fr lo 260 (5, [some (.int s), some (.int a), some (.int p), some (.int 1), some (.int (Int32.ofNat (10 - 10)))], [], h, sz, sl) _
  exact rs_260l hf hl s a p 10 (Nat.le_refl _) true
/-! the same over Int -/
def rs_gI (s a p : Int) : Int := (if s ≤ a then (if s = a then p / 2 else 0) else p) - s - (if s ≤ 2 * a then 0 else 3)
def rs_itI (s a p : Int) : Nat → Int → Bool
  | 0, _ => true
  | n + 1, x => if rs_gI x a p ≤ rs_gI s a p then rs_itI s a p n (x + 1) else false
theorem rs_br : ∀ i : Nat, i < 11 → ∀ j : Nat, j < 10 → ∀ k : Nat, k < 21 → (rs_g (Int32.ofNat i) (Int32.ofNat j) (Int32.ofNat k)).toInt = rs_gI i j k := by decide +kernel
theorem rs_itI_ok {i j k : Nat} (hi : i < 10) (hj : j < 10) (hk : k < 21) : ∀ n : Nat, n ≤ 10 → rs_it (Int32.ofNat i) (Int32.ofNat j) (Int32.ofNat k) n (Int32.ofNat (10 - n)) = rs_itI i j k n ((10 - n : Nat) : Int)
  | 0, _ => rfl
  | n + 1, hn => by
    unfold rs_it rs_itI
    rw [rs_c2 n (by omega), rs_itI_ok hi hj hk n (by omega), show ((10 - (n + 1) : Nat) : Int) + 1 = ((10 - n : Nat) : Int) by omega]
    have e1 := rs_br (10 - (n + 1)) (by omega) j hj k hk
    have e2 := rs_br i (by omega) j hj k hk
    rw [← e1, ← e2]
    by_cases q : rs_g (Int32.ofNat (10 - (n + 1))) (Int32.ofNat j) (Int32.ofNat k) ≤ rs_g (Int32.ofNat i) (Int32.ofNat j) (Int32.ofNat k)
    · rw [if_pos q, if_pos (Int32.le_iff_toInt_le.1 q)]
    · rw [if_neg q, if_neg (fun q' => q (Int32.le_iff_toInt_le.2 q'))]
/-- what is known of the two -/
def rs_kn (t : Nat) (as : List av) : Option av := match as with
  | [a, b, c] => cond (Nat.beq t 153 || Nat.beq t 260) (if (a.1 = 0 ∧ a.2.2 ≤ a.2.1 ∧ 0 ≤ a.2.1 ∧ a.2.1 < 10) ∧ (b.1 = 0 ∧ b.2.2 ≤ b.2.1 ∧ 0 ≤ b.2.1 ∧ b.2.1 < 10) ∧ (c.1 = 0 ∧ c.2.2 ≤ c.2.1 ∧ 0 ≤ c.2.1 ∧ c.2.1 < 21) then some (cond (rs_itI a.2.1 b.2.1 c.2.1 10 0) (0, 1, 1) (0, 0, 0)) else none) none
  | _ => none
theorem rs_nat {x : Int32} {m : Int} (h1 : 0 ≤ x.toInt) : ∃ j : Nat, x = Int32.ofNat j ∧ x.toInt = j := by
  obtain ⟨j, hj, e1, e2⟩ := ab_nn h1 (Int.le_refl 0)
  exact ⟨j, e1, e2⟩
theorem rs_kn_ok (t : Nat) (as : List av) (a : av) (As : List Value) (fr lo : Nat) (h : pm_H) (sz sl : Nat) (e : rs_kn t as = some a) (q : as_ok As as) (hf : 2 ≤ fr) (hl : 100 ≤ lo) : pm_WP PT fr lo t (0, pm_l0 As (pm_max PT t), [], h, sz, sl) (fun r => ∃ v, r.1 = some v ∧ av_ok v a ∧ r.2 = (h, sz, sl)) := by
  unfold rs_kn at e
  split at e
  · rename_i a1 a2 a3
    cases et : (Nat.beq t 153 || Nat.beq t 260) with
    | false => rw [et] at e; cases e
    | true =>
      rw [et] at e
      dsimp only [cond] at e
      split at e
      · rename_i hc
        obtain ⟨⟨p1, p2, p3, p4⟩, ⟨p5, p6, p7, p8⟩, p9, p10, p11, p12⟩ := hc
        obtain ⟨v1, S1, rfl, hv1, hS1⟩ := as_cons q
        obtain ⟨v2, S2, rfl, hv2, hS2⟩ := as_cons hS1
        obtain ⟨v3, S3, rfl, hv3, hS3⟩ := as_cons hS2
        cases as_nil hS3
        obtain ⟨x1, rfl, l1, u1⟩ := av_int p1 hv1
        obtain ⟨x2, rfl, l2, u2⟩ := av_int p5 hv2
        obtain ⟨x3, rfl, l3, u3⟩ := av_int p9 hv3
        obtain ⟨i, e1, f1⟩ := rs_nat (x := x1) (m := 0) (by omega)
        obtain ⟨j, e2, f2⟩ := rs_nat (x := x2) (m := 0) (by omega)
        obtain ⟨k, e3, f3⟩ := rs_nat (x := x3) (m := 0) (by omega)
        have g1 : a1.2.1 = (i : Int) := by omega
        have g2 : a2.2.1 = (j : Int) := by omega
        have g3 : a3.2.1 = (k : Int) := by omega
        have key := rs_itI_ok (i := i) (j := j) (k := k) (by omega) (by omega) (by omega) 10 (Nat.le_refl _)
        rw [← e1, ← e2, ← e3] at key
        have key : rs_it x1 x2 x3 10 0 = rs_itI i j k 10 0 := key
        rw [g1, g2, g3, ← key] at e
        have fin : ∀ r : pm_Rs, r = (some (.int (cond (rs_it x1 x2 x3 10 0) 1 0)), h, sz, sl) → ∃ v, r.1 = some v ∧ av_ok v a ∧ r.2 = (h, sz, sl) := by
          rintro _ rfl
          refine ⟨_, rfl, ?_, rfl⟩
          cases hb : rs_it x1 x2 x3 10 0 with
          | true =>
            rw [hb] at e
            cases e
            exact ⟨rfl, by decide⟩
          | false =>
            rw [hb] at e
            cases e
            exact ⟨rfl, by decide⟩
        rw [Bool.or_eq_true] at et
        rcases et with et | et
        · cases Nat.eq_of_beq_eq_true et
          exact wp_mono (rs_153 (by omega) (by omega) x1 x2 x3) fin
        · cases Nat.eq_of_beq_eq_true et
          exact wp_mono (rs_260 (by omega) (by omega) x1 x2 x3) fin
      · cases e
  · cases e
end RSG
