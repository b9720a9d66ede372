/-! the reference's faultOf -/
section FOO
variable {n fr lo sl t a : Nat} {h : pm_H} {R : pm_Rs} {N M B : Int32}
theorem fo_end (q1 : mF h 16 (.int (nI a))) (c : Bool) (hh : pm_run PT n fr lo 186 (44, [some (.ref 162), some (.int N), some (.int M), some (.int B), some (.int (cond c 1 0))], [], h, 198, sl) = some R) : R = (some (.int (cond c (Int32.ofInt 0) (Int32.ofInt (-1) - nI a))), h, 198, sl) := by
  obtain ⟨n, hh⟩ := rn_i rfl rfl rfl rfl hh
  obtain ⟨n, hh⟩ := rn_if (cc := .eq) (off := 7) (t := 53) rfl rfl hh
  cases c with
  | true =>
    have hh : pm_run PT n fr lo 186 (49, [some (.ref 162), some (.int N), some (.int M), some (.int B), some (.int 1)], [], h, 198, sl) = some R := hh
    obtain ⟨n, hh⟩ := rn_i rfl rfl rfl rfl hh
    obtain ⟨n, hh⟩ := rn_i rfl rfl rfl rfl hh
    exact (rn_ret rfl (Or.inl rfl) hh).2
  | false =>
    have hh : pm_run PT n fr lo 186 (53, [some (.ref 162), some (.int N), some (.int M), some (.int B), some (.int 0)], [], h, 198, sl) = some R := hh
    obtain ⟨n, hh⟩ := rn_i rfl rfl rfl rfl hh
    obtain ⟨n, hh⟩ := rn_i rfl rfl rfl rfl hh
    obtain ⟨n, hh⟩ := rn_gfm rfl rfl q1 hh
    obtain ⟨n, hh⟩ := rn_i rfl rfl rfl rfl hh
    exact (rn_ret rfl (Or.inl rfl) hh).2
theorem fo_m (c : Int32) (hh : pm_run PT n fr lo 186 (40, [some (.ref 162), some (.int N), some (.int M), some (.int B), some (.int c)], [], h, 198, sl) = some R) : R = (some (.int (Int32.ofInt (-1) - M)), h, 198, sl) := by
  obtain ⟨n, hh⟩ := rn_i rfl rfl rfl rfl hh
  obtain ⟨n, hh⟩ := rn_i rfl rfl rfl rfl hh
  obtain ⟨n, hh⟩ := rn_i rfl rfl rfl rfl hh
  exact (rn_ret rfl (Or.inl rfl) hh).2
def fO2 (n m a : Nat) (c : Bool) : Int32 := if m < n ∧ (c = true ∨ m ≤ a) then Int32.ofInt (-1) - nI m else cond c (Int32.ofInt 0) (Int32.ofInt (-1) - nI a)
def fO (n m t a : Nat) (b : Bool) : Int32 := fO2 n m a (b && decide (a = t))
theorem fo_two {n0 m : Nat} (hn : n0 ≤ 80) (hm : m ≤ 80) (ha : a < 100) (q1 : mF h 16 (.int (nI a))) (c : Bool) (hh : pm_run PT n fr lo 186 (22, [some (.ref 162), some (.int (nI n0)), some (.int (nI m)), some (.int B), some (.int (cond c 1 0))], [], h, 198, sl) = some R) : R = (some (.int (fO2 n0 m a c)), h, 198, sl) := by
  unfold fO2
  obtain ⟨n, hh⟩ := rn_i rfl rfl rfl rfl hh
  obtain ⟨n, hh⟩ := rn_i rfl rfl rfl rfl hh
  obtain ⟨n, hh⟩ := rn_icmp (cc := .le) (off := 20) (t := 44) rfl rfl hh
  rw [hI_le (by omega) (by omega)] at hh
  by_cases z : n0 ≤ m
  · rw [decide_eq_true z] at hh
    rw [if_neg (by omega)]
    exact fo_end q1 c hh
  · rw [decide_eq_false z] at hh
    obtain ⟨n, hh⟩ := rn_i rfl rfl rfl rfl hh
    obtain ⟨n, hh⟩ := rn_if (cc := .ne) (off := 11) (t := 40) rfl rfl hh
    cases c with
    | true =>
      rw [if_pos ⟨by omega, Or.inl rfl⟩]
      exact fo_m _ hh
    | false =>
      have hh : pm_run PT n fr lo 186 (32, [some (.ref 162), some (.int (nI n0)), some (.int (nI m)), some (.int B), some (.int (cond false 1 0))], [], h, 198, sl) = some R := hh
      obtain ⟨n, hh⟩ := rn_i rfl rfl rfl rfl hh
      obtain ⟨n, hh⟩ := rn_gfm rfl rfl q1 hh
      obtain ⟨n, hh⟩ := rn_i rfl rfl rfl rfl hh
      obtain ⟨n, hh⟩ := rn_icmp (cc := .lt) (off := 7) (t := 44) rfl rfl hh
      rw [hI_lt (by omega) (by omega)] at hh
      by_cases y : a < m
      · rw [decide_eq_true y] at hh
        rw [if_neg (fun q => by rcases q.2 with q | q; cases q; omega)]
        exact fo_end q1 false hh
      · rw [decide_eq_false y] at hh
        rw [if_pos ⟨by omega, Or.inr (by omega)⟩]
        exact fo_m _ hh
theorem fo_run {n0 m : Nat} {b : Bool} (hn : n0 ≤ 80) (hm : m ≤ 80) (ht : t ≤ 80) (ha : a < 100) (q1 : mF h 16 (.int (nI a))) (q2 : mF h 17 (.int (nI t))) (hh : pm_run PT n fr lo 186 (0, pm_l0 [.ref 162, .int (nI n0), .int (nI m), .int (cond b 1 0)] 5, [], h, 198, sl) = some R) : R = (some (.int (fO n0 m t a b)), h, 198, sl) := by
  unfold fO
  obtain ⟨n, hh⟩ := rn_i rfl rfl rfl rfl hh
  obtain ⟨n, hh⟩ := rn_if (cc := .eq) (off := 18) (t := 19) rfl rfl hh
  cases b with
  | false =>
    have hh : pm_run PT n fr lo 186 (19, [some (.ref 162), some (.int (nI n0)), some (.int (nI m)), some (.int 0), none], [], h, 198, sl) = some R := hh
    obtain ⟨n, hh⟩ := rn_i rfl rfl rfl rfl hh
    obtain ⟨n, hh⟩ := rn_i rfl rfl rfl rfl hh
    exact fo_two hn hm ha q1 false hh
  | true =>
    have hh : pm_run PT n fr lo 186 (4, [some (.ref 162), some (.int (nI n0)), some (.int (nI m)), some (.int 1), none], [], h, 198, sl) = some R := hh
    obtain ⟨n, hh⟩ := rn_i rfl rfl rfl rfl hh
    obtain ⟨n, hh⟩ := rn_gfm rfl rfl q1 hh
    obtain ⟨n, hh⟩ := rn_i rfl rfl rfl rfl hh
    obtain ⟨n, hh⟩ := rn_gfm rfl rfl q2 hh
    obtain ⟨n, hh⟩ := rn_icmp (cc := .ne) (off := 7) (t := 19) rfl rfl hh
    rw [hI_ne (by omega) (by omega)] at hh
    by_cases z : a = t
    · rw [decide_eq_false (fun q => q z)] at hh
      rw [decide_eq_true z]
      obtain ⟨n, hh⟩ := rn_i rfl rfl rfl rfl hh
      obtain ⟨n, hh⟩ := rn_i rfl rfl rfl rfl hh
      obtain ⟨n, hh⟩ := rn_i rfl rfl rfl rfl hh
      exact fo_two hn hm ha q1 true hh
    · rw [decide_eq_true z] at hh
      rw [decide_eq_false z]
      obtain ⟨n, hh⟩ := rn_i rfl rfl rfl rfl hh
      obtain ⟨n, hh⟩ := rn_i rfl rfl rfl rfl hh
      exact fo_two hn hm ha q1 false hh
end FOO
