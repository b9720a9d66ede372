/-! the class's keep and again: the bits of keptThere -/
section KPX
variable {n fr lo sl q : Nat} {h : pm_H} {R : pm_Rs} {v : Int32}
def kP (ci _ : Nat) : Bool := Nat.beq ci 10
def kK (k : Nat) : Bool := Nat.beq k 73 || Nat.beq k 20
theorem kK_in (k : Nat) (h : kK k = true) : k ∈ [73, 20] := by
  unfold kK at h
  rw [Bool.or_eq_true] at h
  rcases h with h | h
  · rw [Nat.eq_of_beq_eq_true h]; decide
  · rw [Nat.eq_of_beq_eq_true h]; decide
theorem k_ok : sf_ok kP kK := sf_of kK_in (by decide +kernel)
def kJ (j : Nat) : Bool := Nat.ble j 1
theorem k_blk1 : blk_ok kP kK kJ 125 11 24 := blk_of (by decide +kernel)
theorem k_blk2 : blk_ok kP kK kJ 126 22 42 := blk_of (by decide +kernel)
def k7 (h : pm_H) (w : Int32) : Prop := ∃ fs, h 0 = .inr (10, fs) ∧ fs[7]? = some (.int w)
theorem k7_fm {h' : pm_H} {w : Int32} (q : fm (sfF kP) h h') (x : k7 h w) : k7 h' w := by
  obtain ⟨fs, e1, e2⟩ := x
  obtain ⟨fs', a1, -, a2⟩ := q.2 0 10 fs e1
  exact ⟨fs', a1, (a2 7 rfl).trans e2⟩
theorem kx_run {w : Int32} (x : k7 h w) (hh : pm_run PT n fr lo 125 (0, pm_l0 [.ref 0, .int v] 2, [], h, 198, sl) = some R) : cond (decide (0 ≤ v.toInt ∧ v.toInt ≤ 2)) (k7 R.2.1 (w ||| (Int32.ofInt 1 <<< (v &&& 31)))) (R.2.1 = h) := by
  have no : ∀ n : Nat, ¬ (0 ≤ v.toInt ∧ v.toInt ≤ 2) → pm_run PT n fr lo 125 (9, [some (.ref 0), some (.int v)], [], h, 198, sl) = some R → cond (decide (0 ≤ v.toInt ∧ v.toInt ≤ 2)) (k7 R.2.1 (w ||| (Int32.ofInt 1 <<< (v &&& 31)))) (R.2.1 = h) := by
    intro n z hh
    obtain ⟨n, hh⟩ := rn_i rfl rfl rfl rfl hh
    have e := (rn_ret rfl (Or.inr rfl) hh).2
    rw [decide_eq_false z, e]
    rfl
  obtain ⟨n, hh⟩ := rn_i rfl rfl rfl rfl hh
  obtain ⟨n, hh⟩ := rn_if (cc := .lt) (off := 8) (t := 9) rfl rfl hh
  have el : pm_cmp .lt v 0 = decide (v.toInt < 0) := by
    simp only [pm_cmp]
    rw [Bool.eq_iff_iff, decide_eq_true_iff, decide_eq_true_iff, Int32.lt_iff_toInt_lt, show (0 : Int32).toInt = 0 by decide]
  rw [el] at hh
  by_cases z : v.toInt < 0
  · rw [decide_eq_true z] at hh
    exact no n (by omega) hh
  · rw [decide_eq_false z] at hh
    obtain ⟨n, hh⟩ := rn_i rfl rfl rfl rfl hh
    obtain ⟨n, hh⟩ := rn_i rfl rfl rfl rfl hh
    obtain ⟨n, hh⟩ := rn_icmp (cc := .lt) (off := 5) (t := 11) rfl rfl hh
    have eg : pm_cmp .lt v (Int32.ofInt 3) = decide (v.toInt < 3) := by
      simp only [pm_cmp]
      rw [Bool.eq_iff_iff, decide_eq_true_iff, decide_eq_true_iff, Int32.lt_iff_toInt_lt, show (Int32.ofInt 3).toInt = 3 by decide]
    rw [eg] at hh
    by_cases y : v.toInt < 3
    · rw [decide_eq_true y] at hh
      rw [decide_eq_true (by omega)]
      have hh : pm_run PT n fr lo 125 (11, [some (.ref 0), some (.int v)], [], h, 198, sl) = some R := hh
      obtain ⟨n, L', S', h', hh, hl, hf⟩ := blk_run k_ok k_blk1 n fr lo _ R (Nat.le_of_ble_eq_true rfl) (Nat.le_of_ble_eq_true rfl) hh
      dsimp only at hl hf hh
      have g0 := hl 0 (.ref 0) rfl rfl rfl
      have g1 := hl 1 (.int v) rfl rfl rfl
      obtain ⟨fs, e0, e7⟩ := k7_fm hf x
      have hh : pm_run PT n fr lo 125 (24, L', S', h', 198, sl) = some R := hh
      obtain ⟨n, hh⟩ := rn_aln rfl g0 rfl hh
      obtain ⟨n, hh⟩ := rn_i rfl rfl rfl rfl hh
      obtain ⟨n, hh⟩ := rn_gfo (g := 7) rfl rfl (by decide) e0 e7 hh
      obtain ⟨n, hh⟩ := rn_i rfl rfl rfl rfl hh
      obtain ⟨n, hh⟩ := rn_iln rfl g1 rfl hh
      obtain ⟨n, hh⟩ := rn_i rfl rfl rfl rfl hh
      obtain ⟨n, hh⟩ := rn_i rfl rfl rfl rfl hh
      obtain ⟨n, hh⟩ := rn_i rfl rfl rfl (pf_eq (f := 7) rfl rfl (by decide) (by decide) e0 e7) hh
      obtain ⟨n, hh⟩ := rn_i rfl rfl rfl rfl hh
      have e := (rn_ret rfl (Or.inr rfl) hh).2
      rw [e]
      refine ⟨fs.set 7 (.int (w ||| (Int32.ofInt 1 <<< (v &&& 31)))), by simp [va_up], ?_⟩
      rw [List.getElem?_set_self (List.getElem?_eq_some_iff.mp e7).1]
    · rw [decide_eq_false y] at hh
      exact no n (by omega) hh
/-- is it kept under v, by the bits -/
def kbit (w v : Int32) : Bool := decide (0 ≤ v.toInt ∧ v.toInt ≤ 2) && decide (¬ ((w >>> (v &&& 31)) &&& Int32.ofInt 1) = 0)
theorem ka_run {w : Int32} (x : k7 h w) (hh : pm_run PT n fr lo 126 (0, pm_l0 [.ref 0, .int v] 2, [], h, 198, sl) = some R) : R.1 = some (.int (cond (kbit w v) 1 0)) ∧ k7 R.2.1 w := by
  have no : ∀ n : Nat, kbit w v = false → pm_run PT n fr lo 126 (20, [some (.ref 0), some (.int v)], [], h, 198, sl) = some R → R.1 = some (.int (cond (kbit w v) 1 0)) ∧ k7 R.2.1 w := by
    intro n z hh
    obtain ⟨n, hh⟩ := rn_i rfl rfl rfl rfl hh
    have e := (rn_ret rfl (Or.inr rfl) hh).2
    rw [z, e]
    exact ⟨rfl, x⟩
  obtain ⟨n, hh⟩ := rn_i rfl rfl rfl rfl hh
  obtain ⟨n, hh⟩ := rn_if (cc := .lt) (off := 19) (t := 20) rfl rfl hh
  have el : pm_cmp .lt v 0 = decide (v.toInt < 0) := by
    simp only [pm_cmp]
    rw [Bool.eq_iff_iff, decide_eq_true_iff, decide_eq_true_iff, Int32.lt_iff_toInt_lt, show (0 : Int32).toInt = 0 by decide]
  rw [el] at hh
  by_cases z : v.toInt < 0
  · rw [decide_eq_true z] at hh
    exact no n (by unfold kbit; rw [decide_eq_false (show ¬ (0 ≤ v.toInt ∧ v.toInt ≤ 2) by omega)]; rfl) hh
  · rw [decide_eq_false z] at hh
    obtain ⟨n, hh⟩ := rn_i rfl rfl rfl rfl hh
    obtain ⟨n, hh⟩ := rn_i rfl rfl rfl rfl hh
    obtain ⟨n, hh⟩ := rn_icmp (cc := .ge) (off := 14) (t := 20) rfl rfl hh
    have eg : pm_cmp .ge v (Int32.ofInt 3) = decide (3 ≤ v.toInt) := by
      simp only [pm_cmp]
      rw [Bool.eq_iff_iff, decide_eq_true_iff, decide_eq_true_iff, Int32.le_iff_toInt_le, show (Int32.ofInt 3).toInt = 3 by decide]
    rw [eg] at hh
    by_cases y : 3 ≤ v.toInt
    · rw [decide_eq_true y] at hh
      exact no n (by unfold kbit; rw [decide_eq_false (show ¬ (0 ≤ v.toInt ∧ v.toInt ≤ 2) by omega)]; rfl) hh
    · rw [decide_eq_false y] at hh
      obtain ⟨fs, e0, e7⟩ := id x
      obtain ⟨n, hh⟩ := rn_i rfl rfl rfl rfl hh
      obtain ⟨n, hh⟩ := rn_gfo (g := 7) rfl rfl (by decide) e0 e7 hh
      obtain ⟨n, hh⟩ := rn_i rfl rfl rfl rfl hh
      obtain ⟨n, hh⟩ := rn_i rfl rfl rfl rfl hh
      obtain ⟨n, hh⟩ := rn_i rfl rfl rfl rfl hh
      obtain ⟨n, hh⟩ := rn_i rfl rfl rfl rfl hh
      obtain ⟨n, hh⟩ := rn_if (cc := .ne) (off := 5) (t := 22) rfl rfl hh
      have hh : pm_run PT n fr lo 126 (cond (decide (¬ ((w >>> (v &&& 31)) &&& Int32.ofInt 1) = 0)) 22 20, [some (.ref 0), some (.int v)], [], h, 198, sl) = some R := hh
      have kb : kbit w v = decide (¬ ((w >>> (v &&& 31)) &&& Int32.ofInt 1) = 0) := by
        unfold kbit
        rw [decide_eq_true (show 0 ≤ v.toInt ∧ v.toInt ≤ 2 by omega), Bool.true_and]
      rw [← kb] at hh
      cases u : kbit w v with
      | false =>
        rw [u] at hh
        have q := no n u hh
        rw [u] at q
        exact q
      | true =>
        rw [u] at hh
        have hh : pm_run PT n fr lo 126 (22, [some (.ref 0), some (.int v)], [], h, 198, sl) = some R := hh
        obtain ⟨n, L', S', h', hh, hl, hf⟩ := blk_run k_ok k_blk2 n fr lo _ R (Nat.le_of_ble_eq_true rfl) (Nat.le_of_ble_eq_true rfl) hh
        dsimp only at hl hf hh
        have hh : pm_run PT n fr lo 126 (42, L', S', h', 198, sl) = some R := hh
        obtain ⟨n, hh⟩ := rn_i rfl rfl rfl rfl hh
        have e := (rn_ret rfl (Or.inr rfl) hh).2
        rw [e]
        exact ⟨rfl, k7_fm hf x⟩
end KPX
