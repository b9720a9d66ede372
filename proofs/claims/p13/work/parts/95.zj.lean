/-! the class's readGift -/
section GXR
variable {n fr lo sl n0 cc p t : Nat} {h : pm_H} {R : pm_Rs} {f : Nat → Int32}
theorem dgi_rng {u : Int32} {c : Nat} (hc : c ≤ 10) (hu : u.toInt = (c : Int) - 1) : dgi f p t (Int32.ofInt 0) u = (dg f p t && decide ((f p - 48).toInt < (c : Int))) := by
  have n0' : ((Int32.ofInt 0).toInt64).toInt = 0 := by decide
  have nu : (u.toInt64).toInt = (c : Int) - 1 := by rw [Int32.toInt_toInt64]; exact hu
  cases hd : dg f p t with
  | true =>
    obtain ⟨v1, v2⟩ := dg_val hd
    unfold dgi in_b
    rw [decide_eq_true (dg_lt hd)]
    have a1 : ¬ (f p - 48).toInt64 < (Int32.ofInt 0).toInt64 := by
      rw [Int64.lt_iff_toInt_lt, n0', Int32.toInt_toInt64]
      omega
    rw [decide_eq_false a1]
    by_cases z : (f p - 48).toInt < (c : Int)
    · have a2 : ¬ u.toInt64 < (f p - 48).toInt64 := by
        rw [Int64.lt_iff_toInt_lt, nu, Int32.toInt_toInt64]
        omega
      rw [decide_eq_false a2, decide_eq_true z]
      rfl
    · have a2 : u.toInt64 < (f p - 48).toInt64 := by
        rw [Int64.lt_iff_toInt_lt, nu, Int32.toInt_toInt64]
        omega
      rw [decide_eq_true a2, decide_eq_false z]
      rfl
  | false =>
    rw [Bool.false_and]
    cases hi : dgi f p t (Int32.ofInt 0) u with
    | false => rfl
    | true =>
      exfalso
      unfold dgi in_b at hi
      rw [Bool.and_eq_true, Bool.and_eq_true] at hi
      have hlt := of_decide_eq_true hi.1
      have e1 : ¬ (f p - 48).toInt64 < (Int32.ofInt 0).toInt64 := by simpa using hi.2.1
      have e2 : ¬ u.toInt64 < (f p - 48).toInt64 := by simpa using hi.2.2
      rw [Int64.lt_iff_toInt_lt, n0', Int32.toInt_toInt64] at e1
      rw [Int64.lt_iff_toInt_lt, nu, Int32.toInt_toInt64] at e2
      have ef : f p = (f p - 48) + 48 := by simp
      have ei : (f p).toInt = (f p - 48).toInt + 48 := by
        have q := congrArg Int32.toInt ef
        rw [Int32.toInt_add, show (48 : Int32).toInt = 48 by decide, Int.bmod_eq_of_le (by omega) (by omega)] at q
        exact q
      have : dg f p t = true := by
        unfold dg
        rw [decide_eq_true hlt]
        refine (Bool.true_and _).trans (dg_in ?_ ?_)
        · refine decide_eq_false (fun q => ?_)
          rw [Int32.lt_iff_toInt_lt, nI_toInt (by decide)] at q
          omega
        · refine decide_eq_false (fun q => ?_)
          rw [Int32.lt_iff_toInt_lt, nI_toInt (by decide)] at q
          omega
      rw [this] at hd
      cases hd
theorem cc_m1 (hc : cc ≤ 6) : (nI cc - Int32.ofInt 1).toInt = (cc : Int) - 1 := by
  have : ∀ c : Nat, c ≤ 6 → (nI c - Int32.ofInt 1).toInt = (c : Int) - 1 := by decide
  exact this cc hc
/-- the class's isCourt -/
theorem ic_run {v : Int32} {rs : List Value} (hc : cc ≤ 6) (d1 : h 5 = .inr (3, rs)) (d2 : rs[0]? = some (.int (nI cc))) (hh : pm_run PT n fr lo 23 (0, pm_l0 [.ref 5, .int v] 2, [], h, 198, sl) = some R) : R = (some (.int (cond (decide (0 ≤ v.toInt ∧ v.toInt < (cc : Int))) 1 0)), h, 198, sl) := by
  have no : ∀ n : Nat, ¬ (0 ≤ v.toInt ∧ v.toInt < (cc : Int)) → pm_run PT n fr lo 23 (16, [some (.ref 5), some (.int v)], [], h, 198, sl) = some R → R = (some (.int (cond (decide (0 ≤ v.toInt ∧ v.toInt < (cc : Int))) 1 0)), h, 198, sl) := by
    intro n z hh
    obtain ⟨n, hh⟩ := rn_i rfl rfl rfl rfl hh
    rw [decide_eq_false z]
    exact (rn_ret rfl (Or.inr rfl) hh).2
  obtain ⟨n, hh⟩ := rn_i rfl rfl rfl rfl hh
  obtain ⟨n, hh⟩ := rn_if (cc := .lt) (off := 15) (t := 16) rfl rfl hh
  have el : pm_cmp .lt v 0 = decide (v.toInt < 0) := by
    simp only [pm_cmp]
    rw [Bool.eq_iff_iff, decide_eq_true_iff, decide_eq_true_iff, Int32.lt_iff_toInt_lt, show (0 : Int32).toInt = 0 by decide]
  rw [el] at hh
  by_cases z : v.toInt < 0
  · rw [decide_eq_true z] at hh
    exact no n (by omega) hh
  · rw [decide_eq_false z] at hh
    obtain ⟨n, hh⟩ := rn_i rfl rfl rfl rfl hh
    obtain ⟨n, hh⟩ := rn_i rfl rfl rfl rfl hh
    obtain ⟨n, hh⟩ := rn_gfo (g := 0) rfl rfl (by decide) d1 d2 hh
    obtain ⟨n, hh⟩ := rn_icmp (cc := .ge) (off := 7) (t := 16) rfl rfl hh
    have eg : pm_cmp .ge v (nI cc) = decide ((cc : Int) ≤ v.toInt) := by
      simp only [pm_cmp]
      rw [Bool.eq_iff_iff, decide_eq_true_iff, decide_eq_true_iff, Int32.le_iff_toInt_le, nI_toInt (by omega)]
    rw [eg] at hh
    by_cases y : (cc : Int) ≤ v.toInt
    · rw [decide_eq_true y] at hh
      exact no n (by omega) hh
    · rw [decide_eq_false y] at hh
      obtain ⟨n, hh⟩ := rn_i rfl rfl rfl rfl hh
      obtain ⟨n, hh⟩ := rn_i rfl rfl rfl rfl hh
      rw [decide_eq_true (by omega)]
      exact (rn_ret rfl (Or.inr rfl) hh).2
def xgJ (j : Nat) : Bool := Nat.beq j 0 || Nat.beq j 4
theorem xg_blk : blk_ok sQ sQK xgJ 131 178 215 := blk_of (by decide +kernel)
/-- what readGift answers -/
def xgA (s : Bool × Nat) : Int32 := cond s.1 (nI s.2) (Int32.ofInt (-1) - nI s.2)
theorem xg_no {a : Nat} {pc : Nat} {L1 L2 L3 : Int32} {x5 x6 x7 x8 : Option Value} (hi : pm_ins PT 131 pc = some (.iconst (-1), 1)) (hi2 : pm_ins PT 131 (pc + 1) = some (.iload 4, 2)) (hi3 : pm_ins PT 131 (pc + 1 + 2) = some (.isub, 1)) (hi4 : pm_ins PT 131 (pc + 1 + 2 + 1) = some (.ireturn, 1)) (hh : pm_run PT n fr lo 131 (pc, [some (.ref 0), some (.int L1), some (.int L2), some (.int L3), some (.int (nI a)), x5, x6, x7, x8], [], h, 198, sl) = some R) : R.1 = some (.int (Int32.ofInt (-1) - nI a)) := by
  obtain ⟨n, hh⟩ := rn_i hi rfl rfl rfl hh
  obtain ⟨n, hh⟩ := rn_i hi2 rfl rfl rfl hh
  obtain ⟨n, hh⟩ := rn_i hi3 rfl rfl rfl hh
  have e := (rn_ret hi4 (Or.inl rfl) hh).2
  rw [e]
theorem xg_145 {a : Nat} (hn : n0 ≤ 80) (hc : cc ≤ 6) (ha : a < 900) (x : pX h n0 cc f) {L1 L2 L3 L5 L6 L7 : Int32} (hh : pm_run PT n fr lo 131 (145, [some (.ref 0), some (.int L1), some (.int L2), some (.int L3), some (.int (nI a)), some (.int L5), some (.int L6), some (.int L7), none], [], h, 198, sl) = some R) : R.1 = some (.int (xgA (cond (dgi f (a + 1) (min n0 55) (Int32.ofInt 0) (nI cc - Int32.ofInt 1)) (true, a + 2) (false, a + 1)))) := by
  obtain ⟨⟨fs, a1, a2, a3⟩, ⟨gs, g1, g2, g3⟩, c1, rs, d1, d2⟩ := id x
  obtain ⟨n, hh⟩ := rn_i rfl rfl rfl rfl hh
  obtain ⟨n, hh⟩ := rn_i rfl rfl rfl rfl hh
  obtain ⟨n, hh⟩ := rn_gfo (g := 0) rfl rfl (by decide) a1 a2 hh
  obtain ⟨n, hh⟩ := rn_i rfl rfl rfl rfl hh
  obtain ⟨n, hh⟩ := rn_i rfl rfl rfl rfl hh
  have e1 : nI a + Int32.ofInt 1 = nI (a + 1) := (Int32.ofNat_add a 1).symm
  have hh : pm_run PT n fr lo 131 (156, [some (.ref 0), some (.int L1), some (.int L2), some (.int L3), some (.int (nI a + Int32.ofInt 1)), some (.int L5), some (.int L6), some (.int L7), none], [.int (nI 55), .int (nI a + Int32.ofInt 1), .ref 1], h, 198, sl) = some R := hh
  rw [e1] at hh
  obtain ⟨n, fr', lo', r1, hr1, hh⟩ := rn_call (w := 0) (t := 81) rfl rfl hh
  have er := dgA_run (l := 55) hn (by decide) (by omega) x hr1
  subst er
  have hh : pm_run PT n fr lo 131 (159, [some (.ref 0), some (.int L1), some (.int L2), some (.int L3), some (.int (nI (a + 1))), some (.int L5), some (.int L6), some (.int L7), none], [.int (dgA f n0 (a + 1) 55)], h, 198, sl) = some R := hh
  obtain ⟨n, hh⟩ := rn_i rfl rfl rfl rfl hh
  obtain ⟨n, hh⟩ := rn_i rfl rfl rfl rfl hh
  obtain ⟨n, hh⟩ := rn_gfo (g := 2) rfl rfl (by decide) a1 a3 hh
  obtain ⟨n, hh⟩ := rn_i rfl rfl rfl rfl hh
  obtain ⟨n, fr', lo', r1, hr1, hh⟩ := rn_call (w := 0) (t := 23) rfl rfl hh
  have er := ic_run hc d1 d2 hr1
  subst er
  have hh : pm_run PT n fr lo 131 (170, [some (.ref 0), some (.int L1), some (.int L2), some (.int L3), some (.int (nI (a + 1))), some (.int L5), some (.int L6), some (.int L7), some (.int (dgA f n0 (a + 1) 55))], [.int (cond (decide (0 ≤ (dgA f n0 (a + 1) 55).toInt ∧ (dgA f n0 (a + 1) 55).toInt < (cc : Int))) 1 0)], h, 198, sl) = some R := hh
  have ed : decide (0 ≤ (dgA f n0 (a + 1) 55).toInt ∧ (dgA f n0 (a + 1) 55).toInt < (cc : Int)) = dgi f (a + 1) (min n0 55) (Int32.ofInt 0) (nI cc - Int32.ofInt 1) := by
    rw [dgi_rng (by omega) (cc_m1 hc)]
    cases hd : dg f (a + 1) (min n0 55) with
    | false =>
      rw [dgA_no hd, show (Int32.ofInt (-1)).toInt = -1 by decide, decide_eq_false (by omega)]
      rfl
    | true =>
      obtain ⟨v1, v2⟩ := dg_val hd
      rw [dgA_yes hd, Bool.true_and, Bool.eq_iff_iff, decide_eq_true_iff, decide_eq_true_iff]
      omega
  rw [ed] at hh
  obtain ⟨n, hh⟩ := rn_if (cc := .ne) (off := 8) (t := 178) rfl rfl hh
  cases hi : dgi f (a + 1) (min n0 55) (Int32.ofInt 0) (nI cc - Int32.ofInt 1) with
  | false =>
    rw [hi] at hh
    have hh : pm_run PT n fr lo 131 (173, [some (.ref 0), some (.int L1), some (.int L2), some (.int L3), some (.int (nI (a + 1))), some (.int L5), some (.int L6), some (.int L7), some (.int (dgA f n0 (a + 1) 55))], [], h, 198, sl) = some R := hh
    rw [xg_no rfl rfl rfl rfl hh]
    unfold xgA
    simp only [cond_false]
  | true =>
    rw [hi] at hh
    have hh : pm_run PT n fr lo 131 (178, [some (.ref 0), some (.int L1), some (.int L2), some (.int L3), some (.int (nI (a + 1))), some (.int L5), some (.int L6), some (.int L7), some (.int (dgA f n0 (a + 1) 55))], [], h, 198, sl) = some R := hh
    obtain ⟨n, L', S', h', hh, hl, hf⟩ := blk_run sQ_ok xg_blk n fr lo _ R (Nat.le_of_ble_eq_true rfl) (Nat.le_of_ble_eq_true rfl) hh
    dsimp only at hl hf hh
    have g4 := hl 4 (.int (nI (a + 1))) rfl rfl rfl
    have hh : pm_run PT n fr lo 131 (215, L', S', h', 198, sl) = some R := hh
    obtain ⟨n, hh⟩ := rn_il rfl g4 rfl hh
    obtain ⟨n, hh⟩ := rn_i rfl rfl rfl rfl hh
    obtain ⟨n, hh⟩ := rn_i rfl rfl rfl rfl hh
    have e := (rn_ret rfl (Or.inl rfl) hh).2
    rw [e]
    have e2 : nI (a + 1) + Int32.ofInt 1 = nI (a + 2) := (Int32.ofNat_add (a + 1) 1).symm
    exact congrArg (fun q => some (Value.int q)) e2
end GXR
