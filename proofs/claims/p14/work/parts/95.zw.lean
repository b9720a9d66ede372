/-! who is a court, who are two courts: both sides -/
section RDA
variable {n fr lo sl cc k pc : Nat} {h : pm_H} {R : pm_Rs} {x y z : Int32} {L : pm_L} {S : List Value}
def cB (cc : Nat) (x : Int32) : Bool := decide (0 ≤ x.toInt ∧ x.toInt < (cc : Int))
def pP (cc : Nat) (x y : Int32) : Bool := cB cc x && (cB cc y && !decide (x = y))
theorem cB_f (q : ¬ (0 ≤ x.toInt ∧ x.toInt < (cc : Int))) : cB cc x = false := decide_eq_false q
theorem cB_t (q : 0 ≤ x.toInt ∧ x.toInt < (cc : Int)) : cB cc x = true := decide_eq_true q
theorem cB_iv (q : cB cc x = true) : ∃ a, a < cc ∧ x = nI a := by
  have q := of_decide_eq_true q
  obtain ⟨j, rfl, hj, ej⟩ := hI_of q.1
  exact ⟨j, by omega, rfl⟩
theorem lt0_e : pm_cmp .lt x 0 = decide (x.toInt < 0) := by
  simp only [pm_cmp]
  rw [Bool.eq_iff_iff, decide_eq_true_iff, decide_eq_true_iff, Int32.lt_iff_toInt_lt, show (0 : Int32).toInt = 0 by decide]
theorem ge_e {c : Nat} (hc : c < 1000) : pm_cmp .ge x (nI c) = decide ((c : Int) ≤ x.toInt) := by
  simp only [pm_cmp]
  rw [Bool.eq_iff_iff, decide_eq_true_iff, decide_eq_true_iff, Int32.le_iff_toInt_le, nI_toInt (by omega)]
theorem le_e {c : Nat} (hc : c < 1000) : pm_cmp .le x (nI c) = decide (x.toInt ≤ (c : Int)) := by
  simp only [pm_cmp]
  rw [Bool.eq_iff_iff, decide_eq_true_iff, decide_eq_true_iff, Int32.le_iff_toInt_le, nI_toInt (by omega)]
/-- the class's isCourt -/
theorem xi_run (hc : cc ≤ 6) (r : rC h (.int (nI cc))) (hh : pm_run PT n fr lo 23 (0, pm_l0 [.ref 5, .int x] 2, [], h, 198, sl) = some R) : R = (some (.int (cond (cB cc x) 1 0)), h, 198, sl) := by
  obtain ⟨rs, e5, e50⟩ := r
  have no : ∀ n : Nat, cB cc x = false → pm_run PT n fr lo 23 (16, [some (.ref 5), some (.int x)], [], h, 198, sl) = some R → R = (some (.int (cond (cB cc x) 1 0)), h, 198, sl) := by
    intro n e hh
    obtain ⟨n, hh⟩ := rn_i rfl rfl rfl rfl hh
    have q := (rn_ret rfl (Or.inr rfl) hh).2
    rw [q, e]
    rfl
  obtain ⟨n, hh⟩ := rn_i rfl rfl rfl rfl hh
  obtain ⟨n, hh⟩ := rn_if (cc := .lt) (off := 15) (t := 16) rfl rfl hh
  rw [lt0_e] at hh
  by_cases a : x.toInt < 0
  · rw [decide_eq_true a] at hh
    exact no n (cB_f (by omega)) hh
  · rw [decide_eq_false a] at hh
    have hh : pm_run PT n fr lo 23 (4, [some (.ref 5), some (.int x)], [], h, 198, sl) = some R := hh
    obtain ⟨n, hh⟩ := rn_i rfl rfl rfl rfl hh
    obtain ⟨n, hh⟩ := rn_i rfl rfl rfl rfl hh
    obtain ⟨n, hh⟩ := rn_gfo (g := 0) rfl rfl (by decide) e5 e50 hh
    obtain ⟨n, hh⟩ := rn_icmp (cc := .ge) (off := 7) (t := 16) rfl rfl hh
    rw [ge_e (by omega)] at hh
    by_cases b : (cc : Int) ≤ x.toInt
    · rw [decide_eq_true b] at hh
      exact no n (cB_f (by omega)) hh
    · rw [decide_eq_false b] at hh
      have hh : pm_run PT n fr lo 23 (12, [some (.ref 5), some (.int x)], [], h, 198, sl) = some R := hh
      obtain ⟨n, hh⟩ := rn_i rfl rfl rfl rfl hh
      obtain ⟨n, hh⟩ := rn_i rfl rfl rfl rfl hh
      have q := (rn_ret rfl (Or.inr rfl) hh).2
      rw [q, cB_t (by omega)]
      rfl
/-- the class's areTwoCourts -/
theorem xa_run (hc : cc ≤ 6) (r : rC h (.int (nI cc))) (hh : pm_run PT n fr lo 24 (0, pm_l0 [.ref 5, .int x, .int y] 3, [], h, 198, sl) = some R) : R = (some (.int (cond (pP cc x y) 1 0)), h, 198, sl) := by
  have no : ∀ n : Nat, pP cc x y = false → pm_run PT n fr lo 24 (25, [some (.ref 5), some (.int x), some (.int y)], [], h, 198, sl) = some R → R = (some (.int (cond (pP cc x y) 1 0)), h, 198, sl) := by
    intro n e hh
    obtain ⟨n, hh⟩ := rn_i rfl rfl rfl rfl hh
    have q := (rn_ret rfl (Or.inr rfl) hh).2
    rw [q, e]
    rfl
  obtain ⟨n, hh⟩ := rn_i rfl rfl rfl rfl hh
  obtain ⟨n, hh⟩ := rn_i rfl rfl rfl rfl hh
  obtain ⟨n, fr', lo', r1, hr1, hh⟩ := rn_call (w := 0) (t := 23) rfl rfl hh
  have er := xi_run hc r hr1
  subst er
  have hh : pm_run PT n fr lo 24 (5, [some (.ref 5), some (.int x), some (.int y)], [.int (cond (cB cc x) 1 0)], h, 198, sl) = some R := hh
  obtain ⟨n, hh⟩ := rn_if (cc := .eq) (off := 20) (t := 25) rfl rfl hh
  cases zx : cB cc x with
  | false =>
    rw [zx] at hh
    exact no n (by unfold pP; rw [zx]; rfl) hh
  | true =>
    rw [zx] at hh
    have hh : pm_run PT n fr lo 24 (8, [some (.ref 5), some (.int x), some (.int y)], [], h, 198, sl) = some R := hh
    obtain ⟨n, hh⟩ := rn_i rfl rfl rfl rfl hh
    obtain ⟨n, hh⟩ := rn_i rfl rfl rfl rfl hh
    obtain ⟨n, fr', lo', r1, hr1, hh⟩ := rn_call (w := 0) (t := 23) rfl rfl hh
    have er := xi_run hc r hr1
    subst er
    have hh : pm_run PT n fr lo 24 (13, [some (.ref 5), some (.int x), some (.int y)], [.int (cond (cB cc y) 1 0)], h, 198, sl) = some R := hh
    obtain ⟨n, hh⟩ := rn_if (cc := .eq) (off := 12) (t := 25) rfl rfl hh
    cases zy : cB cc y with
    | false =>
      rw [zy] at hh
      exact no n (by unfold pP; rw [zy, Bool.false_and, Bool.and_false]) hh
    | true =>
      rw [zy] at hh
      have hh : pm_run PT n fr lo 24 (16, [some (.ref 5), some (.int x), some (.int y)], [], h, 198, sl) = some R := hh
      obtain ⟨n, hh⟩ := rn_i rfl rfl rfl rfl hh
      obtain ⟨n, hh⟩ := rn_i rfl rfl rfl rfl hh
      obtain ⟨n, hh⟩ := rn_icmp (cc := .eq) (off := 7) (t := 25) rfl rfl hh
      have hh : pm_run PT n fr lo 24 (cond (decide (x = y)) 25 21, [some (.ref 5), some (.int x), some (.int y)], [], h, 198, sl) = some R := hh
      cases ze : decide (x = y) with
      | true =>
        rw [ze] at hh
        exact no n (by unfold pP; rw [ze]; simp) hh
      | false =>
        rw [ze] at hh
        have hh : pm_run PT n fr lo 24 (21, [some (.ref 5), some (.int x), some (.int y)], [], h, 198, sl) = some R := hh
        obtain ⟨n, hh⟩ := rn_i rfl rfl rfl rfl hh
        obtain ⟨n, hh⟩ := rn_i rfl rfl rfl rfl hh
        have q := (rn_ret rfl (Or.inr rfl) hh).2
        rw [q]
        unfold pP
        rw [zx, zy, ze]
        rfl
theorem po_run (hh : pm_run PT n fr lo 160 (0, pm_l0 [.int x, .int y] 2, [], h, 198, sl) = some R) : R = (some (.int (x * 6 + y)), h, 198, sl) := by
  obtain ⟨n, hh⟩ := rn_i rfl rfl rfl rfl hh
  obtain ⟨n, hh⟩ := rn_i rfl rfl rfl rfl hh
  obtain ⟨n, hh⟩ := rn_i rfl rfl rfl rfl hh
  obtain ⟨n, hh⟩ := rn_i rfl rfl rfl rfl hh
  obtain ⟨n, hh⟩ := rn_i rfl rfl rfl rfl hh
  exact (rn_ret rfl (Or.inl rfl) hh).2
theorem ix6b (a b : Nat) : nI a * 6 + nI b = nI (6 * a + b) := by
  rw [show (6 : Int32) = nI 6 from rfl, hI_mul, nI_add, Nat.mul_comm]
/-- the reference's isCourt tells the same -/
theorem inb_cB (hc : cc ≤ 6) : in_b x.toInt64 0 (nI cc - 1).toInt64 = cB cc x := by
  have e : ∀ c, c < 7 → (nI c - 1).toInt = (c : Int) - 1 := by decide +kernel
  have e := e cc (by omega)
  generalize nI cc - 1 = w at *
  unfold in_b cB
  have n1 : (0 : Int64).toInt = 0 := by decide
  rw [Bool.eq_iff_iff, Bool.and_eq_true, decide_eq_true_iff, Bool.not_eq_true', Bool.not_eq_true', decide_eq_false_iff_not, decide_eq_false_iff_not, Int64.lt_iff_toInt_lt, Int64.lt_iff_toInt_lt, Int32.toInt_toInt64, Int32.toInt_toInt64, n1, e]
  omega
theorem mi_run (hc : cc ≤ 6) (h3 : mF h 3 (.int (nI cc))) (hh : pm_run PT n fr lo 168 (0, pm_l0 [.ref 162, .int x] 2, [], h, 198, sl) = some R) : R = (some (.int (cond (cB cc x) 1 0)), h, 198, sl) := by
  have q := rn_dt (F := 10) (Lo := 1000) (hd_isCourt (fr := 10) (lo := 1000) (sl := sl) x h3 (by omega) (by omega)) hh
  rw [inb_cB hc] at q
  exact q
theorem ma_run (hc : cc ≤ 6) (h3 : mF h 3 (.int (nI cc))) (hh : pm_run PT n fr lo 170 (0, pm_l0 [.ref 162, .int x, .int y] 3, [], h, 198, sl) = some R) : R = (some (.int (cond (pP cc x y) 1 0)), h, 198, sl) := by
  have no : ∀ n : Nat, pP cc x y = false → pm_run PT n fr lo 170 (25, [some (.ref 162), some (.int x), some (.int y)], [], h, 198, sl) = some R → R = (some (.int (cond (pP cc x y) 1 0)), h, 198, sl) := by
    intro n e hh
    obtain ⟨n, hh⟩ := rn_i rfl rfl rfl rfl hh
    have q := (rn_ret rfl (Or.inr rfl) hh).2
    rw [q, e]
    rfl
  obtain ⟨n, hh⟩ := rn_i rfl rfl rfl rfl hh
  obtain ⟨n, hh⟩ := rn_i rfl rfl rfl rfl hh
  obtain ⟨n, fr', lo', r1, hr1, hh⟩ := rn_call (w := 0) (t := 168) rfl rfl hh
  have er := mi_run hc h3 hr1
  subst er
  have hh : pm_run PT n fr lo 170 (5, [some (.ref 162), some (.int x), some (.int y)], [.int (cond (cB cc x) 1 0)], h, 198, sl) = some R := hh
  obtain ⟨n, hh⟩ := rn_if (cc := .eq) (off := 20) (t := 25) rfl rfl hh
  cases zx : cB cc x with
  | false =>
    rw [zx] at hh
    exact no n (by unfold pP; rw [zx]; rfl) hh
  | true =>
    rw [zx] at hh
    have hh : pm_run PT n fr lo 170 (8, [some (.ref 162), some (.int x), some (.int y)], [], h, 198, sl) = some R := hh
    obtain ⟨n, hh⟩ := rn_i rfl rfl rfl rfl hh
    obtain ⟨n, hh⟩ := rn_i rfl rfl rfl rfl hh
    obtain ⟨n, fr', lo', r1, hr1, hh⟩ := rn_call (w := 0) (t := 168) rfl rfl hh
    have er := mi_run hc h3 hr1
    subst er
    have hh : pm_run PT n fr lo 170 (13, [some (.ref 162), some (.int x), some (.int y)], [.int (cond (cB cc y) 1 0)], h, 198, sl) = some R := hh
    obtain ⟨n, hh⟩ := rn_if (cc := .eq) (off := 12) (t := 25) rfl rfl hh
    cases zy : cB cc y with
    | false =>
      rw [zy] at hh
      exact no n (by unfold pP; rw [zy, Bool.false_and, Bool.and_false]) hh
    | true =>
      rw [zy] at hh
      have hh : pm_run PT n fr lo 170 (16, [some (.ref 162), some (.int x), some (.int y)], [], h, 198, sl) = some R := hh
      obtain ⟨n, hh⟩ := rn_i rfl rfl rfl rfl hh
      obtain ⟨n, hh⟩ := rn_i rfl rfl rfl rfl hh
      obtain ⟨n, hh⟩ := rn_icmp (cc := .eq) (off := 7) (t := 25) rfl rfl hh
      have hh : pm_run PT n fr lo 170 (cond (decide (x = y)) 25 21, [some (.ref 162), some (.int x), some (.int y)], [], h, 198, sl) = some R := hh
      cases ze : decide (x = y) with
      | true =>
        rw [ze] at hh
        exact no n (by unfold pP; rw [ze]; simp) hh
      | false =>
        rw [ze] at hh
        have hh : pm_run PT n fr lo 170 (21, [some (.ref 162), some (.int x), some (.int y)], [], h, 198, sl) = some R := hh
        obtain ⟨n, hh⟩ := rn_i rfl rfl rfl rfl hh
        obtain ⟨n, hh⟩ := rn_i rfl rfl rfl rfl hh
        have q := (rn_ret rfl (Or.inr rfl) hh).2
        rw [q]
        unfold pP
        rw [zx, zy, ze]
        rfl
end RDA
/-! road, both sides -/
section RDB
variable {n fr lo sl cc : Nat} {h h1 h2 : pm_H} {R : pm_Rs} {x y z v w : Int32} {f g : Nat → Int32}
def rdB (cc : Nat) (x y z : Int32) : Bool := pP cc x y && decide (0 ≤ z.toInt ∧ z.toInt ≤ 9)
def rdU (f : Nat → Int32) (a b : Nat) (z : Int32) : Nat → Int32 := upd (upd f (6 * a + b) z) (6 * b + a) z
theorem rdB_iv (q : rdB cc x y z = true) : ∃ a b, a < cc ∧ b < cc ∧ x = nI a ∧ y = nI b := by
  unfold rdB pP at q
  rw [Bool.and_eq_true, Bool.and_eq_true, Bool.and_eq_true] at q
  obtain ⟨a, ha, ea⟩ := cB_iv q.1.1
  obtain ⟨b, hb, eb⟩ := cB_iv q.1.2.1
  exact ⟨a, b, ha, hb, ea, eb⟩
/-- the class's road -/
theorem xrd_run (hc : cc ≤ 6) {fs rs : List Value} (e0 : h 0 = .inr (10, fs)) (e02 : fs[2]? = some (.ref 5)) (e5 : h 5 = .inr (3, rs)) (e50 : rs[0]? = some (.int (nI cc))) (e54 : rs[4]? = some (.ref 8)) (e8 : h 8 = .inl (0, 36, .inl f)) (hh : pm_run PT n fr lo 94 (0, pm_l0 [.ref 0, .int x, .int y, .int z] 5, [], h, 198, sl) = some R) : (rdB cc x y z = false ∧ R = (some (.int (Int32.ofInt (-1))), h, 198, sl)) ∨ ∃ a b, a < cc ∧ b < cc ∧ x = nI a ∧ y = nI b ∧ rdB cc x y z = true ∧ R = (some (.int (f (6 * a + b))), aset h 8 36 (rdU f a b z), 198, sl) := by
  have no : ∀ n : Nat, rdB cc x y z = false → pm_run PT n fr lo 94 (22, [some (.ref 0), some (.int x), some (.int y), some (.int z), none], [], h, 198, sl) = some R → rdB cc x y z = false ∧ R = (some (.int (Int32.ofInt (-1))), h, 198, sl) := by
    intro n e hh
    obtain ⟨n, hh⟩ := rn_i rfl rfl rfl rfl hh
    exact ⟨e, (rn_ret rfl (Or.inl rfl) hh).2⟩
  obtain ⟨n, hh⟩ := rn_i rfl rfl rfl rfl hh
  obtain ⟨n, hh⟩ := rn_gfo (g := 2) rfl rfl (by decide) e0 e02 hh
  obtain ⟨n, hh⟩ := rn_i rfl rfl rfl rfl hh
  obtain ⟨n, hh⟩ := rn_i rfl rfl rfl rfl hh
  obtain ⟨n, fr', lo', r1, hr1, hh⟩ := rn_call (w := 0) (t := 24) rfl rfl hh
  have er := xa_run hc ⟨rs, e5, e50⟩ hr1
  subst er
  have hh : pm_run PT n fr lo 94 (9, [some (.ref 0), some (.int x), some (.int y), some (.int z), none], [.int (cond (pP cc x y) 1 0)], h, 198, sl) = some R := hh
  obtain ⟨n, hh⟩ := rn_if (cc := .eq) (off := 13) (t := 22) rfl rfl hh
  cases zp : pP cc x y with
  | false =>
    rw [zp] at hh
    exact Or.inl (no n (by unfold rdB; rw [zp]; rfl) hh)
  | true =>
    rw [zp] at hh
    have hh : pm_run PT n fr lo 94 (12, [some (.ref 0), some (.int x), some (.int y), some (.int z), none], [], h, 198, sl) = some R := hh
    obtain ⟨n, hh⟩ := rn_i rfl rfl rfl rfl hh
    obtain ⟨n, hh⟩ := rn_if (cc := .lt) (off := 9) (t := 22) rfl rfl hh
    rw [lt0_e] at hh
    by_cases z0 : z.toInt < 0
    · rw [decide_eq_true z0] at hh
      exact Or.inl (no n (by unfold rdB; rw [decide_eq_false (show ¬ (0 ≤ z.toInt ∧ z.toInt ≤ 9) by omega), Bool.and_false]) hh)
    · rw [decide_eq_false z0] at hh
      have hh : pm_run PT n fr lo 94 (16, [some (.ref 0), some (.int x), some (.int y), some (.int z), none], [], h, 198, sl) = some R := hh
      obtain ⟨n, hh⟩ := rn_i rfl rfl rfl rfl hh
      obtain ⟨n, hh⟩ := rn_i rfl rfl rfl rfl hh
      have hh : pm_run PT n fr lo 94 (19, [some (.ref 0), some (.int x), some (.int y), some (.int z), none], [.int (nI 9), .int z], h, 198, sl) = some R := hh
      obtain ⟨n, hh⟩ := rn_icmp (cc := .le) (off := 5) (t := 24) rfl rfl hh
      rw [le_e (by omega)] at hh
      by_cases z9 : z.toInt ≤ ((9 : Nat) : Int)
      · rw [decide_eq_true z9] at hh
        have eb : rdB cc x y z = true := by
          unfold rdB
          rw [zp, decide_eq_true (show 0 ≤ z.toInt ∧ z.toInt ≤ 9 by omega)]
          rfl
        obtain ⟨a, b, ha, hb, rfl, rfl⟩ := rdB_iv eb
        refine Or.inr ⟨a, b, ha, hb, rfl, rfl, eb, ?_⟩
        have hh : pm_run PT n fr lo 94 (24, [some (.ref 0), some (.int (nI a)), some (.int (nI b)), some (.int z), none], [], h, 198, sl) = some R := hh
        obtain ⟨n, hh⟩ := rn_i rfl rfl rfl rfl hh
        obtain ⟨n, hh⟩ := rn_gfo (g := 2) rfl rfl (by decide) e0 e02 hh
        obtain ⟨n, hh⟩ := rn_gfo (g := 4) rfl rfl (by decide) e5 e54 hh
        obtain ⟨n, hh⟩ := rn_i rfl rfl rfl rfl hh
        obtain ⟨n, hh⟩ := rn_i rfl rfl rfl rfl hh
        obtain ⟨n, fr', lo', r1, hr1, hh⟩ := rn_call (w := 2) (t := 160) rfl rfl hh
        have er := po_run hr1
        subst er
        rw [ix6b] at hh
        have hh : pm_run PT n fr lo 94 (36, [some (.ref 0), some (.int (nI a)), some (.int (nI b)), some (.int z), none], [.int (nI (6 * a + b)), .ref 8], h, 198, sl) = some R := hh
        obtain ⟨n, hh⟩ := rn_iam rfl e8 (hI_in (by omega) (by omega)) (by decide) hh
        rw [nI_clamp (by omega)] at hh
        obtain ⟨n, hh⟩ := rn_i rfl rfl rfl rfl hh
        have hh : pm_run PT n fr lo 94 (39, [some (.ref 0), some (.int (nI a)), some (.int (nI b)), some (.int z), some (.int (f (6 * a + b)))], [], h, 198, sl) = some R := hh
        obtain ⟨n, hh⟩ := rn_i rfl rfl rfl rfl hh
        obtain ⟨n, hh⟩ := rn_gfo (g := 2) rfl rfl (by decide) e0 e02 hh
        obtain ⟨n, hh⟩ := rn_gfo (g := 4) rfl rfl (by decide) e5 e54 hh
        obtain ⟨n, hh⟩ := rn_i rfl rfl rfl rfl hh
        obtain ⟨n, hh⟩ := rn_i rfl rfl rfl rfl hh
        obtain ⟨n, fr', lo', r1, hr1, hh⟩ := rn_call (w := 2) (t := 160) rfl rfl hh
        have er := po_run hr1
        subst er
        rw [ix6b] at hh
        obtain ⟨n, hh⟩ := rn_i rfl rfl rfl rfl hh
        have hh : pm_run PT n fr lo 94 (52, [some (.ref 0), some (.int (nI a)), some (.int (nI b)), some (.int z), some (.int (f (6 * a + b)))], [.int z, .int (nI (6 * a + b)), .ref 8], h, 198, sl) = some R := hh
        obtain ⟨n, hh⟩ := rn_ism rfl e8 (hI_in (by omega) (by omega)) (by decide) hh
        rw [nI_clamp (by omega)] at hh
        have d0 : aset h 8 36 (upd f (6 * a + b) z) 0 = .inr (10, fs) := (asR_ne (by decide)).trans e0
        have d5 : aset h 8 36 (upd f (6 * a + b) z) 5 = .inr (3, rs) := (asR_ne (by decide)).trans e5
        have d8 : aset h 8 36 (upd f (6 * a + b) z) 8 = .inl (0, 36, .inl (upd f (6 * a + b) z)) := asR_self
        have hh : pm_run PT n fr lo 94 (53, [some (.ref 0), some (.int (nI a)), some (.int (nI b)), some (.int z), some (.int (f (6 * a + b)))], [], aset h 8 36 (upd f (6 * a + b) z), 198, sl) = some R := hh
        obtain ⟨n, hh⟩ := rn_i rfl rfl rfl rfl hh
        obtain ⟨n, hh⟩ := rn_gfo (g := 2) rfl rfl (by decide) d0 e02 hh
        obtain ⟨n, hh⟩ := rn_gfo (g := 4) rfl rfl (by decide) d5 e54 hh
        obtain ⟨n, hh⟩ := rn_i rfl rfl rfl rfl hh
        obtain ⟨n, hh⟩ := rn_i rfl rfl rfl rfl hh
        obtain ⟨n, fr', lo', r1, hr1, hh⟩ := rn_call (w := 2) (t := 160) rfl rfl hh
        have er := po_run hr1
        subst er
        rw [ix6b] at hh
        obtain ⟨n, hh⟩ := rn_i rfl rfl rfl rfl hh
        have hh : pm_run PT n fr lo 94 (66, [some (.ref 0), some (.int (nI a)), some (.int (nI b)), some (.int z), some (.int (f (6 * a + b)))], [.int z, .int (nI (6 * b + a)), .ref 8], aset h 8 36 (upd f (6 * a + b) z), 198, sl) = some R := hh
        obtain ⟨n, hh⟩ := rn_ism rfl d8 (hI_in (by omega) (by omega)) (by decide) hh
        rw [nI_clamp (by omega), aset_aset] at hh
        obtain ⟨n, hh⟩ := rn_i rfl rfl rfl rfl hh
        exact (rn_ret rfl (Or.inl rfl) hh).2
      · rw [decide_eq_false z9] at hh
        exact Or.inl (no n (by unfold rdB; rw [decide_eq_false (show ¬ (0 ≤ z.toInt ∧ z.toInt ≤ 9) by omega), Bool.and_false]) hh)
theorem in9_b : in_b z.toInt64 0 9 = decide (0 ≤ z.toInt ∧ z.toInt ≤ 9) := by
  have e2 : (nI 9).toInt64 = 9 := by decide
  have q := in_bc z (c := 9) (by decide)
  rw [e2] at q
  exact q
/-- the reference's road -/
theorem mr_run (hc : cc ≤ 6) {w0 : Value} (h0 : mF h 0 w0) (h3 : mF h 3 (.int (nI cc))) (h11 : mF h 11 (.ref 169)) (e9 : h 169 = .inl (0, 36, .inl g)) (hh : pm_run PT n fr lo 209 (0, pm_l0 [.ref 162, .int x, .int y, .int z] 5, [], h, 198, sl) = some R) : (rdB cc x y z = false ∧ R = (some (.int (Int32.ofInt (-1))), mset h 0 (.int 0), 198, sl)) ∨ ∃ a b, a < cc ∧ b < cc ∧ x = nI a ∧ y = nI b ∧ rdB cc x y z = true ∧ R = (some (.int (g (6 * a + b))), aset (mset h 0 (.int 0)) 169 36 (rdU g a b z), 198, sl) := by
  obtain ⟨n, hh⟩ := rn_i rfl rfl rfl rfl hh
  obtain ⟨n, hh⟩ := rn_i rfl rfl rfl rfl hh
  obtain ⟨n, hh⟩ := rn_pfm (w := w0) rfl rfl rfl (by decide) h0 hh
  have h3 : mF (mset h 0 (.int (Int32.ofInt 0))) 3 (.int (nI cc)) := mF_ne (by decide) h3
  have h11 : mF (mset h 0 (.int (Int32.ofInt 0))) 11 (.ref 169) := mF_ne (by decide) h11
  have e9 : mset h 0 (.int (Int32.ofInt 0)) 169 = .inl (0, 36, .inl g) := mset_arr (by decide) e9
  have em : mset h 0 (.int (Int32.ofInt 0)) = mset h 0 (.int 0) := rfl
  rw [em] at hh h3 h11 e9
  generalize mset h 0 (.int 0) = hb at *
  have no : ∀ n : Nat, rdB cc x y z = false → pm_run PT n fr lo 209 (26, [some (.ref 162), some (.int x), some (.int y), some (.int z), none], [], hb, 198, sl) = some R → rdB cc x y z = false ∧ R = (some (.int (Int32.ofInt (-1))), hb, 198, sl) := by
    intro n e hh
    obtain ⟨n, hh⟩ := rn_i rfl rfl rfl rfl hh
    exact ⟨e, (rn_ret rfl (Or.inl rfl) hh).2⟩
  have hh : pm_run PT n fr lo 209 (5, [some (.ref 162), some (.int x), some (.int y), some (.int z), none], [], hb, 198, sl) = some R := hh
  obtain ⟨n, hh⟩ := rn_i rfl rfl rfl rfl hh
  obtain ⟨n, hh⟩ := rn_i rfl rfl rfl rfl hh
  obtain ⟨n, hh⟩ := rn_i rfl rfl rfl rfl hh
  obtain ⟨n, fr', lo', r1, hr1, hh⟩ := rn_call (w := 0) (t := 170) rfl rfl hh
  have er := ma_run hc h3 hr1
  subst er
  have hh : pm_run PT n fr lo 209 (11, [some (.ref 162), some (.int x), some (.int y), some (.int z), none], [.int (cond (pP cc x y) 1 0)], hb, 198, sl) = some R := hh
  obtain ⟨n, hh⟩ := rn_if (cc := .eq) (off := 15) (t := 26) rfl rfl hh
  cases zp : pP cc x y with
  | false =>
    rw [zp] at hh
    exact Or.inl (no n (by unfold rdB; rw [zp]; rfl) hh)
  | true =>
    rw [zp] at hh
    have hh : pm_run PT n fr lo 209 (14, [some (.ref 162), some (.int x), some (.int y), some (.int z), none], [], hb, 198, sl) = some R := hh
    obtain ⟨n, hh⟩ := rn_i rfl rfl rfl rfl hh
    obtain ⟨n, hh⟩ := rn_i rfl rfl rfl rfl hh
    obtain ⟨n, hh⟩ := rn_i rfl rfl rfl rfl hh
    obtain ⟨n, hh⟩ := rn_i rfl rfl rfl rfl hh
    obtain ⟨n, fr', lo', r1, hr1, hh⟩ := rn_call (w := 2) (t := 163) rfl rfl hh
    have er := rn_dt (F := 10) (Lo := 1000) (hd_in (fr := 10) (lo := 1000) (h := hb) (sl := sl) z.toInt64 0 9) hr1
    subst er
    rw [in9_b] at hh
    have hh : pm_run PT n fr lo 209 (23, [some (.ref 162), some (.int x), some (.int y), some (.int z), none], [.int (cond (decide (0 ≤ z.toInt ∧ z.toInt ≤ 9)) 1 0)], hb, 198, sl) = some R := hh
    obtain ⟨n, hh⟩ := rn_if (cc := .ne) (off := 5) (t := 28) rfl rfl hh
    cases zz : decide (0 ≤ z.toInt ∧ z.toInt ≤ 9) with
    | false =>
      rw [zz] at hh
      exact Or.inl (no n (by unfold rdB; rw [zz, Bool.and_false]) hh)
    | true =>
      rw [zz] at hh
      have eb : rdB cc x y z = true := by
        unfold rdB
        rw [zp, zz]
        rfl
      obtain ⟨a, b, ha, hb', rfl, rfl⟩ := rdB_iv eb
      refine Or.inr ⟨a, b, ha, hb', rfl, rfl, eb, ?_⟩
      have hh : pm_run PT n fr lo 209 (28, [some (.ref 162), some (.int (nI a)), some (.int (nI b)), some (.int z), none], [], hb, 198, sl) = some R := hh
      obtain ⟨n, hh⟩ := rn_i rfl rfl rfl rfl hh
      obtain ⟨n, hh⟩ := rn_gfm rfl rfl h11 hh
      obtain ⟨n, hh⟩ := rn_i rfl rfl rfl rfl hh
      obtain ⟨n, hh⟩ := rn_i rfl rfl rfl rfl hh
      obtain ⟨n, hh⟩ := rn_i rfl rfl rfl rfl hh
      obtain ⟨n, hh⟩ := rn_i rfl rfl rfl rfl hh
      obtain ⟨n, hh⟩ := rn_i rfl rfl rfl rfl hh
      have hh : pm_run PT n fr lo 209 (38, [some (.ref 162), some (.int (nI a)), some (.int (nI b)), some (.int z), none], [.int (6 * nI a + nI b), .ref 169], hb, 198, sl) = some R := hh
      rw [ix6] at hh
      obtain ⟨n, hh⟩ := rn_iam rfl e9 (hI_in (by omega) (by omega)) (by decide) hh
      rw [nI_clamp (by omega)] at hh
      obtain ⟨n, hh⟩ := rn_i rfl rfl rfl rfl hh
      have hh : pm_run PT n fr lo 209 (41, [some (.ref 162), some (.int (nI a)), some (.int (nI b)), some (.int z), some (.int (g (6 * a + b)))], [], hb, 198, sl) = some R := hh
      obtain ⟨n, hh⟩ := rn_i rfl rfl rfl rfl hh
      obtain ⟨n, hh⟩ := rn_gfm rfl rfl h11 hh
      obtain ⟨n, hh⟩ := rn_i rfl rfl rfl rfl hh
      obtain ⟨n, hh⟩ := rn_i rfl rfl rfl rfl hh
      obtain ⟨n, hh⟩ := rn_i rfl rfl rfl rfl hh
      obtain ⟨n, hh⟩ := rn_i rfl rfl rfl rfl hh
      obtain ⟨n, hh⟩ := rn_i rfl rfl rfl rfl hh
      obtain ⟨n, hh⟩ := rn_i rfl rfl rfl rfl hh
      have hh : pm_run PT n fr lo 209 (52, [some (.ref 162), some (.int (nI a)), some (.int (nI b)), some (.int z), some (.int (g (6 * a + b)))], [.int z, .int (6 * nI a + nI b), .ref 169], hb, 198, sl) = some R := hh
      rw [ix6] at hh
      obtain ⟨n, hh⟩ := rn_ism rfl e9 (hI_in (by omega) (by omega)) (by decide) hh
      rw [nI_clamp (by omega)] at hh
      have d11 : mF (aset hb 169 36 (upd g (6 * a + b) z)) 11 (.ref 169) := aset_mF (by decide) h11
      have d9 : aset hb 169 36 (upd g (6 * a + b) z) 169 = .inl (0, 36, .inl (upd g (6 * a + b) z)) := asR_self
      have hh : pm_run PT n fr lo 209 (53, [some (.ref 162), some (.int (nI a)), some (.int (nI b)), some (.int z), some (.int (g (6 * a + b)))], [], aset hb 169 36 (upd g (6 * a + b) z), 198, sl) = some R := hh
      obtain ⟨n, hh⟩ := rn_i rfl rfl rfl rfl hh
      obtain ⟨n, hh⟩ := rn_gfm rfl rfl d11 hh
      obtain ⟨n, hh⟩ := rn_i rfl rfl rfl rfl hh
      obtain ⟨n, hh⟩ := rn_i rfl rfl rfl rfl hh
      obtain ⟨n, hh⟩ := rn_i rfl rfl rfl rfl hh
      obtain ⟨n, hh⟩ := rn_i rfl rfl rfl rfl hh
      obtain ⟨n, hh⟩ := rn_i rfl rfl rfl rfl hh
      obtain ⟨n, hh⟩ := rn_i rfl rfl rfl rfl hh
      have hh : pm_run PT n fr lo 209 (64, [some (.ref 162), some (.int (nI a)), some (.int (nI b)), some (.int z), some (.int (g (6 * a + b)))], [.int z, .int (6 * nI b + nI a), .ref 169], aset hb 169 36 (upd g (6 * a + b) z), 198, sl) = some R := hh
      rw [ix6] at hh
      obtain ⟨n, hh⟩ := rn_ism rfl d9 (hI_in (by omega) (by omega)) (by decide) hh
      rw [nI_clamp (by omega), aset_aset] at hh
      obtain ⟨n, hh⟩ := rn_i rfl rfl rfl rfl hh
      exact (rn_ret rfl (Or.inl rfl) hh).2
end RDB
/-! the roads' cells: who writes them -/
section RDC
variable {n fr lo sl k kx km cc : Nat} {h h1 h2 : pm_H} {R : pm_Rs} {vs : List Int32} {x y z v w : Int32}
def roC : List (Nat × List (Nat × List Bool)) := [(35, [(28, [true]), (29, [false, true]), (30, [false, false, true]), (33, [false, true])]), (47, [(20, [true]), (21, [false, true]), (22, [false, false, true]), (25, [false, true])]), (49, [(20, [true]), (21, [false, true]), (22, [false, false, true]), (25, [false, true])]), (51, [(41, [true]), (42, [false, true]), (44, [false, false, true]), (47, [false, true])]), (207, [(35, [true]), (37, [false, true]), (38, [false, false, true]), (39, [false, true]), (40, [false, false, true]), (41, [false, true])]), (237, [(70, [true]), (72, [false, true]), (73, [false, false, true]), (74, [false, true]), (76, [false, false, true]), (77, [false, true])]), (238, [(85, [true]), (87, [false, true]), (88, [false, false, true]), (89, [false, true]), (91, [false, false, true]), (92, [false, true])]), (239, [(157, [true]), (159, [false, true]), (161, [false, false, true]), (162, [false, true]), (164, [false, false, true]), (165, [false, true])]), (266, [(66, [true]), (68, [false, true]), (69, [false, false, true]), (70, [false, true]), (72, [false, false, true]), (73, [false, true])])]
def roG (ci f : Nat) : Bool := (Nat.beq ci 3 && Nat.beq f 4) || (Nat.beq ci 11 && Nat.beq f 11)
def roX : List Nat := [0, 6, 15, 22, 45, 52, 57, 72, 78, 82, 85, 91, 92, 93, 94, 128, 161, 188, 189, 209]
def roK : Nat → Bool := sf_X roX
theorem ro_all : ((List.range 271).filter (fun k => !(roX.any (fun x => Nat.beq x k)))).all (fun k => sf_b nP0 roK k && tn_b (tk_at roC) roG roK k) = true := by decide +kernel
theorem ro_sf : sf_ok nP0 roK := sf_of sf_X_in (List.all_eq_true.mpr (fun k hk => ((Bool.and_eq_true _ _).mp (List.all_eq_true.mp ro_all k hk)).1))
theorem ro_tn : tn_ok (tk_at roC) roG roK := tn_of sf_X_in (List.all_eq_true.mpr (fun k hk => ((Bool.and_eq_true _ _).mp (List.all_eq_true.mp ro_all k hk)).2))
theorem ro_tb : (List.range 198).all (fun i => tn_tc [8, 169] roG (bB i)) = true := by decide +kernel
end RDC
