/-! the class's reader of COURTS -/
section CXR
variable {n fr lo sl n0 cc k pc p l : Nat} {h h' : pm_H} {R : pm_Rs} {f : Nat → Int32} {L : pm_L} {S : List Value}
/-- what the class's reader looks at -/
def pX (h : pm_H) (n0 cc : Nat) (f : Nat → Int32) : Prop := (∃ fs, h 0 = .inr (10, fs) ∧ fs[0]? = some (.ref 1) ∧ fs[2]? = some (.ref 5)) ∧ (∃ gs, h 1 = .inr (8, gs) ∧ gs[0]? = some (.ref 2) ∧ gs[1]? = some (.int (nI n0))) ∧ h 2 = .inl (1, 80, .inl f) ∧ ∃ rs, h 5 = .inr (3, rs) ∧ rs[0]? = some (.int (nI cc))
theorem rn_gfo {a ci j g t : Nat} {fs : List Value} {v : Value} (hi : pm_ins PT k pc = some (.getfield j, 3)) (hf : pm_fld PT (pm_o PT k) j = some (ci, g, t)) (ha : a < 198) (e : h a = .inr (ci, fs)) (e1 : fs[g]? = some v) (hh : pm_run PT n fr lo k (pc, L, .ref a :: S, h, 198, sl) = some R) : ∃ m, pm_run PT m fr lo k (pc + 3, L, v :: S, h, 198, sl) = some R := rn_i hi rfl rfl (gf_eq hf ha e e1) hh
/-- the sign at p, or none -/
def sgA (f : Nat → Int32) (n0 p l : Nat) : Int32 := cond (decide (p < min n0 l)) (f p) (Int32.ofInt (-1))
theorem sgA_run (hn : n0 ≤ 80) (hl : l ≤ 80) (hp : p < 1000) (q : pX h n0 cc f) (hh : pm_run PT n fr lo 80 (0, pm_l0 [.ref 1, .int (nI p), .int (nI l)] 3, [], h, 198, sl) = some R) : R = (some (.int (sgA f n0 p l)), h, 198, sl) := by
  obtain ⟨-, ⟨gs, g1, g2, g3⟩, c1, -⟩ := q
  have no : ∀ n : Nat, ¬ p < min n0 l → pm_run PT n fr lo 80 (26, [some (.ref 1), some (.int (nI p)), some (.int (nI l))], [], h, 198, sl) = some R → R = (some (.int (sgA f n0 p l)), h, 198, sl) := by
    intro n z hh
    obtain ⟨n, hh⟩ := rn_i rfl rfl rfl rfl hh
    unfold sgA
    rw [decide_eq_false z]
    exact (rn_ret rfl (Or.inl rfl) hh).2
  obtain ⟨n, hh⟩ := rn_i rfl rfl rfl rfl hh
  obtain ⟨n, hh⟩ := rn_if (cc := .lt) (off := 25) (t := 26) rfl rfl hh
  rw [lt0_val (by rw [nI_toInt (by omega)]; omega)] at hh
  obtain ⟨n, hh⟩ := rn_i rfl rfl rfl rfl hh
  obtain ⟨n, hh⟩ := rn_i rfl rfl rfl rfl hh
  obtain ⟨n, hh⟩ := rn_gfo (g := 1) rfl rfl (by decide) g1 g3 hh
  obtain ⟨n, hh⟩ := rn_icmp (cc := .ge) (off := 17) (t := 26) rfl rfl hh
  rw [hI_ge (by omega) (by omega)] at hh
  by_cases z : n0 ≤ p
  · rw [decide_eq_true z] at hh
    exact no n (by omega) hh
  · rw [decide_eq_false z] at hh
    obtain ⟨n, hh⟩ := rn_i rfl rfl rfl rfl hh
    obtain ⟨n, hh⟩ := rn_i rfl rfl rfl rfl hh
    obtain ⟨n, hh⟩ := rn_icmp (cc := .ge) (off := 12) (t := 26) rfl rfl hh
    rw [hI_ge (by omega) (by omega)] at hh
    by_cases y : l ≤ p
    · rw [decide_eq_true y] at hh
      exact no n (by omega) hh
    · rw [decide_eq_false y] at hh
      obtain ⟨n, hh⟩ := rn_i rfl rfl rfl rfl hh
      obtain ⟨n, hh⟩ := rn_gfo (g := 0) rfl rfl (by decide) g1 g2 hh
      obtain ⟨n, hh⟩ := rn_i rfl rfl rfl rfl hh
      obtain ⟨n, hh⟩ := rn_cam rfl c1 (hI_in (by omega) (by decide)) (by decide) hh
      rw [nI_clamp (by omega)] at hh
      obtain ⟨n, hh⟩ := rn_i rfl rfl rfl rfl hh
      unfold sgA
      rw [decide_eq_true (by omega)]
      exact (rn_ret rfl (Or.inl rfl) hh).2
/-- the digit at p, or none -/
def dgA (f : Nat → Int32) (n0 p l : Nat) : Int32 := cond (dg f p (min n0 l)) (f p - nI 48) (Int32.ofInt (-1))
theorem dg_lo {x : Int32} (z : pm_cmp .lt x (nI 48) = true) : in_b x.toInt64 48 57 = false := by
  have z := of_decide_eq_true z
  rw [Int32.lt_iff_toInt_lt, nI_toInt (by decide)] at z
  unfold in_b
  rw [Bool.and_eq_false_iff]
  left
  have : x.toInt64 < 48 := by
    rw [Int64.lt_iff_toInt_lt, Int32.toInt_toInt64, show (48 : Int64).toInt = 48 by decide]
    omega
  simp [this]
theorem dg_hi {x : Int32} (z : pm_cmp .gt x (nI 57) = true) : in_b x.toInt64 48 57 = false := by
  have z := of_decide_eq_true z
  rw [Int32.lt_iff_toInt_lt, nI_toInt (by decide)] at z
  unfold in_b
  rw [Bool.and_eq_false_iff]
  right
  have : (57 : Int64) < x.toInt64 := by
    rw [Int64.lt_iff_toInt_lt, Int32.toInt_toInt64, show (57 : Int64).toInt = 57 by decide]
    omega
  simp [this]
theorem dg_in {x : Int32} (z : pm_cmp .lt x (nI 48) = false) (y : pm_cmp .gt x (nI 57) = false) : in_b x.toInt64 48 57 = true := by
  have z := of_decide_eq_false z
  have y := of_decide_eq_false y
  rw [Int32.lt_iff_toInt_lt, nI_toInt (by decide)] at z y
  unfold in_b
  have a1 : ¬ x.toInt64 < 48 := by
    rw [Int64.lt_iff_toInt_lt, Int32.toInt_toInt64, show (48 : Int64).toInt = 48 by decide]
    omega
  have a2 : ¬ (57 : Int64) < x.toInt64 := by
    rw [Int64.lt_iff_toInt_lt, Int32.toInt_toInt64, show (57 : Int64).toInt = 57 by decide]
    omega
  simp [a1, a2]
theorem dgA_run (hn : n0 ≤ 80) (hl : l ≤ 80) (hp : p < 1000) (q : pX h n0 cc f) (hh : pm_run PT n fr lo 81 (0, pm_l0 [.ref 1, .int (nI p), .int (nI l)] 4, [], h, 198, sl) = some R) : R = (some (.int (dgA f n0 p l)), h, 198, sl) := by
  obtain ⟨n, hh⟩ := rn_i rfl rfl rfl rfl hh
  obtain ⟨n, hh⟩ := rn_i rfl rfl rfl rfl hh
  obtain ⟨n, hh⟩ := rn_i rfl rfl rfl rfl hh
  obtain ⟨n, fr', lo', r1, hr1, hh⟩ := rn_call (w := 0) (t := 80) rfl rfl hh
  have er := sgA_run hn hl hp q hr1
  subst er
  have hh : pm_run PT n fr lo 81 (6, [some (.ref 1), some (.int (nI p)), some (.int (nI l)), none], [.int (sgA f n0 p l)], h, 198, sl) = some R := hh
  have no : ∀ n : Nat, dg f p (min n0 l) = false → pm_run PT n fr lo 81 (26, [some (.ref 1), some (.int (nI p)), some (.int (nI l)), some (.int (sgA f n0 p l))], [], h, 198, sl) = some R → R = (some (.int (dgA f n0 p l)), h, 198, sl) := by
    intro n z hh
    obtain ⟨n, hh⟩ := rn_i rfl rfl rfl rfl hh
    unfold dgA
    rw [z]
    exact (rn_ret rfl (Or.inl rfl) hh).2
  obtain ⟨n, hh⟩ := rn_i rfl rfl rfl rfl hh
  obtain ⟨n, hh⟩ := rn_i rfl rfl rfl rfl hh
  obtain ⟨n, hh⟩ := rn_i rfl rfl rfl rfl hh
  obtain ⟨n, hh⟩ := rn_icmp (cc := .lt) (off := 16) (t := 26) rfl rfl hh
  have hh : pm_run PT n fr lo 81 (cond (pm_cmp .lt (sgA f n0 p l) (nI 48)) 26 13, [some (.ref 1), some (.int (nI p)), some (.int (nI l)), some (.int (sgA f n0 p l))], [], h, 198, sl) = some R := hh
  by_cases x : p < min n0 l
  · have es : sgA f n0 p l = f p := by
      unfold sgA
      rw [decide_eq_true x]
      rfl
    cases z : pm_cmp .lt (sgA f n0 p l) (nI 48) with
    | true =>
      rw [z] at hh
      refine no n ?_ hh
      rw [es] at z
      unfold dg
      rw [dg_lo z, Bool.and_false]
    | false =>
      rw [z] at hh
      obtain ⟨n, hh⟩ := rn_i rfl rfl rfl rfl hh
      obtain ⟨n, hh⟩ := rn_i rfl rfl rfl rfl hh
      obtain ⟨n, hh⟩ := rn_icmp (cc := .gt) (off := 10) (t := 26) rfl rfl hh
      have hh : pm_run PT n fr lo 81 (cond (pm_cmp .gt (sgA f n0 p l) (nI 57)) 26 19, [some (.ref 1), some (.int (nI p)), some (.int (nI l)), some (.int (sgA f n0 p l))], [], h, 198, sl) = some R := hh
      cases y : pm_cmp .gt (sgA f n0 p l) (nI 57) with
      | true =>
        rw [y] at hh
        refine no n ?_ hh
        rw [es] at y
        unfold dg
        rw [dg_hi y, Bool.and_false]
      | false =>
        rw [y] at hh
        have ed : dg f p (min n0 l) = true := by
          rw [es] at z y
          unfold dg
          rw [dg_in z y, decide_eq_true x]
          rfl
        obtain ⟨n, hh⟩ := rn_i rfl rfl rfl rfl hh
        obtain ⟨n, hh⟩ := rn_i rfl rfl rfl rfl hh
        obtain ⟨n, hh⟩ := rn_i rfl rfl rfl rfl hh
        obtain ⟨n, hh⟩ := rn_i rfl rfl rfl rfl hh
        unfold dgA
        rw [ed]
        rw [es] at hh
        exact (rn_ret rfl (Or.inl rfl) hh).2
  · have es : sgA f n0 p l = Int32.ofInt (-1) := by
      unfold sgA
      rw [decide_eq_false x]
      rfl
    rw [es] at hh
    have ed : dg f p (min n0 l) = false := by
      unfold dg
      rw [decide_eq_false x]
      rfl
    rw [es] at no
    exact no n ed hh
end CXR
