/-! the class's readGift, whole -/
section GXS
variable {n fr lo sl n0 cc p t a : Nat} {h : pm_H} {R : pm_Rs} {f : Nat → Int32} {L1 L2 L3 L5 L6 : Int32}
theorem xg_119 (hn : n0 ≤ 80) (hc : cc ≤ 6) (ha : a < 800) (x : pX h n0 cc f) (hh : pm_run PT n fr lo 131 (119, [some (.ref 0), some (.int L1), some (.int L2), some (.int L3), some (.int (nI a)), some (.int (L5)), some (.int (L6)), none, none], [], h, 198, sl) = some R) : R.1 = some (.int (xgA (rgE f (min n0 55) cc (a + 1)))) := by
  obtain ⟨⟨fs, a1, a2, a3⟩, -⟩ := id x
  obtain ⟨n, hh⟩ := rn_i rfl rfl rfl rfl hh
  obtain ⟨n, hh⟩ := rn_i rfl rfl rfl rfl hh
  obtain ⟨n, hh⟩ := rn_gfo (g := 0) rfl rfl (by decide) a1 a2 hh
  obtain ⟨n, hh⟩ := rn_i rfl rfl rfl rfl hh
  obtain ⟨n, hh⟩ := rn_i rfl rfl rfl rfl hh
  have e1 : nI a + Int32.ofInt 1 = nI (a + 1) := (Int32.ofNat_add a 1).symm
  have hh : pm_run PT n fr lo 131 (130, [some (.ref 0), some (.int L1), some (.int L2), some (.int L3), some (.int (nI a + Int32.ofInt 1)), some (.int (L5)), some (.int (L6)), none, none], [.int (nI 55), .int (nI a + Int32.ofInt 1), .ref 1], h, 198, sl) = some R := hh
  rw [e1] at hh
  obtain ⟨n, fr', lo', r1, hr1, hh⟩ := rn_call (w := 0) (t := 81) rfl rfl hh
  have er := dgA_run (l := 55) hn (by decide) (by omega) x hr1
  subst er
  have hh : pm_run PT n fr lo 131 (133, [some (.ref 0), some (.int L1), some (.int L2), some (.int L3), some (.int (nI (a + 1))), some (.int (L5)), some (.int (L6)), none, none], [.int (dgA f n0 (a + 1) 55)], h, 198, sl) = some R := hh
  obtain ⟨n, hh⟩ := rn_i rfl rfl rfl rfl hh
  obtain ⟨n, hh⟩ := rn_i rfl rfl rfl rfl hh
  obtain ⟨n, hh⟩ := rn_if (cc := .ge) (off := 8) (t := 145) rfl rfl hh
  unfold rgE
  cases hd : dg f (a + 1) (min n0 55) with
  | false =>
    rw [dgA_no hd, show pm_cmp .ge (Int32.ofInt (-1)) 0 = false by decide] at hh
    have hh : pm_run PT n fr lo 131 (140, [some (.ref 0), some (.int L1), some (.int L2), some (.int L3), some (.int (nI (a + 1))), some (.int (L5)), some (.int (L6)), some (.int (Int32.ofInt (-1))), none], [], h, 198, sl) = some R := hh
    rw [xg_no rfl rfl rfl rfl hh]
    unfold xgA
    simp only [cond_false]
  | true =>
    obtain ⟨v1, v2⟩ := dg_val hd
    rw [dgA_yes hd, ge0_val v1] at hh
    simp only [cond_true]
    have hh : pm_run PT n fr lo 131 (145, [some (.ref 0), some (.int L1), some (.int L2), some (.int L3), some (.int (nI (a + 1))), some (.int (L5)), some (.int (L6)), some (.int (f (a + 1) - 48)), none], [], h, 198, sl) = some R := hh
    exact xg_145 hn hc (by omega) x hh
theorem xg_95 (hn : n0 ≤ 80) (hc : cc ≤ 6) (ha : a < 700) (x : pX h n0 cc f) (hh : pm_run PT n fr lo 131 (95, [some (.ref 0), some (.int L1), some (.int L2), some (.int L3), some (.int (nI a)), some (.int (L5)), some (.int (L6)), none, none], [], h, 198, sl) = some R) : R.1 = some (.int (xgA (rgC f (min n0 55) cc (a + 1)))) := by
  obtain ⟨⟨fs, a1, a2, a3⟩, -⟩ := id x
  obtain ⟨n, hh⟩ := rn_i rfl rfl rfl rfl hh
  obtain ⟨n, hh⟩ := rn_i rfl rfl rfl rfl hh
  obtain ⟨n, hh⟩ := rn_gfo (g := 0) rfl rfl (by decide) a1 a2 hh
  obtain ⟨n, hh⟩ := rn_i rfl rfl rfl rfl hh
  obtain ⟨n, hh⟩ := rn_i rfl rfl rfl rfl hh
  have e1 : nI a + Int32.ofInt 1 = nI (a + 1) := (Int32.ofNat_add a 1).symm
  have hh : pm_run PT n fr lo 131 (106, [some (.ref 0), some (.int L1), some (.int L2), some (.int L3), some (.int (nI a + Int32.ofInt 1)), some (.int (L5)), some (.int (L6)), none, none], [.int (nI 55), .int (nI a + Int32.ofInt 1), .ref 1], h, 198, sl) = some R := hh
  rw [e1] at hh
  obtain ⟨n, fr', lo', r1, hr1, hh⟩ := rn_call (w := 0) (t := 80) rfl rfl hh
  have er := sgA_run (l := 55) hn (by decide) (by omega) x hr1
  subst er
  have hh : pm_run PT n fr lo 131 (109, [some (.ref 0), some (.int L1), some (.int L2), some (.int L3), some (.int (nI (a + 1))), some (.int (L5)), some (.int (L6)), none, none], [.int (sgA f n0 (a + 1) 55)], h, 198, sl) = some R := hh
  obtain ⟨n, hh⟩ := rn_i rfl rfl rfl rfl hh
  obtain ⟨n, hh⟩ := rn_icmp (cc := .eq) (off := 8) (t := 119) rfl rfl hh
  have hh : pm_run PT n fr lo 131 (cond (pm_cmp .eq (sgA f n0 (a + 1) 55) 44) 119 114, [some (.ref 0), some (.int L1), some (.int L2), some (.int L3), some (.int (nI (a + 1))), some (.int (L5)), some (.int (L6)), none, none], [], h, 198, sl) = some R := hh
  have es : pm_cmp .eq (sgA f n0 (a + 1) 55) 44 = decide (a + 1 < min n0 55 ∧ f (a + 1) = 44) := by
    unfold sgA
    by_cases q : a + 1 < min n0 55
    · rw [decide_eq_true q]
      show decide (f (a + 1) = 44) = _
      rw [Bool.eq_iff_iff, decide_eq_true_iff, decide_eq_true_iff]
      exact ⟨fun e => ⟨q, e⟩, fun e => e.2⟩
    · rw [decide_eq_false q, decide_eq_false (fun e => q e.1)]
      show pm_cmp .eq (Int32.ofInt (-1)) 44 = false
      decide
  rw [es] at hh
  unfold rgC
  cases v : decide (a + 1 < min n0 55 ∧ f (a + 1) = 44) with
  | false =>
    rw [v] at hh
    rw [xg_no rfl rfl rfl rfl hh]
    unfold xgA
    simp only [cond_false]
  | true =>
    rw [v] at hh
    simp only [cond_true]
    exact xg_119 hn hc (by omega) x hh
theorem xg_85 {v : Int32} (hn : n0 ≤ 80) (hc : cc ≤ 6) (ha : a < 700) (x : pX h n0 cc f) (hh : pm_run PT n fr lo 131 (85, [some (.ref 0), some (.int L1), some (.int L2), some (.int L3), some (.int (nI a)), some (.int (v)), some (.int (L6)), none, none], [], h, 198, sl) = some R) : R.1 = some (.int (xgA (rgW f (min n0 55) cc (a + 1, v)))) := by
  obtain ⟨n, hh⟩ := rn_i rfl rfl rfl rfl hh
  obtain ⟨n, hh⟩ := rn_if (cc := .ne) (off := 8) (t := 95) rfl rfl hh
  unfold rgW
  dsimp only
  by_cases z : v = 0
  · rw [show pm_cmp .ne v 0 = false from decide_eq_false (fun q => q z)] at hh
    rw [decide_eq_true z]
    simp only [cond_true]
    have hh : pm_run PT n fr lo 131 (90, [some (.ref 0), some (.int L1), some (.int L2), some (.int L3), some (.int (nI a)), some (.int (v)), some (.int (L6)), none, none], [], h, 198, sl) = some R := hh
    rw [xg_no rfl rfl rfl rfl hh]
    unfold xgA
    simp only [cond_false, Nat.add_sub_cancel]
  · rw [show pm_cmp .ne v 0 = true from decide_eq_true z] at hh
    rw [decide_eq_false z]
    simp only [cond_false]
    exact xg_95 hn hc ha x hh
theorem xg_24 (hn : n0 ≤ 80) (hc : cc ≤ 6) (hp : p < 600) (x : pX h n0 cc f) (hh : pm_run PT n fr lo 131 (24, [some (.ref 0), some (.int L1), some (.int (nI p)), some (.int L3), none, none, none, none, none], [], h, 198, sl) = some R) : R.1 = some (.int (xgA (cond (dg f (p + 1) (min n0 55)) (rgW f (min n0 55) cc (nbr f (min n0 55) 2 (p + 1) 0)) (false, p + 1)))) := by
  obtain ⟨⟨fs, a1, a2, a3⟩, -⟩ := id x
  obtain ⟨n, hh⟩ := rn_i rfl rfl rfl rfl hh
  obtain ⟨n, hh⟩ := rn_i rfl rfl rfl rfl hh
  obtain ⟨n, hh⟩ := rn_i rfl rfl rfl rfl hh
  obtain ⟨n, hh⟩ := rn_i rfl rfl rfl rfl hh
  obtain ⟨n, hh⟩ := rn_i rfl rfl rfl rfl hh
  obtain ⟨n, hh⟩ := rn_gfo (g := 0) rfl rfl (by decide) a1 a2 hh
  obtain ⟨n, hh⟩ := rn_i rfl rfl rfl rfl hh
  obtain ⟨n, hh⟩ := rn_i rfl rfl rfl rfl hh
  have e1 : nI p + Int32.ofInt 1 = nI (p + 1) := (Int32.ofNat_add p 1).symm
  have hh : pm_run PT n fr lo 131 (37, [some (.ref 0), some (.int L1), some (.int (nI p)), some (.int L3), some (.int (nI p + Int32.ofInt 1)), none, none, none, none], [.int (nI 55), .int (nI p + Int32.ofInt 1), .ref 1], h, 198, sl) = some R := hh
  rw [e1] at hh
  obtain ⟨n, fr', lo', r1, hr1, hh⟩ := rn_call (w := 0) (t := 81) rfl rfl hh
  have er := dgA_run (l := 55) hn (by decide) (by omega) x hr1
  subst er
  have hh : pm_run PT n fr lo 131 (40, [some (.ref 0), some (.int L1), some (.int (nI p)), some (.int L3), some (.int (nI (p + 1))), none, none, none, none], [.int (dgA f n0 (p + 1) 55)], h, 198, sl) = some R := hh
  obtain ⟨n, hh⟩ := rn_i rfl rfl rfl rfl hh
  obtain ⟨n, hh⟩ := rn_i rfl rfl rfl rfl hh
  obtain ⟨n, hh⟩ := rn_if (cc := .ge) (off := 8) (t := 52) rfl rfl hh
  cases hd : dg f (p + 1) (min n0 55) with
  | false =>
    rw [dgA_no hd, show pm_cmp .ge (Int32.ofInt (-1)) 0 = false by decide] at hh
    have hh : pm_run PT n fr lo 131 (47, [some (.ref 0), some (.int L1), some (.int (nI p)), some (.int L3), some (.int (nI (p + 1))), some (.int (Int32.ofInt (-1))), none, none, none], [], h, 198, sl) = some R := hh
    rw [xg_no rfl rfl rfl rfl hh]
    unfold xgA
    simp only [cond_false]
  | true =>
    obtain ⟨v1, v2⟩ := dg_val hd
    rw [dgA_yes hd, ge0_val v1] at hh
    simp only [cond_true]
    have en : nbr f (min n0 55) 2 (p + 1) 0 = nbr f (min n0 55) 1 (p + 2) (f (p + 1) - 48) := by
      rw [show nbr f (min n0 55) 2 (p + 1) 0 = nbr f (min n0 55) (1 + 1) (p + 1) 0 from rfl, nbr_gt _ hd]
      have ez : (10 * 0 + f (p + 1) - 48 : Int32) = f (p + 1) - 48 := by simp
      rw [ez]
    rw [en]
    have hh : pm_run PT n fr lo 131 (52, [some (.ref 0), some (.int L1), some (.int (nI p)), some (.int L3), some (.int (nI (p + 1))), some (.int (f (p + 1) - 48)), none, none, none], [], h, 198, sl) = some R := hh
    obtain ⟨n, hh⟩ := rn_i rfl rfl rfl rfl hh
    obtain ⟨n, hh⟩ := rn_gfo (g := 0) rfl rfl (by decide) a1 a2 hh
    obtain ⟨n, hh⟩ := rn_i rfl rfl rfl rfl hh
    obtain ⟨n, hh⟩ := rn_i rfl rfl rfl rfl hh
    obtain ⟨n, hh⟩ := rn_i rfl rfl rfl rfl hh
    obtain ⟨n, hh⟩ := rn_i rfl rfl rfl rfl hh
    have e2 : nI (p + 1) + Int32.ofInt 1 = nI (p + 2) := (Int32.ofNat_add (p + 1) 1).symm
    have hh : pm_run PT n fr lo 131 (62, [some (.ref 0), some (.int L1), some (.int (nI p)), some (.int L3), some (.int (nI (p + 1))), some (.int (f (p + 1) - 48)), none, none, none], [.int (nI 55), .int (nI (p + 1) + Int32.ofInt 1), .ref 1], h, 198, sl) = some R := hh
    rw [e2] at hh
    obtain ⟨n, fr', lo', r1, hr1, hh⟩ := rn_call (w := 0) (t := 81) rfl rfl hh
    have er := dgA_run (l := 55) hn (by decide) (by omega) x hr1
    subst er
    have hh : pm_run PT n fr lo 131 (65, [some (.ref 0), some (.int L1), some (.int (nI p)), some (.int L3), some (.int (nI (p + 1))), some (.int (f (p + 1) - 48)), none, none, none], [.int (dgA f n0 (p + 2) 55)], h, 198, sl) = some R := hh
    obtain ⟨n, hh⟩ := rn_i rfl rfl rfl rfl hh
    obtain ⟨n, hh⟩ := rn_i rfl rfl rfl rfl hh
    obtain ⟨n, hh⟩ := rn_if (cc := .lt) (off := 16) (t := 85) rfl rfl hh
    show R.1 = some (.int (xgA (rgW f (min n0 55) cc (nbr f (min n0 55) (0 + 1) (p + 2) (f (p + 1) - 48)))))
    cases he : dg f (p + 2) (min n0 55) with
    | false =>
      rw [dgA_no he, show pm_cmp .lt (Int32.ofInt (-1)) 0 = true by decide] at hh
      have eb : nbr f (min n0 55) (0 + 1) (p + 2) (f (p + 1) - 48) = (p + 1 + 1, f (p + 1) - 48) := by
        unfold nbr
        rw [he]
        rfl
      rw [eb]
      exact xg_85 hn hc (by omega) x hh
    | true =>
      obtain ⟨w1, w2⟩ := dg_val he
      rw [dgA_yes he, lt0_val w1] at hh
      have eb : nbr f (min n0 55) (0 + 1) (p + 2) (f (p + 1) - 48) = (p + 2 + 1, nI 10 * (f (p + 1) - 48) + (f (p + 2) - 48)) := by
        rw [nbr_gt _ he]
        show (p + 2 + 1, 10 * (f (p + 1) - 48) + f (p + 2) - 48) = _
        rw [Int32.sub_eq_add_neg (10 * (f (p + 1) - 48) + f (p + 2)), Int32.sub_eq_add_neg (f (p + 2)), Int32.add_assoc]
        rfl
      rw [eb]
      obtain ⟨n, hh⟩ := rn_i rfl rfl rfl rfl hh
      obtain ⟨n, hh⟩ := rn_i rfl rfl rfl rfl hh
      obtain ⟨n, hh⟩ := rn_i rfl rfl rfl rfl hh
      obtain ⟨n, hh⟩ := rn_i rfl rfl rfl rfl hh
      obtain ⟨n, hh⟩ := rn_i rfl rfl rfl rfl hh
      obtain ⟨n, hh⟩ := rn_i rfl rfl rfl rfl hh
      obtain ⟨n, hh⟩ := rn_i rfl rfl rfl rfl hh
      have e3 : nI (p + 1) + Int32.ofInt 1 = nI (p + 2) := (Int32.ofNat_add (p + 1) 1).symm
      have hh : pm_run PT n fr lo 131 (85, [some (.ref 0), some (.int L1), some (.int (nI p)), some (.int L3), some (.int (nI (p + 1) + Int32.ofInt 1)), some (.int (nI 10 * (f (p + 1) - 48) + (f (p + 2) - 48))), some (.int (f (p + 2) - 48)), none, none], [], h, 198, sl) = some R := hh
      rw [e3] at hh
      exact xg_85 hn hc (by omega) x hh
theorem xg_run {gi : Int32} (hn : n0 ≤ 80) (hc : cc ≤ 6) (hp : p < 600) (x : pX h n0 cc f) (hh : pm_run PT n fr lo 131 (0, pm_l0 [.ref 0, .int gi, .int (nI p)] 9, [], h, 198, sl) = some R) : R.1 = some (.int (xgA (rgL f (min n0 55) cc p))) := by
  obtain ⟨⟨fs, a1, a2, a3⟩, -⟩ := id x
  obtain ⟨n, hh⟩ := rn_i rfl rfl rfl rfl hh
  obtain ⟨n, hh⟩ := rn_gfo (g := 0) rfl rfl (by decide) a1 a2 hh
  obtain ⟨n, hh⟩ := rn_i rfl rfl rfl rfl hh
  obtain ⟨n, hh⟩ := rn_i rfl rfl rfl rfl hh
  obtain ⟨n, fr', lo', r1, hr1, hh⟩ := rn_call (w := 0) (t := 81) rfl rfl hh
  have er := dgA_run (l := 55) hn (by decide) (by omega) x hr1
  subst er
  have hh : pm_run PT n fr lo 131 (10, [some (.ref 0), some (.int gi), some (.int (nI p)), none, none, none, none, none, none], [.int (dgA f n0 p 55)], h, 198, sl) = some R := hh
  have no : ∀ (n : Nat) (y : Int32), pm_run PT n fr lo 131 (20, [some (.ref 0), some (.int gi), some (.int (nI p)), some (.int y), none, none, none, none, none], [], h, 198, sl) = some R → R.1 = some (.int (xgA (false, p))) := by
    intro n y hh
    obtain ⟨n, hh⟩ := rn_i rfl rfl rfl rfl hh
    obtain ⟨n, hh⟩ := rn_i rfl rfl rfl rfl hh
    obtain ⟨n, hh⟩ := rn_i rfl rfl rfl rfl hh
    have e := (rn_ret rfl (Or.inl rfl) hh).2
    rw [e]
    unfold xgA
    simp only [cond_false]
  obtain ⟨n, hh⟩ := rn_i rfl rfl rfl rfl hh
  obtain ⟨n, hh⟩ := rn_i rfl rfl rfl rfl hh
  obtain ⟨n, hh⟩ := rn_if (cc := .lt) (off := 8) (t := 20) rfl rfl hh
  unfold rgL
  rw [dgi_rng (c := 5) (by decide) (by decide)]
  cases hd : dg f p (min n0 55) with
  | false =>
    rw [dgA_no hd, show pm_cmp .lt (Int32.ofInt (-1)) 0 = true by decide] at hh
    simp only [Bool.false_and, cond_false]
    exact no n _ hh
  | true =>
    obtain ⟨v1, v2⟩ := dg_val hd
    rw [dgA_yes hd, lt0_val v1] at hh
    have hh : pm_run PT n fr lo 131 (15, [some (.ref 0), some (.int gi), some (.int (nI p)), some (.int (f p - 48)), none, none, none, none, none], [], h, 198, sl) = some R := hh
    obtain ⟨n, hh⟩ := rn_i rfl rfl rfl rfl hh
    obtain ⟨n, hh⟩ := rn_i rfl rfl rfl rfl hh
    obtain ⟨n, hh⟩ := rn_icmp (cc := .lt) (off := 7) (t := 24) rfl rfl hh
    have el : pm_cmp .lt (f p - 48) (Int32.ofInt 5) = decide ((f p - 48).toInt < ((5 : Nat) : Int)) := by
      simp only [pm_cmp]
      rw [Bool.eq_iff_iff, decide_eq_true_iff, decide_eq_true_iff, Int32.lt_iff_toInt_lt, show (Int32.ofInt 5).toInt = ((5 : Nat) : Int) by decide]
    rw [el] at hh
    rw [Bool.true_and]
    cases y : decide ((f p - 48).toInt < ((5 : Nat) : Int)) with
    | false =>
      rw [y] at hh
      simp only [cond_false]
      exact no n _ hh
    | true =>
      rw [y] at hh
      simp only [cond_true]
      exact xg_24 hn hc hp x hh
end GXS
