/-! the class's LINES of GIFTS, with their values -/
section GVX
variable {n fr lo sl n0 cc gc p t a g ln : Nat} {h g0 : pm_H} {R : pm_Rs} {f : Nat → Int32} {L1 L2 L3 L5 L6 k w e d : Int32}
def gW (h : pm_H) (g : Nat) (k w e d : Int32) : pm_H := aset (aset (aset (aset (aset h 9 8 (upd (Ar h 9) g k)) 10 8 (upd (Ar h 10) g w)) 11 8 (upd (Ar h 11) g e)) 17 8 (upd (Ar h 17) g d)) 18 8 (upd (Ar h 18) g (shl (nI 1) d))
def gR (R : pm_Rs) (h : pm_H) (sl : Nat) (s : Bool × Nat) (g : Nat) (k w e d : Int32) : Prop := R = (some (.int (xgA s)), cond s.1 (gW h g k w e d) h, 198, sl)
theorem xv_no {a : Nat} {pc : Nat} {L1 L2 L3 : Int32} {x5 x6 x7 x8 : Option Value} (hi : pm_ins PT 131 pc = some (.iconst (-1), 1)) (hi2 : pm_ins PT 131 (pc + 1) = some (.iload 4, 2)) (hi3 : pm_ins PT 131 (pc + 1 + 2) = some (.isub, 1)) (hi4 : pm_ins PT 131 (pc + 1 + 2 + 1) = some (.ireturn, 1)) (hh : pm_run PT n fr lo 131 (pc, [some (.ref 0), some (.int L1), some (.int L2), some (.int L3), some (.int (nI a)), x5, x6, x7, x8], [], h, 198, sl) = some R) : R = (some (.int (Int32.ofInt (-1) - nI a)), h, 198, sl) := by
  obtain ⟨n, hh⟩ := rn_i hi rfl rfl rfl hh
  obtain ⟨n, hh⟩ := rn_i hi2 rfl rfl rfl hh
  obtain ⟨n, hh⟩ := rn_i hi3 rfl rfl rfl hh
  exact (rn_ret hi4 (Or.inl rfl) hh).2
theorem xv_145 {a : Nat} (hn : n0 ≤ 80) (hc : cc ≤ 6) (ha : a < 900) (x : pX h n0 cc f) {L1 L2 L3 L5 L6 L7 : Int32} (hw : WT h) (hg : g < 8) (hh : pm_run PT n fr lo 131 (145, [some (.ref 0), some (.int (nI g)), some (.int L2), some (.int L3), some (.int (nI a)), some (.int L5), some (.int L6), some (.int L7), none], [], h, 198, sl) = some R) : gR R h sl (cond (dgi f (a + 1) (min n0 55) (Int32.ofInt 0) (nI cc - Int32.ofInt 1)) (true, a + 2) (false, a + 1)) g L3 L5 L7 (f (a + 1) - 48) := by
  obtain ⟨⟨fs, a1, a2, a3⟩, ⟨gs, g1, g2, g3⟩, c1, rs, d1, d2⟩ := id x
  obtain ⟨n, hh⟩ := rn_i rfl rfl rfl rfl hh
  obtain ⟨n, hh⟩ := rn_i rfl rfl rfl rfl hh
  obtain ⟨n, hh⟩ := rn_gfo (g := 0) rfl rfl (by decide) a1 a2 hh
  obtain ⟨n, hh⟩ := rn_i rfl rfl rfl rfl hh
  obtain ⟨n, hh⟩ := rn_i rfl rfl rfl rfl hh
  have e1 : nI a + Int32.ofInt 1 = nI (a + 1) := (Int32.ofNat_add a 1).symm
  have hh : pm_run PT n fr lo 131 (156, [some (.ref 0), some (.int (nI g)), some (.int L2), some (.int L3), some (.int (nI a + Int32.ofInt 1)), some (.int L5), some (.int L6), some (.int L7), none], [.int (nI 55), .int (nI a + Int32.ofInt 1), .ref 1], h, 198, sl) = some R := hh
  rw [e1] at hh
  obtain ⟨n, fr', lo', r1, hr1, hh⟩ := rn_call (w := 0) (t := 81) rfl rfl hh
  have er := dgA_run (l := 55) hn (by decide) (by omega) x hr1
  subst er
  have hh : pm_run PT n fr lo 131 (159, [some (.ref 0), some (.int (nI g)), some (.int L2), some (.int L3), some (.int (nI (a + 1))), some (.int L5), some (.int L6), some (.int L7), none], [.int (dgA f n0 (a + 1) 55)], h, 198, sl) = some R := hh
  obtain ⟨n, hh⟩ := rn_i rfl rfl rfl rfl hh
  obtain ⟨n, hh⟩ := rn_i rfl rfl rfl rfl hh
  obtain ⟨n, hh⟩ := rn_gfo (g := 2) rfl rfl (by decide) a1 a3 hh
  obtain ⟨n, hh⟩ := rn_i rfl rfl rfl rfl hh
  obtain ⟨n, fr', lo', r1, hr1, hh⟩ := rn_call (w := 0) (t := 23) rfl rfl hh
  have er := ic_run hc d1 d2 hr1
  subst er
  have hh : pm_run PT n fr lo 131 (170, [some (.ref 0), some (.int (nI g)), some (.int L2), some (.int L3), some (.int (nI (a + 1))), some (.int L5), some (.int L6), some (.int L7), some (.int (dgA f n0 (a + 1) 55))], [.int (cond (decide (0 ≤ (dgA f n0 (a + 1) 55).toInt ∧ (dgA f n0 (a + 1) 55).toInt < (cc : Int))) 1 0)], h, 198, sl) = some R := hh
  have ed : decide (0 ≤ (dgA f n0 (a + 1) 55).toInt ∧ (dgA f n0 (a + 1) 55).toInt < (cc : Int)) = dgi f (a + 1) (min n0 55) (Int32.ofInt 0) (nI cc - Int32.ofInt 1) := by
    rw [dgi_rng (by omega) (cc_m1 hc)]
    cases hd : dg f (a + 1) (min n0 55) with
    | false =>
      rw [dgA_no hd, show (Int32.ofInt (-1)).toInt = -1 by decide, decide_eq_false (by omega)]
      rfl
    | true =>
      obtain ⟨v1, v2⟩ := dg_val hd
      rw [dgA_yes hd, Bool.true_and, Bool.eq_iff_iff, decide_eq_true_iff, decide_eq_true_iff]
      omega
  rw [ed] at hh
  obtain ⟨n, hh⟩ := rn_if (cc := .ne) (off := 8) (t := 178) rfl rfl hh
  cases hi : dgi f (a + 1) (min n0 55) (Int32.ofInt 0) (nI cc - Int32.ofInt 1) with
  | false =>
    rw [hi] at hh
    have hh : pm_run PT n fr lo 131 (173, [some (.ref 0), some (.int (nI g)), some (.int L2), some (.int L3), some (.int (nI (a + 1))), some (.int L5), some (.int L6), some (.int L7), some (.int (dgA f n0 (a + 1) 55))], [], h, 198, sl) = some R := hh
    exact xv_no rfl rfl rfl rfl hh
  | true =>
    rw [hi] at hh
    have hh : pm_run PT n fr lo 131 (178, [some (.ref 0), some (.int (nI g)), some (.int L2), some (.int L3), some (.int (nI (a + 1))), some (.int L5), some (.int L6), some (.int L7), some (.int (dgA f n0 (a + 1) 55))], [], h, 198, sl) = some R := hh
    have hd : dg f (a + 1) (min n0 55) = true := by
      rw [dgi_rng (by omega) (cc_m1 hc), Bool.and_eq_true] at hi
      exact hi.1
    rw [dgA_yes hd] at hh
    obtain ⟨e, -, -⟩ := w131_ok (q := (0, 0, 0)) (cc := 0) (gc := 0) hw hg (by omega) hh
    exact e
theorem xv_119 (hn : n0 ≤ 80) (hc : cc ≤ 6) (ha : a < 800) (x : pX h n0 cc f) (hw : WT h) (hg : g < 8) (hh : pm_run PT n fr lo 131 (119, [some (.ref 0), some (.int (nI g)), some (.int L2), some (.int L3), some (.int (nI a)), some (.int (L5)), some (.int (L6)), none, none], [], h, 198, sl) = some R) : gR R h sl (rgE f (min n0 55) cc (a + 1)) g L3 L5 (f (a + 1) - 48) (f (a + 2) - 48) := by
  obtain ⟨⟨fs, a1, a2, a3⟩, -⟩ := id x
  obtain ⟨n, hh⟩ := rn_i rfl rfl rfl rfl hh
  obtain ⟨n, hh⟩ := rn_i rfl rfl rfl rfl hh
  obtain ⟨n, hh⟩ := rn_gfo (g := 0) rfl rfl (by decide) a1 a2 hh
  obtain ⟨n, hh⟩ := rn_i rfl rfl rfl rfl hh
  obtain ⟨n, hh⟩ := rn_i rfl rfl rfl rfl hh
  have e1 : nI a + Int32.ofInt 1 = nI (a + 1) := (Int32.ofNat_add a 1).symm
  have hh : pm_run PT n fr lo 131 (130, [some (.ref 0), some (.int (nI g)), some (.int L2), some (.int L3), some (.int (nI a + Int32.ofInt 1)), some (.int (L5)), some (.int (L6)), none, none], [.int (nI 55), .int (nI a + Int32.ofInt 1), .ref 1], h, 198, sl) = some R := hh
  rw [e1] at hh
  obtain ⟨n, fr', lo', r1, hr1, hh⟩ := rn_call (w := 0) (t := 81) rfl rfl hh
  have er := dgA_run (l := 55) hn (by decide) (by omega) x hr1
  subst er
  have hh : pm_run PT n fr lo 131 (133, [some (.ref 0), some (.int (nI g)), some (.int L2), some (.int L3), some (.int (nI (a + 1))), some (.int (L5)), some (.int (L6)), none, none], [.int (dgA f n0 (a + 1) 55)], h, 198, sl) = some R := hh
  obtain ⟨n, hh⟩ := rn_i rfl rfl rfl rfl hh
  obtain ⟨n, hh⟩ := rn_i rfl rfl rfl rfl hh
  obtain ⟨n, hh⟩ := rn_if (cc := .ge) (off := 8) (t := 145) rfl rfl hh
  unfold rgE
  cases hd : dg f (a + 1) (min n0 55) with
  | false =>
    rw [dgA_no hd, show pm_cmp .ge (Int32.ofInt (-1)) 0 = false by decide] at hh
    have hh : pm_run PT n fr lo 131 (140, [some (.ref 0), some (.int (nI g)), some (.int L2), some (.int L3), some (.int (nI (a + 1))), some (.int (L5)), some (.int (L6)), some (.int (Int32.ofInt (-1))), none], [], h, 198, sl) = some R := hh
    exact xv_no rfl rfl rfl rfl hh
  | true =>
    obtain ⟨v1, v2⟩ := dg_val hd
    rw [dgA_yes hd, ge0_val v1] at hh
    simp only [cond_true]
    have hh : pm_run PT n fr lo 131 (145, [some (.ref 0), some (.int (nI g)), some (.int L2), some (.int L3), some (.int (nI (a + 1))), some (.int (L5)), some (.int (L6)), some (.int (f (a + 1) - 48)), none], [], h, 198, sl) = some R := hh
    exact xv_145 (L1 := L2) hn hc (by omega) x hw hg hh
theorem xv_95 (hn : n0 ≤ 80) (hc : cc ≤ 6) (ha : a < 700) (x : pX h n0 cc f) (hw : WT h) (hg : g < 8) (hh : pm_run PT n fr lo 131 (95, [some (.ref 0), some (.int (nI g)), some (.int L2), some (.int L3), some (.int (nI a)), some (.int (L5)), some (.int (L6)), none, none], [], h, 198, sl) = some R) : gR R h sl (rgC f (min n0 55) cc (a + 1)) g L3 L5 (f (a + 2) - 48) (f (a + 3) - 48) := by
  obtain ⟨⟨fs, a1, a2, a3⟩, -⟩ := id x
  obtain ⟨n, hh⟩ := rn_i rfl rfl rfl rfl hh
  obtain ⟨n, hh⟩ := rn_i rfl rfl rfl rfl hh
  obtain ⟨n, hh⟩ := rn_gfo (g := 0) rfl rfl (by decide) a1 a2 hh
  obtain ⟨n, hh⟩ := rn_i rfl rfl rfl rfl hh
  obtain ⟨n, hh⟩ := rn_i rfl rfl rfl rfl hh
  have e1 : nI a + Int32.ofInt 1 = nI (a + 1) := (Int32.ofNat_add a 1).symm
  have hh : pm_run PT n fr lo 131 (106, [some (.ref 0), some (.int (nI g)), some (.int L2), some (.int L3), some (.int (nI a + Int32.ofInt 1)), some (.int (L5)), some (.int (L6)), none, none], [.int (nI 55), .int (nI a + Int32.ofInt 1), .ref 1], h, 198, sl) = some R := hh
  rw [e1] at hh
  obtain ⟨n, fr', lo', r1, hr1, hh⟩ := rn_call (w := 0) (t := 80) rfl rfl hh
  have er := sgA_run (l := 55) hn (by decide) (by omega) x hr1
  subst er
  have hh : pm_run PT n fr lo 131 (109, [some (.ref 0), some (.int (nI g)), some (.int L2), some (.int L3), some (.int (nI (a + 1))), some (.int (L5)), some (.int (L6)), none, none], [.int (sgA f n0 (a + 1) 55)], h, 198, sl) = some R := hh
  obtain ⟨n, hh⟩ := rn_i rfl rfl rfl rfl hh
  obtain ⟨n, hh⟩ := rn_icmp (cc := .eq) (off := 8) (t := 119) rfl rfl hh
  have hh : pm_run PT n fr lo 131 (cond (pm_cmp .eq (sgA f n0 (a + 1) 55) 44) 119 114, [some (.ref 0), some (.int (nI g)), some (.int L2), some (.int L3), some (.int (nI (a + 1))), some (.int (L5)), some (.int (L6)), none, none], [], h, 198, sl) = some R := hh
  have es : pm_cmp .eq (sgA f n0 (a + 1) 55) 44 = decide (a + 1 < min n0 55 ∧ f (a + 1) = 44) := by
    unfold sgA
    by_cases q : a + 1 < min n0 55
    · rw [decide_eq_true q]
      show decide (f (a + 1) = 44) = _
      rw [Bool.eq_iff_iff, decide_eq_true_iff, decide_eq_true_iff]
      exact ⟨fun e => ⟨q, e⟩, fun e => e.2⟩
    · rw [decide_eq_false q, decide_eq_false (fun e => q e.1)]
      show pm_cmp .eq (Int32.ofInt (-1)) 44 = false
      decide
  rw [es] at hh
  unfold rgC
  cases v : decide (a + 1 < min n0 55 ∧ f (a + 1) = 44) with
  | false =>
    rw [v] at hh
    exact xv_no rfl rfl rfl rfl hh
  | true =>
    rw [v] at hh
    simp only [cond_true]
    exact xv_119 hn hc (by omega) x hw hg hh
theorem xv_85 {v : Int32} (hn : n0 ≤ 80) (hc : cc ≤ 6) (ha : a < 700) (x : pX h n0 cc f) (hw : WT h) (hg : g < 8) (hh : pm_run PT n fr lo 131 (85, [some (.ref 0), some (.int (nI g)), some (.int L2), some (.int L3), some (.int (nI a)), some (.int (v)), some (.int (L6)), none, none], [], h, 198, sl) = some R) : gR R h sl (rgW f (min n0 55) cc (a + 1, v)) g L3 v (f (a + 2) - 48) (f (a + 3) - 48) := by
  obtain ⟨n, hh⟩ := rn_i rfl rfl rfl rfl hh
  obtain ⟨n, hh⟩ := rn_if (cc := .ne) (off := 8) (t := 95) rfl rfl hh
  unfold rgW
  dsimp only
  by_cases z : v = 0
  · rw [show pm_cmp .ne v 0 = false from decide_eq_false (fun q => q z)] at hh
    rw [decide_eq_true z]
    simp only [cond_true]
    have hh : pm_run PT n fr lo 131 (90, [some (.ref 0), some (.int (nI g)), some (.int L2), some (.int L3), some (.int (nI a)), some (.int (v)), some (.int (L6)), none, none], [], h, 198, sl) = some R := hh
    exact xv_no rfl rfl rfl rfl hh
  · rw [show pm_cmp .ne v 0 = true from decide_eq_true z] at hh
    rw [decide_eq_false z]
    simp only [cond_false]
    exact xv_95 hn hc ha x hw hg hh
theorem xv_24 (hn : n0 ≤ 80) (hc : cc ≤ 6) (hp : p < 600) (x : pX h n0 cc f) (hw : WT h) (hg : g < 8) (hh : pm_run PT n fr lo 131 (24, [some (.ref 0), some (.int (nI g)), some (.int (nI p)), some (.int L3), none, none, none, none, none], [], h, 198, sl) = some R) : gR R h sl (cond (dg f (p + 1) (min n0 55)) (rgW f (min n0 55) cc (nbr f (min n0 55) 2 (p + 1) 0)) (false, p + 1)) g L3 (nbr f (min n0 55) 2 (p + 1) 0).2 (f ((nbr f (min n0 55) 2 (p + 1) 0).1 + 1) - 48) (f ((nbr f (min n0 55) 2 (p + 1) 0).1 + 2) - 48) := by
  obtain ⟨⟨fs, a1, a2, a3⟩, -⟩ := id x
  obtain ⟨n, hh⟩ := rn_i rfl rfl rfl rfl hh
  obtain ⟨n, hh⟩ := rn_i rfl rfl rfl rfl hh
  obtain ⟨n, hh⟩ := rn_i rfl rfl rfl rfl hh
  obtain ⟨n, hh⟩ := rn_i rfl rfl rfl rfl hh
  obtain ⟨n, hh⟩ := rn_i rfl rfl rfl rfl hh
  obtain ⟨n, hh⟩ := rn_gfo (g := 0) rfl rfl (by decide) a1 a2 hh
  obtain ⟨n, hh⟩ := rn_i rfl rfl rfl rfl hh
  obtain ⟨n, hh⟩ := rn_i rfl rfl rfl rfl hh
  have e1 : nI p + Int32.ofInt 1 = nI (p + 1) := (Int32.ofNat_add p 1).symm
  have hh : pm_run PT n fr lo 131 (37, [some (.ref 0), some (.int (nI g)), some (.int (nI p)), some (.int L3), some (.int (nI p + Int32.ofInt 1)), none, none, none, none], [.int (nI 55), .int (nI p + Int32.ofInt 1), .ref 1], h, 198, sl) = some R := hh
  rw [e1] at hh
  obtain ⟨n, fr', lo', r1, hr1, hh⟩ := rn_call (w := 0) (t := 81) rfl rfl hh
  have er := dgA_run (l := 55) hn (by decide) (by omega) x hr1
  subst er
  have hh : pm_run PT n fr lo 131 (40, [some (.ref 0), some (.int (nI g)), some (.int (nI p)), some (.int L3), some (.int (nI (p + 1))), none, none, none, none], [.int (dgA f n0 (p + 1) 55)], h, 198, sl) = some R := hh
  obtain ⟨n, hh⟩ := rn_i rfl rfl rfl rfl hh
  obtain ⟨n, hh⟩ := rn_i rfl rfl rfl rfl hh
  obtain ⟨n, hh⟩ := rn_if (cc := .ge) (off := 8) (t := 52) rfl rfl hh
  cases hd : dg f (p + 1) (min n0 55) with
  | false =>
    rw [dgA_no hd, show pm_cmp .ge (Int32.ofInt (-1)) 0 = false by decide] at hh
    have hh : pm_run PT n fr lo 131 (47, [some (.ref 0), some (.int (nI g)), some (.int (nI p)), some (.int L3), some (.int (nI (p + 1))), some (.int (Int32.ofInt (-1))), none, none, none], [], h, 198, sl) = some R := hh
    exact xv_no rfl rfl rfl rfl hh
  | true =>
    obtain ⟨v1, v2⟩ := dg_val hd
    rw [dgA_yes hd, ge0_val v1] at hh
    simp only [cond_true]
    have en : nbr f (min n0 55) 2 (p + 1) 0 = nbr f (min n0 55) 1 (p + 2) (f (p + 1) - 48) := by
      rw [show nbr f (min n0 55) 2 (p + 1) 0 = nbr f (min n0 55) (1 + 1) (p + 1) 0 from rfl, nbr_gt _ hd]
      have ez : (10 * 0 + f (p + 1) - 48 : Int32) = f (p + 1) - 48 := by simp
      rw [ez]
    rw [en]
    have hh : pm_run PT n fr lo 131 (52, [some (.ref 0), some (.int (nI g)), some (.int (nI p)), some (.int L3), some (.int (nI (p + 1))), some (.int (f (p + 1) - 48)), none, none, none], [], h, 198, sl) = some R := hh
    obtain ⟨n, hh⟩ := rn_i rfl rfl rfl rfl hh
    obtain ⟨n, hh⟩ := rn_gfo (g := 0) rfl rfl (by decide) a1 a2 hh
    obtain ⟨n, hh⟩ := rn_i rfl rfl rfl rfl hh
    obtain ⟨n, hh⟩ := rn_i rfl rfl rfl rfl hh
    obtain ⟨n, hh⟩ := rn_i rfl rfl rfl rfl hh
    obtain ⟨n, hh⟩ := rn_i rfl rfl rfl rfl hh
    have e2 : nI (p + 1) + Int32.ofInt 1 = nI (p + 2) := (Int32.ofNat_add (p + 1) 1).symm
    have hh : pm_run PT n fr lo 131 (62, [some (.ref 0), some (.int (nI g)), some (.int (nI p)), some (.int L3), some (.int (nI (p + 1))), some (.int (f (p + 1) - 48)), none, none, none], [.int (nI 55), .int (nI (p + 1) + Int32.ofInt 1), .ref 1], h, 198, sl) = some R := hh
    rw [e2] at hh
    obtain ⟨n, fr', lo', r1, hr1, hh⟩ := rn_call (w := 0) (t := 81) rfl rfl hh
    have er := dgA_run (l := 55) hn (by decide) (by omega) x hr1
    subst er
    have hh : pm_run PT n fr lo 131 (65, [some (.ref 0), some (.int (nI g)), some (.int (nI p)), some (.int L3), some (.int (nI (p + 1))), some (.int (f (p + 1) - 48)), none, none, none], [.int (dgA f n0 (p + 2) 55)], h, 198, sl) = some R := hh
    obtain ⟨n, hh⟩ := rn_i rfl rfl rfl rfl hh
    obtain ⟨n, hh⟩ := rn_i rfl rfl rfl rfl hh
    obtain ⟨n, hh⟩ := rn_if (cc := .lt) (off := 16) (t := 85) rfl rfl hh
    show gR R h sl (rgW f (min n0 55) cc (nbr f (min n0 55) (0 + 1) (p + 2) (f (p + 1) - 48))) g L3 (nbr f (min n0 55) (0 + 1) (p + 2) (f (p + 1) - 48)).2 (f ((nbr f (min n0 55) (0 + 1) (p + 2) (f (p + 1) - 48)).1 + 1) - 48) (f ((nbr f (min n0 55) (0 + 1) (p + 2) (f (p + 1) - 48)).1 + 2) - 48)
    cases he : dg f (p + 2) (min n0 55) with
    | false =>
      rw [dgA_no he, show pm_cmp .lt (Int32.ofInt (-1)) 0 = true by decide] at hh
      have eb : nbr f (min n0 55) (0 + 1) (p + 2) (f (p + 1) - 48) = (p + 1 + 1, f (p + 1) - 48) := by
        unfold nbr
        rw [he]
        rfl
      rw [eb]
      exact xv_85 hn hc (by omega) x hw hg hh
    | true =>
      obtain ⟨w1, w2⟩ := dg_val he
      rw [dgA_yes he, lt0_val w1] at hh
      have eb : nbr f (min n0 55) (0 + 1) (p + 2) (f (p + 1) - 48) = (p + 2 + 1, nI 10 * (f (p + 1) - 48) + (f (p + 2) - 48)) := by
        rw [nbr_gt _ he]
        show (p + 2 + 1, 10 * (f (p + 1) - 48) + f (p + 2) - 48) = _
        rw [Int32.sub_eq_add_neg (10 * (f (p + 1) - 48) + f (p + 2)), Int32.sub_eq_add_neg (f (p + 2)), Int32.add_assoc]
        rfl
      rw [eb]
      obtain ⟨n, hh⟩ := rn_i rfl rfl rfl rfl hh
      obtain ⟨n, hh⟩ := rn_i rfl rfl rfl rfl hh
      obtain ⟨n, hh⟩ := rn_i rfl rfl rfl rfl hh
      obtain ⟨n, hh⟩ := rn_i rfl rfl rfl rfl hh
      obtain ⟨n, hh⟩ := rn_i rfl rfl rfl rfl hh
      obtain ⟨n, hh⟩ := rn_i rfl rfl rfl rfl hh
      obtain ⟨n, hh⟩ := rn_i rfl rfl rfl rfl hh
      have e3 : nI (p + 1) + Int32.ofInt 1 = nI (p + 2) := (Int32.ofNat_add (p + 1) 1).symm
      have hh : pm_run PT n fr lo 131 (85, [some (.ref 0), some (.int (nI g)), some (.int (nI p)), some (.int L3), some (.int (nI (p + 1) + Int32.ofInt 1)), some (.int (nI 10 * (f (p + 1) - 48) + (f (p + 2) - 48))), some (.int (f (p + 2) - 48)), none, none], [], h, 198, sl) = some R := hh
      rw [e3] at hh
      exact xv_85 hn hc (by omega) x hw hg hh
theorem xv_run (hn : n0 ≤ 80) (hc : cc ≤ 6) (hp : p < 600) (x : pX h n0 cc f) (hw : WT h) (hg : g < 8) (hh : pm_run PT n fr lo 131 (0, pm_l0 [.ref 0, .int (nI g), .int (nI p)] 9, [], h, 198, sl) = some R) : gR R h sl (rgL f (min n0 55) cc p) g (f p - 48) (nbr f (min n0 55) 2 (p + 1) 0).2 (f ((nbr f (min n0 55) 2 (p + 1) 0).1 + 1) - 48) (f ((nbr f (min n0 55) 2 (p + 1) 0).1 + 2) - 48) := by
  obtain ⟨⟨fs, a1, a2, a3⟩, -⟩ := id x
  obtain ⟨n, hh⟩ := rn_i rfl rfl rfl rfl hh
  obtain ⟨n, hh⟩ := rn_gfo (g := 0) rfl rfl (by decide) a1 a2 hh
  obtain ⟨n, hh⟩ := rn_i rfl rfl rfl rfl hh
  obtain ⟨n, hh⟩ := rn_i rfl rfl rfl rfl hh
  obtain ⟨n, fr', lo', r1, hr1, hh⟩ := rn_call (w := 0) (t := 81) rfl rfl hh
  have er := dgA_run (l := 55) hn (by decide) (by omega) x hr1
  subst er
  have hh : pm_run PT n fr lo 131 (10, [some (.ref 0), some (.int (nI g)), some (.int (nI p)), none, none, none, none, none, none], [.int (dgA f n0 p 55)], h, 198, sl) = some R := hh
  have no : ∀ (n : Nat) (y : Int32), pm_run PT n fr lo 131 (20, [some (.ref 0), some (.int (nI g)), some (.int (nI p)), some (.int y), none, none, none, none, none], [], h, 198, sl) = some R → R = (some (.int (Int32.ofInt (-1) - nI p)), h, 198, sl) := by
    intro n y hh
    obtain ⟨n, hh⟩ := rn_i rfl rfl rfl rfl hh
    obtain ⟨n, hh⟩ := rn_i rfl rfl rfl rfl hh
    obtain ⟨n, hh⟩ := rn_i rfl rfl rfl rfl hh
    exact (rn_ret rfl (Or.inl rfl) hh).2
  obtain ⟨n, hh⟩ := rn_i rfl rfl rfl rfl hh
  obtain ⟨n, hh⟩ := rn_i rfl rfl rfl rfl hh
  obtain ⟨n, hh⟩ := rn_if (cc := .lt) (off := 8) (t := 20) rfl rfl hh
  unfold rgL
  rw [dgi_rng (c := 5) (by decide) (by decide)]
  cases hd : dg f p (min n0 55) with
  | false =>
    rw [dgA_no hd, show pm_cmp .lt (Int32.ofInt (-1)) 0 = true by decide] at hh
    show gR R h sl (cond (false && _) _ (false, p)) g _ _ _ _
    exact no n _ hh
  | true =>
    obtain ⟨v1, v2⟩ := dg_val hd
    rw [dgA_yes hd, lt0_val v1] at hh
    have hh : pm_run PT n fr lo 131 (15, [some (.ref 0), some (.int (nI g)), some (.int (nI p)), some (.int (f p - 48)), none, none, none, none, none], [], h, 198, sl) = some R := hh
    obtain ⟨n, hh⟩ := rn_i rfl rfl rfl rfl hh
    obtain ⟨n, hh⟩ := rn_i rfl rfl rfl rfl hh
    obtain ⟨n, hh⟩ := rn_icmp (cc := .lt) (off := 7) (t := 24) rfl rfl hh
    have el : pm_cmp .lt (f p - 48) (Int32.ofInt 5) = decide ((f p - 48).toInt < ((5 : Nat) : Int)) := by
      simp only [pm_cmp]
      rw [Bool.eq_iff_iff, decide_eq_true_iff, decide_eq_true_iff, Int32.lt_iff_toInt_lt, show (Int32.ofInt 5).toInt = ((5 : Nat) : Int) by decide]
    rw [el] at hh
    rw [Bool.true_and]
    cases y : decide ((f p - 48).toInt < ((5 : Nat) : Int)) with
    | false =>
      rw [y] at hh
      simp only [cond_false]
      exact no n _ hh
    | true =>
      rw [y] at hh
      simp only [cond_true]
      exact xv_24 hn hc hp x hw hg hh
theorem gW_ar : Ar (gW h g k w e d) 9 = upd (Ar h 9) g k ∧ Ar (gW h g k w e d) 10 = upd (Ar h 10) g w ∧ Ar (gW h g k w e d) 11 = upd (Ar h 11) g e ∧ Ar (gW h g k w e d) 17 = upd (Ar h 17) g d ∧ Ar (gW h g k w e d) 18 = upd (Ar h 18) g (shl (nI 1) d) := by
  unfold gW
  refine ⟨?_, ?_, ?_, ?_, Ar_s⟩
  · rw [Ar_n (by decide), Ar_n (by decide), Ar_n (by decide), Ar_n (by decide), Ar_s]
  · rw [Ar_n (by decide), Ar_n (by decide), Ar_n (by decide), Ar_s]
  · rw [Ar_n (by decide), Ar_n (by decide), Ar_s]
  · rw [Ar_n (by decide), Ar_s]
theorem gW_ne {i : Nat} (h1 : i ≠ 9) (h2 : i ≠ 10) (h3 : i ≠ 11) (h4 : i ≠ 17) (h5 : i ≠ 18) : gW h g k w e d i = h i := by
  unfold gW
  rw [asR_ne h5, asR_ne h4, asR_ne h3, asR_ne h2, asR_ne h1]
theorem gW_wt (hw : WT h) : WT (gW h g k w e d) := wt_as rfl (wt_as rfl (wt_as rfl (wt_as rfl (wt_as rfl hw))))
theorem pX_e {h' : pm_H} (h0 : h' 0 = h 0) (h1 : h' 1 = h 1) (h2 : h' 2 = h 2) (h5 : h' 5 = h 5) (x : pX h n0 cc f) : pX h' n0 cc f := by
  obtain ⟨⟨fs, a1, a2⟩, ⟨gs, b1, b2⟩, c1, rs, d1, d2⟩ := x
  exact ⟨⟨fs, h0.trans a1, a2⟩, ⟨gs, h1.trans b1, b2⟩, h2.trans c1, rs, h5.trans d1, d2⟩
/-- what a LINE that begins at p tells of the gift g -/
def gvL (f : Nat → Int32) (t p : Nat) (h : pm_H) (g : Nat) : Prop := Ar h 9 g = f p - 48 ∧ Ar h 10 g = (nbr f t 2 (p + 1) 0).2 ∧ Ar h 11 g = f ((nbr f t 2 (p + 1) 0).1 + 1) - 48 ∧ Ar h 17 g = f ((nbr f t 2 (p + 1) 0).1 + 2) - 48 ∧ Ar h 18 g = shl (nI 1) (f ((nbr f t 2 (p + 1) 0).1 + 2) - 48)
/-- where the LINES begin -/
def gps (f : Nat → Int32) (t cc : Nat) : Nat → Nat
  | 0 => 0
  | r + 1 => (rgL f t cc (gps f t cc r)).2 + 1
def gvX (g0 h : pm_H) (n0 cc gc : Nat) (f : Nat → Int32) (ln : Nat) : Prop := (pX h n0 cc f ∧ rG h (.int (nI gc)) ∧ WT h) ∧ (∀ i, i ≠ 9 → i ≠ 10 → i ≠ 11 → i ≠ 17 → i ≠ 18 → h i = g0 i) ∧ (∀ j, j < gc → Ar h 9 j = Ar g0 9 j ∧ Ar h 10 j = Ar g0 10 j ∧ Ar h 11 j = Ar g0 11 j ∧ Ar h 17 j = Ar g0 17 j ∧ Ar h 18 j = Ar g0 18 j) ∧ ∀ r, r < ln → (rgL f (min n0 55) cc (gps f (min n0 55) cc r)).1 = true ∧ gvL f (min n0 55) (gps f (min n0 55) cc r) h (gc + r)
theorem gvX_0 (x : gvX g0 h n0 cc gc f ln) : gvX g0 h n0 cc gc f 0 := ⟨x.1, x.2.1, x.2.2.1, fun r hr => by omega⟩
theorem gvX_s (x : gvX g0 h n0 cc gc f ln) (hy : (rgL f (min n0 55) cc (gps f (min n0 55) cc ln)).1 = true) : gvX g0 (gW h (gc + ln) (f (gps f (min n0 55) cc ln) - 48) (nbr f (min n0 55) 2 (gps f (min n0 55) cc ln + 1) 0).2 (f ((nbr f (min n0 55) 2 (gps f (min n0 55) cc ln + 1) 0).1 + 1) - 48) (f ((nbr f (min n0 55) 2 (gps f (min n0 55) cc ln + 1) 0).1 + 2) - 48)) n0 cc gc f (ln + 1) := by
  obtain ⟨⟨x1, ⟨rs, x2, x3⟩, x4⟩, x5, x6, x7⟩ := x
  obtain ⟨p, hp⟩ : ∃ p, p = gps f (min n0 55) cc ln := ⟨_, rfl⟩
  rw [← hp]
  have hA := gW_ar (h := h) (g := gc + ln) (k := f p - 48) (w := (nbr f (min n0 55) 2 (p + 1) 0).2) (e := f ((nbr f (min n0 55) 2 (p + 1) 0).1 + 1) - 48) (d := f ((nbr f (min n0 55) 2 (p + 1) 0).1 + 2) - 48)
  have hN := fun i h1 h2 h3 h4 h5 => gW_ne (h := h) (g := gc + ln) (k := f p - 48) (w := (nbr f (min n0 55) 2 (p + 1) 0).2) (e := f ((nbr f (min n0 55) 2 (p + 1) 0).1 + 1) - 48) (d := f ((nbr f (min n0 55) 2 (p + 1) 0).1 + 2) - 48) (i := i) h1 h2 h3 h4 h5
  have hW := gW_wt (g := gc + ln) (k := f p - 48) (w := (nbr f (min n0 55) 2 (p + 1) 0).2) (e := f ((nbr f (min n0 55) 2 (p + 1) 0).1 + 1) - 48) (d := f ((nbr f (min n0 55) 2 (p + 1) 0).1 + 2) - 48) x4
  generalize gW h (gc + ln) (f p - 48) (nbr f (min n0 55) 2 (p + 1) 0).2 (f ((nbr f (min n0 55) 2 (p + 1) 0).1 + 1) - 48) (f ((nbr f (min n0 55) 2 (p + 1) 0).1 + 2) - 48) = h' at *
  obtain ⟨a9, a10, a11, a17, a18⟩ := hA
  refine ⟨⟨pX_e (hN 0 (by decide) (by decide) (by decide) (by decide) (by decide)) (hN 1 (by decide) (by decide) (by decide) (by decide) (by decide)) (hN 2 (by decide) (by decide) (by decide) (by decide) (by decide)) (hN 5 (by decide) (by decide) (by decide) (by decide) (by decide)) x1, ⟨rs, (hN 5 (by decide) (by decide) (by decide) (by decide) (by decide)).trans x2, x3⟩, hW⟩, fun i h1 h2 h3 h4 h5 => (hN i h1 h2 h3 h4 h5).trans (x5 i h1 h2 h3 h4 h5), fun j hj => ?_, fun r hr => ?_⟩
  · have nj : j ≠ gc + ln := by omega
    rw [a9, a10, a11, a17, a18]
    unfold upd
    rw [if_neg nj, if_neg nj, if_neg nj, if_neg nj, if_neg nj]
    exact x6 j hj
  · by_cases z : r = ln
    · rw [z]
      refine ⟨hy, ?_⟩
      unfold gvL
      rw [a9, a10, a11, a17, a18, ← hp]
      unfold upd
      rw [if_pos rfl, if_pos rfl, if_pos rfl, if_pos rfl, if_pos rfl]
      exact ⟨rfl, rfl, rfl, rfl, rfl⟩
    · obtain ⟨y1, y2⟩ := x7 r (by omega)
      refine ⟨y1, ?_⟩
      unfold gvL at y2 ⊢
      rw [a9, a10, a11, a17, a18]
      unfold upd
      have nj : gc + r ≠ gc + ln := by omega
      rw [if_neg nj, if_neg nj, if_neg nj, if_neg nj, if_neg nj]
      exact y2
/-- what stands when the reader ends: nothing of the gifts that there are is changed; all LINES, if they are so many -/
def gP (g0 : pm_H) (R : pm_Rs) (n0 cc gc : Nat) (f : Nat → Int32) (sl : Nat) : Prop := R.2.2 = (198, sl) ∧ gvX g0 R.2.1 n0 cc gc f 0 ∧ ∀ N, 1 ≤ N → N < 10 → R.1 = some (.int (nI N)) → gvX g0 R.2.1 n0 cc gc f N
theorem gP_no {b : Nat} (hb : b < 100) (x : gvX g0 h n0 cc gc f ln) (e : R = (some (.int (Int32.ofInt (-1) - nI b)), h, 198, sl)) : gP g0 R n0 cc gc f sl := by
  rw [e]
  refine ⟨rfl, gvX_0 x, fun N h1 h2 e2 => ?_⟩
  have e2 : Int32.ofInt (-1) - nI b = nI N := Value.int.inj (Option.some.inj e2)
  exact absurd e2 (m1_nN b hb N h2)
theorem gxs_loop (hn : n0 ≤ 80) (hc : cc ≤ 6) : ∀ (k ln n : Nat) (h : pm_H) (x3 : Option Value), gc + ln + k = 9 → 0 < k → gps f (min n0 55) cc ln ≤ min n0 55 → gvX g0 h n0 cc gc f ln → pm_run PT n fr lo 130 (16, [some (.ref 0), some (.int (nI (gps f (min n0 55) cc ln))), some (.int (nI ln)), x3], [], h, 198, sl) = some R → gP g0 R n0 cc gc f sl := by
  intro k
  induction k with
  | zero => intro ln n h x3 hk h0; exact absurd h0 (by omega)
  | succ k ih =>
    intro ln n h x3 hk h0 hp X hh
    obtain ⟨x, xg, xw⟩ := X.1
    obtain ⟨⟨fs, a1, a2, a3⟩, ⟨gs, g1, g2, g3⟩, c1, -⟩ := id x
    obtain ⟨rs, d1, d2⟩ := id xg
    have hs : gps f (min n0 55) cc (ln + 1) = (rgL f (min n0 55) cc (gps f (min n0 55) cc ln)).2 + 1 := rfl
    have hX := fun hy => gvX_s X hy
    have hle := rgL_le (tp := f) (cc := cc) hp
    obtain ⟨p, ep⟩ : ∃ p, p = gps f (min n0 55) cc ln := ⟨_, rfl⟩
    rw [← ep] at hp hh hs hX hle
    obtain ⟨n, hh⟩ := rn_i rfl rfl rfl rfl hh
    obtain ⟨n, hh⟩ := rn_i rfl rfl rfl rfl hh
    obtain ⟨n, hh⟩ := rn_icmp (cc := .ge) (off := 79) (t := 98) rfl rfl hh
    have ec : pm_cmp .ge (nI ln) (Int8.ofInt 8).toInt32 = decide (8 ≤ ln) := hI_ge (a := ln) (b := 8) (by omega) (by omega)
    rw [ec] at hh
    by_cases z6 : 8 ≤ ln
    · rw [decide_eq_true z6] at hh
      obtain ⟨n, hh⟩ := rn_i rfl rfl rfl rfl hh
      obtain ⟨n, hh⟩ := rn_i rfl rfl rfl rfl hh
      obtain ⟨n, hh⟩ := rn_i rfl rfl rfl rfl hh
      exact gP_no (b := p) (by omega) X (rn_ret rfl (Or.inl rfl) hh).2
    · rw [decide_eq_false z6] at hh
      obtain ⟨n, hh⟩ := rn_i rfl rfl rfl rfl hh
      obtain ⟨n, hh⟩ := rn_gfo (g := 2) rfl rfl (by decide) a1 a3 hh
      obtain ⟨n, hh⟩ := rn_gfo (g := 1) rfl rfl (by decide) d1 d2 hh
      obtain ⟨n, hh⟩ := rn_i rfl rfl rfl rfl hh
      obtain ⟨n, hh⟩ := rn_i rfl rfl rfl rfl hh
      obtain ⟨n, hh⟩ := rn_i rfl rfl rfl rfl hh
      obtain ⟨n, hh⟩ := rn_i rfl rfl rfl rfl hh
      obtain ⟨n, hh⟩ := rn_i rfl rfl rfl rfl hh
      obtain ⟨n, hh⟩ := rn_icmp (cc := .lt) (off := 7) (t := 42) rfl rfl hh
      have ea : nI gc + nI ln = nI (gc + ln) := nI_add gc ln
      have hh : pm_run PT n fr lo 130 (cond (pm_cmp .lt (nI gc + nI ln) (nI 8)) 42 38, [some (.ref 0), some (.int (nI p)), some (.int (nI ln)), some (.int (nI gc + nI ln))], [], h, 198, sl) = some R := hh
      rw [ea, hI_lt (by omega) (by omega)] at hh
      by_cases z : gc + ln = 8
      · rw [decide_eq_false (by omega)] at hh
        obtain ⟨n, hh⟩ := rn_i rfl rfl rfl rfl hh
        obtain ⟨n, hh⟩ := rn_i rfl rfl rfl rfl hh
        obtain ⟨n, hh⟩ := rn_i rfl rfl rfl rfl hh
        exact gP_no (b := p) (by omega) X (rn_ret rfl (Or.inl rfl) hh).2
      · rw [decide_eq_true (by omega)] at hh
        have hh : pm_run PT n fr lo 130 (42, [some (.ref 0), some (.int (nI p)), some (.int (nI ln)), some (.int (nI (gc + ln)))], [], h, 198, sl) = some R := hh
        obtain ⟨n, hh⟩ := rn_i rfl rfl rfl rfl hh
        obtain ⟨n, hh⟩ := rn_i rfl rfl rfl rfl hh
        obtain ⟨n, hh⟩ := rn_i rfl rfl rfl rfl hh
        obtain ⟨n, fr', lo', r1, hr1, hh⟩ := rn_call (w := 0) (t := 131) rfl rfl hh
        have hv : gR r1 h sl (rgL f (min n0 55) cc p) (gc + ln) (f p - 48) (nbr f (min n0 55) 2 (p + 1) 0).2 (f ((nbr f (min n0 55) 2 (p + 1) 0).1 + 1) - 48) (f ((nbr f (min n0 55) 2 (p + 1) 0).1 + 2) - 48) := xv_run hn hc (by omega) x xw (by omega) hr1
        unfold gR at hv
        generalize gW h (gc + ln) (f p - 48) (nbr f (min n0 55) 2 (p + 1) 0).2 (f ((nbr f (min n0 55) 2 (p + 1) 0).1 + 1) - 48) (f ((nbr f (min n0 55) 2 (p + 1) 0).1 + 2) - 48) = h' at hX hv
        have hv : r1 = (some (.int (xgA (rgL f (min n0 55) cc p))), cond (rgL f (min n0 55) cc p).1 h' h, 198, sl) := hv
        rw [hv] at hh
        have hh : pm_run PT n fr lo 130 (48, [some (.ref 0), some (.int (nI p)), some (.int (nI ln)), some (.int (nI (gc + ln)))], [.int (xgA (rgL f (min n0 55) cc p))], cond (rgL f (min n0 55) cc p).1 h' h, 198, sl) = some R := hh
        generalize rgL f (min n0 55) cc p = w at *
        have y1 := neg_ge (a := w.2) (by omega)
        unfold xgA at hh
        cases y : w.1 with
        | false =>
          rw [y, cond_false, cond_false] at hh
          obtain ⟨n, hh⟩ := rn_i rfl rfl rfl rfl hh
          obtain ⟨n, hh⟩ := rn_i rfl rfl rfl rfl hh
          obtain ⟨n, hh⟩ := rn_if (cc := .ge) (off := 5) (t := 55) rfl rfl hh
          rw [y1] at hh
          obtain ⟨n, hh⟩ := rn_i rfl rfl rfl rfl hh
          exact gP_no (b := w.2) (by omega) X (rn_ret rfl (Or.inl rfl) hh).2
        | true =>
          rw [y, cond_true, cond_true] at hh
          have hX := hX y
          generalize w.2 = b at *
          obtain ⟨x', -⟩ := id hX.1
          obtain ⟨⟨fs, a1, a2, a3⟩, ⟨gs, g1, g2, g3⟩, -⟩ := id x'
          obtain ⟨n, hh⟩ := rn_i rfl rfl rfl rfl hh
          obtain ⟨n, hh⟩ := rn_i rfl rfl rfl rfl hh
          obtain ⟨n, hh⟩ := rn_if (cc := .ge) (off := 5) (t := 55) rfl rfl hh
          have eg : pm_cmp .ge (nI b) 0 = true := by
            have := hI_ge (a := b) (b := 0) (by omega) (by omega)
            rw [decide_eq_true (Nat.zero_le b)] at this
            exact this
          rw [eg] at hh
          obtain ⟨n, hh⟩ := rn_i rfl rfl rfl rfl hh
          obtain ⟨n, hh⟩ := rn_i rfl rfl rfl rfl hh
          obtain ⟨n, hh⟩ := rn_gfo (g := 0) rfl rfl (by decide) a1 a2 hh
          obtain ⟨n, hh⟩ := rn_gfo (g := 1) rfl rfl (by decide) g1 g3 hh
          obtain ⟨n, hh⟩ := rn_icmp (cc := .ne) (off := 7) (t := 70) rfl rfl hh
          rw [hI_ne (by omega) (by omega)] at hh
          by_cases u : b = n0
          · rw [decide_eq_false (fun q => q u)] at hh
            obtain ⟨n, hh⟩ := rn_i rfl rfl rfl rfl hh
            obtain ⟨n, hh⟩ := rn_i rfl rfl rfl rfl hh
            obtain ⟨n, hh⟩ := rn_i rfl rfl rfl rfl hh
            have e1 : nI ln + Int32.ofInt 1 = nI (ln + 1) := (Int32.ofNat_add ln 1).symm
            have e := (rn_ret rfl (Or.inl rfl) hh).2
            rw [e]
            refine ⟨rfl, gvX_0 hX, fun N h1 h2 e2 => ?_⟩
            have e2 : nI ln + Int32.ofInt 1 = nI N := Value.int.inj (Option.some.inj e2)
            rw [e1] at e2
            have e3 : ln + 1 = N := nI_ij (by omega) (by omega) e2
            rw [← e3]
            exact hX
          · rw [decide_eq_true u] at hh
            have hh : pm_run PT n fr lo 130 (70, [some (.ref 0), some (.int (nI b)), some (.int (nI ln)), some (.int (nI (gc + ln)))], [], h', 198, sl) = some R := hh
            obtain ⟨n, hh⟩ := rn_i rfl rfl rfl rfl hh
            obtain ⟨n, hh⟩ := rn_gfo (g := 0) rfl rfl (by decide) a1 a2 hh
            obtain ⟨n, hh⟩ := rn_i rfl rfl rfl rfl hh
            obtain ⟨n, hh⟩ := rn_i rfl rfl rfl rfl hh
            obtain ⟨n, fr', lo', r1, hr1, hh⟩ := rn_call (w := 0) (t := 80) rfl rfl hh
            have er := sgA_run (l := 55) hn (by decide) (by omega) x' hr1
            subst er
            have hh : pm_run PT n fr lo 130 (80, [some (.ref 0), some (.int (nI b)), some (.int (nI ln)), some (.int (nI (gc + ln)))], [.int (sgA f n0 b 55)], h', 198, sl) = some R := hh
            obtain ⟨n, hh⟩ := rn_i rfl rfl rfl rfl hh
            obtain ⟨n, hh⟩ := rn_icmp (cc := .eq) (off := 7) (t := 89) rfl rfl hh
            have hh : pm_run PT n fr lo 130 (cond (pm_cmp .eq (sgA f n0 b 55) 59) 89 85, [some (.ref 0), some (.int (nI b)), some (.int (nI ln)), some (.int (nI (gc + ln)))], [], h', 198, sl) = some R := hh
            have es : pm_cmp .eq (sgA f n0 b 55) 59 = decide (b < min n0 55 ∧ f b = 59) := by
              unfold sgA
              by_cases q : b < min n0 55
              · rw [decide_eq_true q]
                show decide (f b = 59) = _
                rw [Bool.eq_iff_iff, decide_eq_true_iff, decide_eq_true_iff]
                exact ⟨fun e => ⟨q, e⟩, fun e => e.2⟩
              · rw [decide_eq_false q, decide_eq_false (fun e => q e.1)]
                show pm_cmp .eq (Int32.ofInt (-1)) 59 = false
                decide
            rw [es] at hh
            cases v : decide (b < min n0 55 ∧ f b = 59) with
            | false =>
              rw [v] at hh
              obtain ⟨n, hh⟩ := rn_i rfl rfl rfl rfl hh
              obtain ⟨n, hh⟩ := rn_i rfl rfl rfl rfl hh
              obtain ⟨n, hh⟩ := rn_i rfl rfl rfl rfl hh
              exact gP_no (b := b) (by omega) hX (rn_ret rfl (Or.inl rfl) hh).2
            | true =>
              rw [v] at hh
              have vv := of_decide_eq_true v
              obtain ⟨n, hh⟩ := rn_i rfl rfl rfl rfl hh
              obtain ⟨n, hh⟩ := rn_i rfl rfl rfl rfl hh
              obtain ⟨n, hh⟩ := rn_i rfl rfl rfl rfl hh
              have hh : pm_run PT n fr lo 130 (16, [some (.ref 0), some (.int (nI b + Int32.ofInt 1)), some (.int (nI ln + Int32.ofInt 1)), some (.int (nI (gc + ln)))], [], h', 198, sl) = some R := hh
              rw [show nI b + Int32.ofInt 1 = nI (b + 1) from (Int32.ofNat_add b 1).symm, show nI ln + Int32.ofInt 1 = nI (ln + 1) from (Int32.ofNat_add ln 1).symm, ← hs] at hh
              exact ih (ln + 1) n h' _ (by omega) (by omega) (by omega) hX hh
theorem gxs_run (hn : n0 ≤ 80) (hc : cc ≤ 6) (hg : gc ≤ 8) (X : gvX g0 h n0 cc gc f 0) (hh : pm_run PT n fr lo 130 (0, pm_l0 [.ref 0] 4, [], h, 198, sl) = some R) : gP g0 R n0 cc gc f sl := by
  obtain ⟨x, -⟩ := id X.1
  obtain ⟨⟨fs, a1, a2, a3⟩, ⟨gs, g1, g2, g3⟩, -⟩ := id x
  obtain ⟨n, hh⟩ := rn_i rfl rfl rfl rfl hh
  obtain ⟨n, hh⟩ := rn_gfo (g := 0) rfl rfl (by decide) a1 a2 hh
  obtain ⟨n, hh⟩ := rn_gfo (g := 1) rfl rfl (by decide) g1 g3 hh
  obtain ⟨n, hh⟩ := rn_if (cc := .ne) (off := 5) (t := 12) rfl rfl hh
  cases z : pm_cmp .ne (nI n0) 0 with
  | false =>
    rw [z] at hh
    obtain ⟨n, hh⟩ := rn_i rfl rfl rfl rfl hh
    have e := (rn_ret rfl (Or.inl rfl) hh).2
    rw [e]
    refine ⟨rfl, X, fun N h1 h2 e2 => ?_⟩
    have e2 : nI 0 = nI N := Value.int.inj (Option.some.inj e2)
    have e3 : 0 = N := nI_ij (by omega) (by omega) e2
    omega
  | true =>
    rw [z] at hh
    have hh : pm_run PT n fr lo 130 (12, [some (.ref 0), none, none, none], [], h, 198, sl) = some R := hh
    obtain ⟨n, hh⟩ := rn_i rfl rfl rfl rfl hh
    obtain ⟨n, hh⟩ := rn_i rfl rfl rfl rfl hh
    obtain ⟨n, hh⟩ := rn_i rfl rfl rfl rfl hh
    obtain ⟨n, hh⟩ := rn_i rfl rfl rfl rfl hh
    have hh : pm_run PT n fr lo 130 (16, [some (.ref 0), some (.int (nI (gps f (min n0 55) cc 0))), some (.int (nI 0)), none], [], h, 198, sl) = some R := hh
    exact gxs_loop hn hc (9 - gc) 0 n h none (by omega) (by omega) (Nat.zero_le _) X hh
end GVX
