/-! runs told exactly, written by ext.py -/
section EF
def v136 (q : QT) (cc gc : Nat) (d0 : Nat → Int32) (g : Nat) (c : Nat) : Int32 := cond (decide (g < gc)) (cond (decide (c < cc)) (cond (pm_cmp .ne ((d0) g) (nI c)) (nI 0) (Int32.ofInt (-2))) (Int32.ofInt (-1))) (Int32.ofInt (-1))
theorem v136_ok {n fr lo sl cc gc : Nat} {q : QT} {h : pm_H} {R : pm_Rs} {g : Nat} {c : Nat} (hw : HC q cc gc h) (h_g : g < 10000) (h_c : c < 10000) (hh : pm_run PT n fr lo 136 (0, pm_l0 [.ref 0, .int (nI g), .int (nI c)] 3, [], h, 198, sl) = some R) : R = (some (.int (v136 q cc gc (Ar h 17) g c)), h, 198, sl) := by
  have hcc := hw.cb
  have hgc := hw.gb
  have hzr := hw.zr
  obtain ⟨n, hh⟩ := rn_i rfl rfl rfl rfl hh
  have hh : pm_run PT n fr lo 136 (1, [some (.ref 0), some (.int (nI g)), some (.int (nI c))], [.ref 0], h, 198, sl) = some R := hh
  obtain ⟨n, hh⟩ := rn_gr hw.wt rfl rfl (by decide) rfl (by decide) (show _ = some (2, ((5 : Nat) : Int), 1) from rfl) rfl hh
  obtain ⟨n, hh⟩ := rn_i rfl rfl rfl rfl hh
  have hh : pm_run PT n fr lo 136 (5, [some (.ref 0), some (.int (nI g)), some (.int (nI c))], [.int (nI g), .ref 5], h, 198, sl) = some R := hh
  obtain ⟨n, fr1, lo1, r1, hh1, hh⟩ := rn_call (w := 0) (t := 25) rfl rfl hh
  have er1 := en_xg hgc (hc_rG hw) hh1
  rw [cB_n (by omega)] at er1
  subst er1
  have hh : pm_run PT n fr lo 136 (8, [some (.ref 0), some (.int (nI g)), some (.int (nI c))], [.int (cond (decide (g < gc)) 1 0)], h, 198, sl) = some R := hh
  obtain ⟨n, hh⟩ := en_zn (cc := .eq) (off := 14) (t := 22) (b := !(decide (g < gc))) eb_eq rfl rfl hh
  cases z2 : decide (g < gc) with
  | true =>
    have hh := en_nt z2 hh
    have hh : pm_run PT n fr lo 136 (11, [some (.ref 0), some (.int (nI g)), some (.int (nI c))], [], h, 198, sl) = some R := hh
    have y3 := of_decide_eq_true z2
    obtain ⟨n, hh⟩ := rn_i rfl rfl rfl rfl hh
    have hh : pm_run PT n fr lo 136 (12, [some (.ref 0), some (.int (nI g)), some (.int (nI c))], [.ref 0], h, 198, sl) = some R := hh
    obtain ⟨n, hh⟩ := rn_gr hw.wt rfl rfl (by decide) rfl (by decide) (show _ = some (2, ((5 : Nat) : Int), 1) from rfl) rfl hh
    obtain ⟨n, hh⟩ := rn_i rfl rfl rfl rfl hh
    have hh : pm_run PT n fr lo 136 (16, [some (.ref 0), some (.int (nI g)), some (.int (nI c))], [.int (nI c), .ref 5], h, 198, sl) = some R := hh
    obtain ⟨n, fr1, lo1, r1, hh1, hh⟩ := rn_call (w := 0) (t := 23) rfl rfl hh
    have er4 := xi_run hcc (hc_rC hw) hh1
    rw [cB_n (by omega)] at er4
    subst er4
    have hh : pm_run PT n fr lo 136 (19, [some (.ref 0), some (.int (nI g)), some (.int (nI c))], [.int (cond (decide (c < cc)) 1 0)], h, 198, sl) = some R := hh
    obtain ⟨n, hh⟩ := en_zn (cc := .ne) (off := 5) (t := 24) (b := decide (c < cc)) eb_ne rfl rfl hh
    cases z5 : decide (c < cc) with
    | true =>
      have hh := en_t z5 hh
      have hh : pm_run PT n fr lo 136 (24, [some (.ref 0), some (.int (nI g)), some (.int (nI c))], [], h, 198, sl) = some R := hh
      have y6 := of_decide_eq_true z5
      obtain ⟨n, hh⟩ := rn_i rfl rfl rfl rfl hh
      have hh : pm_run PT n fr lo 136 (25, [some (.ref 0), some (.int (nI g)), some (.int (nI c))], [.ref 0], h, 198, sl) = some R := hh
      obtain ⟨n, hh⟩ := rn_gr hw.wt rfl rfl (by decide) rfl (by decide) (show _ = some (2, ((13 : Nat) : Int), 1) from rfl) rfl hh
      have hh : pm_run PT n fr lo 136 (28, [some (.ref 0), some (.int (nI g)), some (.int (nI c))], [.ref 13], h, 198, sl) = some R := hh
      obtain ⟨n, hh⟩ := rn_gr hw.wt rfl rfl (by decide) rfl (by decide) (show _ = some (2, ((17 : Nat) : Int), 1) from rfl) rfl hh
      obtain ⟨n, hh⟩ := rn_i rfl rfl rfl rfl hh
      have hh : pm_run PT n fr lo 136 (32, [some (.ref 0), some (.int (nI g)), some (.int (nI c))], [.int (nI g), .ref 17], h, 198, sl) = some R := hh
      obtain ⟨n, hx7, hh⟩ := en_lu (t := g) (f := Ar h 17) (w := (Ar h 17) g) (nI_clamp (by omega)) hw.wt rfl (by decide) rfl (by decide) rfl (fun _ => rfl) hh
      obtain ⟨n, hh⟩ := rn_i rfl rfl rfl rfl hh
      have hh : pm_run PT n fr lo 136 (34, [some (.ref 0), some (.int (nI g)), some (.int (nI c))], [.int (nI c), .int ((Ar h 17) g)], h, 198, sl) = some R := hh
      obtain ⟨n, hh⟩ := en_cn (cc := .ne) (off := 8) (t := 42) (b := pm_cmp .ne ((Ar h 17) g) (nI c)) rfl rfl rfl hh
      have hj9 : ∃ mJ, pm_run PT mJ fr lo 136 (cond (pm_cmp .ne ((Ar h 17) g) (nI c)) (43, [some (.ref 0), some (.int (nI g)), some (.int (nI c))], [.int (nI 0)], h, 198, sl) (43, [some (.ref 0), some (.int (nI g)), some (.int (nI c))], [.int (Int32.ofInt (-2))], h, 198, sl)) = some R := en_J (fun z8 => by
          have hh := en_t z8 hh
          have hh : pm_run PT n fr lo 136 (42, [some (.ref 0), some (.int (nI g)), some (.int (nI c))], [], h, 198, sl) = some R := hh
          obtain ⟨n, hh⟩ := rn_i rfl rfl rfl rfl hh
          exact ⟨n, hh⟩) (fun z8 => by
          have hh := en_f z8 hh
          have hh : pm_run PT n fr lo 136 (37, [some (.ref 0), some (.int (nI g)), some (.int (nI c))], [], h, 198, sl) = some R := hh
          obtain ⟨n, hh⟩ := rn_i rfl rfl rfl rfl hh
          obtain ⟨n, hh⟩ := rn_i rfl rfl rfl rfl hh
          exact ⟨n, hh⟩)
      obtain ⟨n, hh⟩ := hj9
      rw [show (cond (pm_cmp .ne ((Ar h 17) g) (nI c)) (43, [some (.ref 0), some (.int (nI g)), some (.int (nI c))], [.int (nI 0)], h, 198, sl) (43, [some (.ref 0), some (.int (nI g)), some (.int (nI c))], [.int (Int32.ofInt (-2))], h, 198, sl) : pm_St) = (43, [some (.ref 0), some (.int (nI g)), some (.int (nI c))], [.int (cond (pm_cmp .ne ((Ar h 17) g) (nI c)) (nI 0) (Int32.ofInt (-2)))], h, 198, sl) from by cases (pm_cmp .ne ((Ar h 17) g) (nI c)) <;> rfl] at hh
      have hh : pm_run PT n fr lo 136 (43, [some (.ref 0), some (.int (nI g)), some (.int (nI c))], [.int (cond (pm_cmp .ne ((Ar h 17) g) (nI c)) (nI 0) (Int32.ofInt (-2)))], h, 198, sl) = some R := hh
      have er10 : R = (some (.int (cond (pm_cmp .ne ((Ar h 17) g) (nI c)) (nI 0) (Int32.ofInt (-2)))), h, 198, sl) := (rn_ret rfl (Or.inl rfl) hh).2
      have ed : v136 q cc gc (Ar h 17) g c = cond (pm_cmp .ne ((Ar h 17) g) (nI c)) (nI 0) (Int32.ofInt (-2)) := (ct z2).trans ((ct z5).trans rfl)
      rw [ed]
      exact er10
    | false =>
      have hh := en_f z5 hh
      have hh : pm_run PT n fr lo 136 (22, [some (.ref 0), some (.int (nI g)), some (.int (nI c))], [], h, 198, sl) = some R := hh
      have y11 := of_decide_eq_false z5
      obtain ⟨n, hh⟩ := rn_i rfl rfl rfl rfl hh
      have hh : pm_run PT n fr lo 136 (23, [some (.ref 0), some (.int (nI g)), some (.int (nI c))], [.int (Int32.ofInt (-1))], h, 198, sl) = some R := hh
      have er12 : R = (some (.int (Int32.ofInt (-1))), h, 198, sl) := (rn_ret rfl (Or.inl rfl) hh).2
      have ed : v136 q cc gc (Ar h 17) g c = (Int32.ofInt (-1)) := (ct z2).trans ((cf z5).trans rfl)
      rw [ed]
      exact er12
  | false =>
    have hh := en_nf z2 hh
    have hh : pm_run PT n fr lo 136 (22, [some (.ref 0), some (.int (nI g)), some (.int (nI c))], [], h, 198, sl) = some R := hh
    have y13 := of_decide_eq_false z2
    obtain ⟨n, hh⟩ := rn_i rfl rfl rfl rfl hh
    have hh : pm_run PT n fr lo 136 (23, [some (.ref 0), some (.int (nI g)), some (.int (nI c))], [.int (Int32.ofInt (-1))], h, 198, sl) = some R := hh
    have er14 : R = (some (.int (Int32.ofInt (-1))), h, 198, sl) := (rn_ret rfl (Or.inl rfl) hh).2
    have ed : v136 q cc gc (Ar h 17) g c = (Int32.ofInt (-1)) := (cf z2).trans rfl
    rw [ed]
    exact er14
def v96 (q : QT) (cc gc : Nat) (h : pm_H) (fi : Nat) (si : Nat) (g : Nat) (c : Nat) : Int32 × pm_H := cond (pm_cmp .ge (v136 q cc gc (Ar h 17) g c) 0) (cond (decide (15 ≤ si)) ((Ar (v40 q cc gc ((v39 q cc gc (fset (cp73 h (27 + 6 * ((fi + si) % 16)) 13) 25 1 (.int (nI ((fi + 1) % 16)))) g c).2) g c ((v39 q cc gc (fset (cp73 h (27 + 6 * ((fi + si) % 16)) 13) 25 1 (.int (nI ((fi + 1) % 16)))) g c).1)) 15) (c * 6 + (((Ar h 17) g).toNatClampNeg)), v56 q cc gc (v40 q cc gc ((v39 q cc gc (fset (cp73 h (27 + 6 * ((fi + si) % 16)) 13) 25 1 (.int (nI ((fi + 1) % 16)))) g c).2) g c ((v39 q cc gc (fset (cp73 h (27 + 6 * ((fi + si) % 16)) 13) 25 1 (.int (nI ((fi + 1) % 16)))) g c).1)) (((v39 q cc gc (fset (cp73 h (27 + 6 * ((fi + si) % 16)) 13) 25 1 (.int (nI ((fi + 1) % 16)))) g c).1).toInt64) ((cond (cond (v75 q cc gc (Ar h 18) g c) true false) 1 0 : Int32).toInt64)) ((Ar (v40 q cc gc ((v39 q cc gc (fset (cp73 h (27 + 6 * ((fi + si) % 16)) 13) 25 2 (.int (nI (si + 1)))) g c).2) g c ((v39 q cc gc (fset (cp73 h (27 + 6 * ((fi + si) % 16)) 13) 25 2 (.int (nI (si + 1)))) g c).1)) 15) (c * 6 + (((Ar h 17) g).toNatClampNeg)), v56 q cc gc (v40 q cc gc ((v39 q cc gc (fset (cp73 h (27 + 6 * ((fi + si) % 16)) 13) 25 2 (.int (nI (si + 1)))) g c).2) g c ((v39 q cc gc (fset (cp73 h (27 + 6 * ((fi + si) % 16)) 13) 25 2 (.int (nI (si + 1)))) g c).1)) (((v39 q cc gc (fset (cp73 h (27 + 6 * ((fi + si) % 16)) 13) 25 2 (.int (nI (si + 1)))) g c).1).toInt64) ((cond (cond (v75 q cc gc (Ar h 18) g c) true false) 1 0 : Int32).toInt64))) (v136 q cc gc (Ar h 17) g c, h)
theorem v96_ok {n fr lo sl cc gc : Nat} {q : QT} {h : pm_H} {R : pm_Rs} {fi : Nat} {si : Nat} {g : Nat} {c : Nat} (hw : HC q cc gc h) (h_g : g < 10000) (h_c : c < 10000) (hfi : fi < 16) (hsi : si ≤ 15) (e1 : Fi h 25 1 = nI fi) (e2 : Fi h 25 2 = nI si) (hol : NA h 17 0 8 6) (hh : pm_run PT n fr lo 96 (0, pm_l0 [.ref 0, .int (nI g), .int (nI c)] 7, [], h, 198, sl) = some R) : R = (some (.int ((v96 q cc gc h fi si g c).1)), (v96 q cc gc h fi si g c).2, 198, sl) ∧ HC q cc gc ((v96 q cc gc h fi si g c).2) ∧ frm [3, 4, 12, 15, 16, 17, 18, 25, 27, 28, 29, 30, 31, 32, 33, 34, 35, 36, 37, 38, 39, 40, 41, 42, 43, 44, 45, 46, 47, 48, 49, 50, 51, 52, 53, 54, 55, 56, 57, 58, 59, 60, 61, 62, 63, 64, 65, 66, 67, 68, 69, 70, 71, 72, 73, 74, 75, 76, 77, 78, 79, 80, 81, 82, 83, 84, 85, 86, 87, 88, 89, 90, 91, 92, 93, 94, 95, 96, 97, 98, 99, 100, 101, 102, 103, 104, 105, 106, 107, 108, 109, 110, 111, 112, 113, 114, 115, 116, 117, 118, 119, 120, 121, 122, 142, 144, 145, 147] [(3, 1), (25, 1), (25, 2), (27, 5), (27, 6), (33, 5), (33, 6), (39, 5), (39, 6), (45, 5), (45, 6), (51, 5), (51, 6), (57, 5), (57, 6), (63, 5), (63, 6), (69, 5), (69, 6), (75, 5), (75, 6), (81, 5), (81, 6), (87, 5), (87, 6), (93, 5), (93, 6), (99, 5), (99, 6), (105, 5), (105, 6), (111, 5), (111, 6), (117, 5), (117, 6), (142, 3), (145, 3)] h ((v96 q cc gc h fi si g c).2) := by
  have hcc := hw.cb
  have hgc := hw.gb
  have hzr := hw.zr
  obtain ⟨n, hh⟩ := rn_i rfl rfl rfl rfl hh
  obtain ⟨n, hh⟩ := rn_i rfl rfl rfl rfl hh
  obtain ⟨n, hh⟩ := rn_i rfl rfl rfl rfl hh
  have hh : pm_run PT n fr lo 96 (3, [some (.ref 0), some (.int (nI g)), some (.int (nI c)), none, none, none, none], [.int (nI c), .int (nI g), .ref 0], h, 198, sl) = some R := hh
  obtain ⟨n, fr1, lo1, r1, hh1, hh⟩ := rn_call (w := 0) (t := 136) rfl rfl hh
  have er1 := v136_ok (g := g) (c := c) hw (by omega) (by omega) hh1
  subst er1
  obtain ⟨n, hh⟩ := rn_i rfl rfl rfl rfl hh
  obtain ⟨n, hh⟩ := rn_i rfl rfl rfl rfl hh
  have hh : pm_run PT n fr lo 96 (8, [some (.ref 0), some (.int (nI g)), some (.int (nI c)), some (.int (v136 q cc gc (Ar h 17) g c)), none, none, none], [.int (v136 q cc gc (Ar h 17) g c)], h, 198, sl) = some R := hh
  obtain ⟨n, hh⟩ := en_zn (cc := .ge) (off := 5) (t := 13) (b := pm_cmp .ge (v136 q cc gc (Ar h 17) g c) 0) rfl rfl rfl hh
  cases z2 : pm_cmp .ge (v136 q cc gc (Ar h 17) g c) 0 with
  | true =>
    have hh := en_t z2 hh
    have hh : pm_run PT n fr lo 96 (13, [some (.ref 0), some (.int (nI g)), some (.int (nI c)), some (.int (v136 q cc gc (Ar h 17) g c)), none, none, none], [], h, 198, sl) = some R := hh
    obtain ⟨n, hh⟩ := rn_i rfl rfl rfl rfl hh
    have hh : pm_run PT n fr lo 96 (14, [some (.ref 0), some (.int (nI g)), some (.int (nI c)), some (.int (v136 q cc gc (Ar h 17) g c)), none, none, none], [.ref 0], h, 198, sl) = some R := hh
    obtain ⟨n, hh⟩ := rn_gr hw.wt rfl rfl (by decide) rfl (by decide) (show _ = some (2, ((25 : Nat) : Int), 1) from rfl) rfl hh
    obtain ⟨n, hh⟩ := rn_i rfl rfl rfl rfl hh
    have hh : pm_run PT n fr lo 96 (18, [some (.ref 0), some (.int (nI g)), some (.int (nI c)), some (.int (v136 q cc gc (Ar h 17) g c)), none, none, none], [.ref 0, .ref 25], h, 198, sl) = some R := hh
    obtain ⟨n, hh⟩ := rn_gr hw.wt rfl rfl (by decide) rfl (by decide) (show _ = some (2, ((13 : Nat) : Int), 1) from rfl) rfl hh
    have hh : pm_run PT n fr lo 96 (21, [some (.ref 0), some (.int (nI g)), some (.int (nI c)), some (.int (v136 q cc gc (Ar h 17) g c)), none, none, none], [.ref 13, .ref 25], h, 198, sl) = some R := hh
    obtain ⟨n, fr1, lo1, r1, hh1, hh⟩ := rn_call (w := 0) (t := 18) rfl rfl hh
    have hh1 : pm_run PT n fr1 lo1 18 (0, [some (.ref 25), some (.ref 13)], [], h, 198, sl) = some r1 := hh1
    obtain ⟨n1, hh1⟩ := rn_i rfl rfl rfl rfl hh1
    obtain ⟨n1, hh1⟩ := rn_i rfl rfl rfl rfl hh1
    have hh1 : pm_run PT n1 fr1 lo1 18 (2, [some (.ref 25), some (.ref 13)], [.ref 13, .ref 25], h, 198, sl) = some r1 := hh1
    obtain ⟨n1, fr2, lo2, r2, hh2, hh1⟩ := rn_call (w := 0) (t := 16) rfl rfl hh1
    have hh2 : pm_run PT n1 fr2 lo2 16 (0, [some (.ref 25), some (.ref 13)], [], h, 198, sl) = some r2 := hh2
    obtain ⟨n2, hh2⟩ := rn_i rfl rfl rfl rfl hh2
    have hh2 : pm_run PT n2 fr2 lo2 16 (1, [some (.ref 25), some (.ref 13)], [.ref 25], h, 198, sl) = some r2 := hh2
    obtain ⟨n2, hh2⟩ := rn_gr hw.wt rfl rfl (by decide) rfl (by decide) (show _ = some (2, ((26 : Nat) : Int), 1) from rfl) rfl hh2
    obtain ⟨n2, hh2⟩ := rn_i rfl rfl rfl rfl hh2
    obtain ⟨n2, hh2⟩ := rn_i rfl rfl rfl rfl hh2
    have hh2 : pm_run PT n2 fr2 lo2 16 (6, [some (.ref 25), some (.ref 13)], [.ref 25, .ref 25, .ref 26], h, 198, sl) = some r2 := hh2
    obtain ⟨n2, hh2⟩ := rn_gi (x := nI si) hw.wt rfl rfl (by decide) rfl (by decide) rfl e2 hh2
    have hh2 : pm_run PT n2 fr2 lo2 16 (9, [some (.ref 25), some (.ref 13)], [.int (nI si), .ref 25, .ref 26], h, 198, sl) = some r2 := hh2
    obtain ⟨n2, fr3, lo3, r3, hh3, hh2⟩ := rn_call (w := 0) (t := 21) rfl rfl hh2
    have hh3 : pm_run PT n2 fr3 lo3 21 (0, [some (.ref 25), some (.int (nI si))], [], h, 198, sl) = some r3 := hh3
    obtain ⟨n3, hh3⟩ := rn_i rfl rfl rfl rfl hh3
    have hh3 : pm_run PT n3 fr3 lo3 21 (1, [some (.ref 25), some (.int (nI si))], [.ref 25], h, 198, sl) = some r3 := hh3
    obtain ⟨n3, hh3⟩ := rn_gi (x := nI fi) hw.wt rfl rfl (by decide) rfl (by decide) rfl e1 hh3
    obtain ⟨n3, hh3⟩ := rn_i rfl rfl rfl rfl hh3
    have hh3 : pm_run PT n3 fr3 lo3 21 (5, [some (.ref 25), some (.int (nI si))], [.int (nI si), .int (nI fi)], h, 198, sl) = some r3 := hh3
    obtain ⟨n3, hh3⟩ := en_add rfl hh3
    have hh3 : pm_run PT n3 fr3 lo3 21 (6, [some (.ref 25), some (.int (nI si))], [.int (nI (fi + si))], h, 198, sl) = some r3 := hh3
    obtain ⟨n3, hh3⟩ := rn_i rfl rfl rfl rfl hh3
    have hh3 : pm_run PT n3 fr3 lo3 21 (8, [some (.ref 25), some (.int (nI si))], [.int (nI 16), .int (nI (fi + si))], h, 198, sl) = some r3 := hh3
    obtain ⟨n3, hh3⟩ := en_r16 (x := fi + si) (by omega) rfl hh3
    have hh3 : pm_run PT n3 fr3 lo3 21 (9, [some (.ref 25), some (.int (nI si))], [.int (nI ((fi + si) % 16))], h, 198, sl) = some r3 := hh3
    have hh3 : pm_run PT n3 fr3 lo3 21 (9, [some (.ref 25), some (.int (nI si))], [.int (nI ((fi + si) % 16))], h, 198, sl) = some r3 := hh3
    have er3 : r3 = (some (.int (nI ((fi + si) % 16))), h, 198, sl) := (rn_ret rfl (Or.inl rfl) hh3).2
    subst er3
    have hh2 : pm_run PT n2 fr2 lo2 16 (12, [some (.ref 25), some (.ref 13)], [.int (nI ((fi + si) % 16)), .ref 26], h, 198, sl) = some r2 := hh2
    obtain ⟨n2, hx4, hh2⟩ := en_q26 (t := (fi + si) % 16) (by omega) hw.wt rfl hh2
    have hh2 : pm_run PT n2 fr2 lo2 16 (13, [some (.ref 25), some (.ref 13)], [.ref (27 + 6 * ((fi + si) % 16))], h, 198, sl) = some r2 := hh2
    obtain ⟨n2, hh2⟩ := rn_i rfl rfl rfl rfl hh2
    have hh2 : pm_run PT n2 fr2 lo2 16 (14, [some (.ref 25), some (.ref 13)], [.ref 13, .ref (27 + 6 * ((fi + si) % 16))], h, 198, sl) = some r2 := hh2
    obtain ⟨n2, fr3, lo3, r3, hh3, hh2⟩ := rn_call (w := 0) (t := 73) rfl rfl hh2
    obtain ⟨er5, hc6⟩ := cp73_ok (xst_27 (by omega)) rfl (by omega) hw hh3
    subst er5
    have er7 : r2 = (none, cp73 h (27 + 6 * ((fi + si) % 16)) 13, 198, sl) := rn_vret rfl rfl hh2
    subst er7
    obtain ⟨n1, hh1⟩ := rn_i rfl rfl rfl rfl hh1
    have hh1 : pm_run PT n1 fr1 lo1 18 (6, [some (.ref 25), some (.ref 13)], [.ref 25], cp73 h (27 + 6 * ((fi + si) % 16)) 13, 198, sl) = some r1 := hh1
    obtain ⟨n1, fr2, lo2, r2, hh2, hh1⟩ := rn_call (w := 0) (t := 17) rfl rfl hh1
    have hh2 : pm_run PT n1 fr2 lo2 17 (0, [some (.ref 25)], [], cp73 h (27 + 6 * ((fi + si) % 16)) 13, 198, sl) = some r2 := hh2
    obtain ⟨n2, hh2⟩ := rn_i rfl rfl rfl rfl hh2
    have hh2 : pm_run PT n2 fr2 lo2 17 (1, [some (.ref 25)], [.ref 25], cp73 h (27 + 6 * ((fi + si) % 16)) 13, 198, sl) = some r2 := hh2
    obtain ⟨n2, hh2⟩ := rn_gi (x := nI si) hc6.wt rfl rfl (by decide) rfl (by decide) rfl ((Fi_e (cp73_ne (by omega))).trans e2) hh2
    obtain ⟨n2, hh2⟩ := rn_i rfl rfl rfl rfl hh2
    have hh2 : pm_run PT n2 fr2 lo2 17 (6, [some (.ref 25)], [.int (nI 15), .int (nI si)], cp73 h (27 + 6 * ((fi + si) % 16)) 13, 198, sl) = some r2 := hh2
    obtain ⟨n2, hh2⟩ := en_cn (cc := .ge) (off := 16) (t := 22) (b := decide (15 ≤ si)) (hI_ge (by omega) (by omega)) rfl rfl hh2
    cases z8 : decide (15 ≤ si) with
    | true =>
      have hh2 := en_t z8 hh2
      have hh2 : pm_run PT n2 fr2 lo2 17 (22, [some (.ref 25)], [], cp73 h (27 + 6 * ((fi + si) % 16)) 13, 198, sl) = some r2 := hh2
      have y9 := of_decide_eq_true z8
      obtain ⟨n2, hh2⟩ := rn_i rfl rfl rfl rfl hh2
      obtain ⟨n2, hh2⟩ := rn_i rfl rfl rfl rfl hh2
      obtain ⟨n2, hh2⟩ := rn_i rfl rfl rfl rfl hh2
      have hh2 : pm_run PT n2 fr2 lo2 17 (25, [some (.ref 25)], [.int (nI 1), .ref 25, .ref 25], cp73 h (27 + 6 * ((fi + si) % 16)) 13, 198, sl) = some r2 := hh2
      obtain ⟨n2, fr3, lo3, r3, hh3, hh2⟩ := rn_call (w := 0) (t := 21) rfl rfl hh2
      have hh3 : pm_run PT n2 fr3 lo3 21 (0, [some (.ref 25), some (.int (nI 1))], [], cp73 h (27 + 6 * ((fi + si) % 16)) 13, 198, sl) = some r3 := hh3
      obtain ⟨n3, hh3⟩ := rn_i rfl rfl rfl rfl hh3
      have hh3 : pm_run PT n3 fr3 lo3 21 (1, [some (.ref 25), some (.int (nI 1))], [.ref 25], cp73 h (27 + 6 * ((fi + si) % 16)) 13, 198, sl) = some r3 := hh3
      obtain ⟨n3, hh3⟩ := rn_gi (x := nI fi) hc6.wt rfl rfl (by decide) rfl (by decide) rfl ((Fi_e (cp73_ne (by omega))).trans e1) hh3
      obtain ⟨n3, hh3⟩ := rn_i rfl rfl rfl rfl hh3
      have hh3 : pm_run PT n3 fr3 lo3 21 (5, [some (.ref 25), some (.int (nI 1))], [.int (nI 1), .int (nI fi)], cp73 h (27 + 6 * ((fi + si) % 16)) 13, 198, sl) = some r3 := hh3
      obtain ⟨n3, hh3⟩ := en_add rfl hh3
      have hh3 : pm_run PT n3 fr3 lo3 21 (6, [some (.ref 25), some (.int (nI 1))], [.int (nI (fi + 1))], cp73 h (27 + 6 * ((fi + si) % 16)) 13, 198, sl) = some r3 := hh3
      obtain ⟨n3, hh3⟩ := rn_i rfl rfl rfl rfl hh3
      have hh3 : pm_run PT n3 fr3 lo3 21 (8, [some (.ref 25), some (.int (nI 1))], [.int (nI 16), .int (nI (fi + 1))], cp73 h (27 + 6 * ((fi + si) % 16)) 13, 198, sl) = some r3 := hh3
      obtain ⟨n3, hh3⟩ := en_r16 (x := fi + 1) (by omega) rfl hh3
      have hh3 : pm_run PT n3 fr3 lo3 21 (9, [some (.ref 25), some (.int (nI 1))], [.int (nI ((fi + 1) % 16))], cp73 h (27 + 6 * ((fi + si) % 16)) 13, 198, sl) = some r3 := hh3
      have hh3 : pm_run PT n3 fr3 lo3 21 (9, [some (.ref 25), some (.int (nI 1))], [.int (nI ((fi + 1) % 16))], cp73 h (27 + 6 * ((fi + si) % 16)) 13, 198, sl) = some r3 := hh3
      have er10 : r3 = (some (.int (nI ((fi + 1) % 16))), cp73 h (27 + 6 * ((fi + si) % 16)) 13, 198, sl) := (rn_ret rfl (Or.inl rfl) hh3).2
      subst er10
      have hh2 : pm_run PT n2 fr2 lo2 17 (28, [some (.ref 25)], [.int (nI ((fi + 1) % 16)), .ref 25], cp73 h (27 + 6 * ((fi + si) % 16)) 13, 198, sl) = some r2 := hh2
      obtain ⟨n2, hh2⟩ := rn_pi hc6.wt rfl rfl (by decide) rfl (by decide) rfl hh2
      have er11 : r2 = (none, fset (cp73 h (27 + 6 * ((fi + si) % 16)) 13) 25 1 (.int (nI ((fi + 1) % 16))), 198, sl) := rn_vret rfl rfl hh2
      subst er11
      have er12 : r1 = (none, fset (cp73 h (27 + 6 * ((fi + si) % 16)) 13) 25 1 (.int (nI ((fi + 1) % 16))), 198, sl) := rn_vret rfl rfl hh1
      subst er12
      obtain ⟨n, hh⟩ := rn_i rfl rfl rfl rfl hh
      have hh : pm_run PT n fr lo 96 (25, [some (.ref 0), some (.int (nI g)), some (.int (nI c)), some (.int (v136 q cc gc (Ar h 17) g c)), none, none, none], [.ref 0], fset (cp73 h (27 + 6 * ((fi + si) % 16)) 13) 25 1 (.int (nI ((fi + 1) % 16))), 198, sl) = some R := hh
      obtain ⟨n, hh⟩ := rn_gr (hc_f rfl rfl (by decide) rfl hc6).wt rfl rfl (by decide) rfl (by decide) (show _ = some (2, ((13 : Nat) : Int), 1) from rfl) rfl hh
      have hh : pm_run PT n fr lo 96 (28, [some (.ref 0), some (.int (nI g)), some (.int (nI c)), some (.int (v136 q cc gc (Ar h 17) g c)), none, none, none], [.ref 13], fset (cp73 h (27 + 6 * ((fi + si) % 16)) 13) 25 1 (.int (nI ((fi + 1) % 16))), 198, sl) = some R := hh
      obtain ⟨n, hh⟩ := rn_gr (hc_f rfl rfl (by decide) rfl hc6).wt rfl rfl (by decide) rfl (by decide) (show _ = some (2, ((17 : Nat) : Int), 1) from rfl) rfl hh
      obtain ⟨n, hh⟩ := rn_i rfl rfl rfl rfl hh
      have hh : pm_run PT n fr lo 96 (32, [some (.ref 0), some (.int (nI g)), some (.int (nI c)), some (.int (v136 q cc gc (Ar h 17) g c)), none, none, none], [.int (nI g), .ref 17], fset (cp73 h (27 + 6 * ((fi + si) % 16)) 13) 25 1 (.int (nI ((fi + 1) % 16))), 198, sl) = some R := hh
      obtain ⟨n, hx13, hh⟩ := en_lu (t := g) (f := Ar h 17) (w := nI (((Ar h 17) g).toNatClampNeg)) (nI_clamp (by omega)) (hc_f rfl rfl (by decide) rfl hc6).wt rfl (by decide) rfl (by decide) (Ar_f.trans ((Ar_e (cp73_ne (by omega))).trans rfl)) (fun z => (hol _ (by omega) (by omega)).1) hh
      have hb14 := (hol g (by omega) (by omega)).2
      obtain ⟨n, hh⟩ := rn_i rfl rfl rfl rfl hh
      obtain ⟨n, hh⟩ := rn_i rfl rfl rfl rfl hh
      have hh : pm_run PT n fr lo 96 (36, [some (.ref 0), some (.int (nI g)), some (.int (nI c)), some (.int (v136 q cc gc (Ar h 17) g c)), some (.int (nI (((Ar h 17) g).toNatClampNeg))), none, none], [.ref 0], fset (cp73 h (27 + 6 * ((fi + si) % 16)) 13) 25 1 (.int (nI ((fi + 1) % 16))), 198, sl) = some R := hh
      obtain ⟨n, hh⟩ := rn_gr (hc_f rfl rfl (by decide) rfl hc6).wt rfl rfl (by decide) rfl (by decide) (show _ = some (2, ((5 : Nat) : Int), 1) from rfl) rfl hh
      obtain ⟨n, hh⟩ := rn_i rfl rfl rfl rfl hh
      have hh : pm_run PT n fr lo 96 (40, [some (.ref 0), some (.int (nI g)), some (.int (nI c)), some (.int (v136 q cc gc (Ar h 17) g c)), some (.int (nI (((Ar h 17) g).toNatClampNeg))), none, none], [.ref 0, .ref 5], fset (cp73 h (27 + 6 * ((fi + si) % 16)) 13) 25 1 (.int (nI ((fi + 1) % 16))), 198, sl) = some R := hh
      obtain ⟨n, hh⟩ := en_q (hc_f rfl rfl (by decide) rfl hc6) rfl rfl hh
      obtain ⟨n, hh⟩ := rn_i rfl rfl rfl rfl hh
      have hh : pm_run PT n fr lo 96 (44, [some (.ref 0), some (.int (nI g)), some (.int (nI c)), some (.int (v136 q cc gc (Ar h 17) g c)), some (.int (nI (((Ar h 17) g).toNatClampNeg))), none, none], [.ref 0, .ref q.1, .ref 5], fset (cp73 h (27 + 6 * ((fi + si) % 16)) 13) 25 1 (.int (nI ((fi + 1) % 16))), 198, sl) = some R := hh
      obtain ⟨n, hh⟩ := rn_gr (hc_f rfl rfl (by decide) rfl hc6).wt rfl rfl (by decide) rfl (by decide) (show _ = some (2, ((13 : Nat) : Int), 1) from rfl) rfl hh
      obtain ⟨n, hh⟩ := rn_i rfl rfl rfl rfl hh
      obtain ⟨n, hh⟩ := rn_i rfl rfl rfl rfl hh
      have hh : pm_run PT n fr lo 96 (49, [some (.ref 0), some (.int (nI g)), some (.int (nI c)), some (.int (v136 q cc gc (Ar h 17) g c)), some (.int (nI (((Ar h 17) g).toNatClampNeg))), none, none], [.int (nI c), .int (nI g), .ref 13, .ref q.1, .ref 5], fset (cp73 h (27 + 6 * ((fi + si) % 16)) 13) 25 1 (.int (nI ((fi + 1) % 16))), 198, sl) = some R := hh
      obtain ⟨n, fr1, lo1, r1, hh1, hh⟩ := rn_call (w := 0) (t := 39) rfl rfl hh
      obtain ⟨er15, hc16, hf17⟩ := v39_ok (g := g) (c := c) (hc_f rfl rfl (by decide) rfl hc6) (by omega) (by omega) hh1
      subst er15
      obtain ⟨n, hh⟩ := rn_i rfl rfl rfl rfl hh
      obtain ⟨n, hh⟩ := rn_i rfl rfl rfl rfl hh
      have hh : pm_run PT n fr lo 96 (55, [some (.ref 0), some (.int (nI g)), some (.int (nI c)), some (.int (v136 q cc gc (Ar h 17) g c)), some (.int (nI (((Ar h 17) g).toNatClampNeg))), some (.int ((v39 q cc gc (fset (cp73 h (27 + 6 * ((fi + si) % 16)) 13) 25 1 (.int (nI ((fi + 1) % 16)))) g c).1)), none], [.ref 0], (v39 q cc gc (fset (cp73 h (27 + 6 * ((fi + si) % 16)) 13) 25 1 (.int (nI ((fi + 1) % 16)))) g c).2, 198, sl) = some R := hh
      obtain ⟨n, hh⟩ := rn_gr hc16.wt rfl rfl (by decide) rfl (by decide) (show _ = some (2, ((13 : Nat) : Int), 1) from rfl) rfl hh
      obtain ⟨n, hh⟩ := rn_i rfl rfl rfl rfl hh
      obtain ⟨n, hh⟩ := rn_i rfl rfl rfl rfl hh
      have hh : pm_run PT n fr lo 96 (60, [some (.ref 0), some (.int (nI g)), some (.int (nI c)), some (.int (v136 q cc gc (Ar h 17) g c)), some (.int (nI (((Ar h 17) g).toNatClampNeg))), some (.int ((v39 q cc gc (fset (cp73 h (27 + 6 * ((fi + si) % 16)) 13) 25 1 (.int (nI ((fi + 1) % 16)))) g c).1)), none], [.int (nI c), .int (nI g), .ref 13], (v39 q cc gc (fset (cp73 h (27 + 6 * ((fi + si) % 16)) 13) 25 1 (.int (nI ((fi + 1) % 16)))) g c).2, 198, sl) = some R := hh
      obtain ⟨n, fr1, lo1, r1, hh1, hh⟩ := rn_call (w := 0) (t := 75) rfl rfl hh
      have er18 := v75_ok (g := g) (c := c) hc16 (by omega) (by omega) hh1
      rw [show Ar ((v39 q cc gc (fset (cp73 h (27 + 6 * ((fi + si) % 16)) 13) 25 1 (.int (nI ((fi + 1) % 16)))) g c).2) 18 = Ar h 18 from ((Ar_e (hf17.1 18 rfl)).trans (Ar_f.trans ((Ar_e (cp73_ne (by omega))).trans rfl)))] at er18
      subst er18
      have hh : pm_run PT n fr lo 96 (63, [some (.ref 0), some (.int (nI g)), some (.int (nI c)), some (.int (v136 q cc gc (Ar h 17) g c)), some (.int (nI (((Ar h 17) g).toNatClampNeg))), some (.int ((v39 q cc gc (fset (cp73 h (27 + 6 * ((fi + si) % 16)) 13) 25 1 (.int (nI ((fi + 1) % 16)))) g c).1)), none], [.int (cond (v75 q cc gc (Ar h 18) g c) 1 0)], (v39 q cc gc (fset (cp73 h (27 + 6 * ((fi + si) % 16)) 13) 25 1 (.int (nI ((fi + 1) % 16)))) g c).2, 198, sl) = some R := hh
      obtain ⟨n, hh⟩ := en_zn (cc := .eq) (off := 7) (t := 70) (b := !(v75 q cc gc (Ar h 18) g c)) eb_eq rfl rfl hh
      have hj20 : ∃ mJ, pm_run PT mJ fr lo 96 (cond (v75 q cc gc (Ar h 18) g c) (71, [some (.ref 0), some (.int (nI g)), some (.int (nI c)), some (.int (v136 q cc gc (Ar h 17) g c)), some (.int (nI (((Ar h 17) g).toNatClampNeg))), some (.int ((v39 q cc gc (fset (cp73 h (27 + 6 * ((fi + si) % 16)) 13) 25 1 (.int (nI ((fi + 1) % 16)))) g c).1)), none], [.int (nI 1)], (v39 q cc gc (fset (cp73 h (27 + 6 * ((fi + si) % 16)) 13) 25 1 (.int (nI ((fi + 1) % 16)))) g c).2, 198, sl) (71, [some (.ref 0), some (.int (nI g)), some (.int (nI c)), some (.int (v136 q cc gc (Ar h 17) g c)), some (.int (nI (((Ar h 17) g).toNatClampNeg))), some (.int ((v39 q cc gc (fset (cp73 h (27 + 6 * ((fi + si) % 16)) 13) 25 1 (.int (nI ((fi + 1) % 16)))) g c).1)), none], [.int (nI 0)], (v39 q cc gc (fset (cp73 h (27 + 6 * ((fi + si) % 16)) 13) 25 1 (.int (nI ((fi + 1) % 16)))) g c).2, 198, sl)) = some R := en_J (fun z19 => by
          have hh := en_nt z19 hh
          have hh : pm_run PT n fr lo 96 (66, [some (.ref 0), some (.int (nI g)), some (.int (nI c)), some (.int (v136 q cc gc (Ar h 17) g c)), some (.int (nI (((Ar h 17) g).toNatClampNeg))), some (.int ((v39 q cc gc (fset (cp73 h (27 + 6 * ((fi + si) % 16)) 13) 25 1 (.int (nI ((fi + 1) % 16)))) g c).1)), none], [], (v39 q cc gc (fset (cp73 h (27 + 6 * ((fi + si) % 16)) 13) 25 1 (.int (nI ((fi + 1) % 16)))) g c).2, 198, sl) = some R := hh
          obtain ⟨n, hh⟩ := rn_i rfl rfl rfl rfl hh
          obtain ⟨n, hh⟩ := rn_i rfl rfl rfl rfl hh
          exact ⟨n, hh⟩) (fun z19 => by
          have hh := en_nf z19 hh
          have hh : pm_run PT n fr lo 96 (70, [some (.ref 0), some (.int (nI g)), some (.int (nI c)), some (.int (v136 q cc gc (Ar h 17) g c)), some (.int (nI (((Ar h 17) g).toNatClampNeg))), some (.int ((v39 q cc gc (fset (cp73 h (27 + 6 * ((fi + si) % 16)) 13) 25 1 (.int (nI ((fi + 1) % 16)))) g c).1)), none], [], (v39 q cc gc (fset (cp73 h (27 + 6 * ((fi + si) % 16)) 13) 25 1 (.int (nI ((fi + 1) % 16)))) g c).2, 198, sl) = some R := hh
          obtain ⟨n, hh⟩ := rn_i rfl rfl rfl rfl hh
          exact ⟨n, hh⟩)
      obtain ⟨n, hh⟩ := hj20
      rw [show (cond (v75 q cc gc (Ar h 18) g c) (71, [some (.ref 0), some (.int (nI g)), some (.int (nI c)), some (.int (v136 q cc gc (Ar h 17) g c)), some (.int (nI (((Ar h 17) g).toNatClampNeg))), some (.int ((v39 q cc gc (fset (cp73 h (27 + 6 * ((fi + si) % 16)) 13) 25 1 (.int (nI ((fi + 1) % 16)))) g c).1)), none], [.int (nI 1)], (v39 q cc gc (fset (cp73 h (27 + 6 * ((fi + si) % 16)) 13) 25 1 (.int (nI ((fi + 1) % 16)))) g c).2, 198, sl) (71, [some (.ref 0), some (.int (nI g)), some (.int (nI c)), some (.int (v136 q cc gc (Ar h 17) g c)), some (.int (nI (((Ar h 17) g).toNatClampNeg))), some (.int ((v39 q cc gc (fset (cp73 h (27 + 6 * ((fi + si) % 16)) 13) 25 1 (.int (nI ((fi + 1) % 16)))) g c).1)), none], [.int (nI 0)], (v39 q cc gc (fset (cp73 h (27 + 6 * ((fi + si) % 16)) 13) 25 1 (.int (nI ((fi + 1) % 16)))) g c).2, 198, sl) : pm_St) = (71, [some (.ref 0), some (.int (nI g)), some (.int (nI c)), some (.int (v136 q cc gc (Ar h 17) g c)), some (.int (nI (((Ar h 17) g).toNatClampNeg))), some (.int ((v39 q cc gc (fset (cp73 h (27 + 6 * ((fi + si) % 16)) 13) 25 1 (.int (nI ((fi + 1) % 16)))) g c).1)), none], [.int (cond (cond (v75 q cc gc (Ar h 18) g c) true false) 1 0)], (v39 q cc gc (fset (cp73 h (27 + 6 * ((fi + si) % 16)) 13) 25 1 (.int (nI ((fi + 1) % 16)))) g c).2, 198, sl) from by cases (v75 q cc gc (Ar h 18) g c) <;> rfl] at hh
      obtain ⟨n, hh⟩ := rn_i rfl rfl rfl rfl hh
      obtain ⟨n, hh⟩ := rn_i rfl rfl rfl rfl hh
      have hh : pm_run PT n fr lo 96 (74, [some (.ref 0), some (.int (nI g)), some (.int (nI c)), some (.int (v136 q cc gc (Ar h 17) g c)), some (.int (nI (((Ar h 17) g).toNatClampNeg))), some (.int ((v39 q cc gc (fset (cp73 h (27 + 6 * ((fi + si) % 16)) 13) 25 1 (.int (nI ((fi + 1) % 16)))) g c).1)), some (.int (cond (cond (v75 q cc gc (Ar h 18) g c) true false) 1 0))], [.ref 0], (v39 q cc gc (fset (cp73 h (27 + 6 * ((fi + si) % 16)) 13) 25 1 (.int (nI ((fi + 1) % 16)))) g c).2, 198, sl) = some R := hh
      obtain ⟨n, hh⟩ := rn_gr hc16.wt rfl rfl (by decide) rfl (by decide) (show _ = some (2, ((5 : Nat) : Int), 1) from rfl) rfl hh
      obtain ⟨n, hh⟩ := rn_i rfl rfl rfl rfl hh
      have hh : pm_run PT n fr lo 96 (78, [some (.ref 0), some (.int (nI g)), some (.int (nI c)), some (.int (v136 q cc gc (Ar h 17) g c)), some (.int (nI (((Ar h 17) g).toNatClampNeg))), some (.int ((v39 q cc gc (fset (cp73 h (27 + 6 * ((fi + si) % 16)) 13) 25 1 (.int (nI ((fi + 1) % 16)))) g c).1)), some (.int (cond (cond (v75 q cc gc (Ar h 18) g c) true false) 1 0))], [.ref 0, .ref 5], (v39 q cc gc (fset (cp73 h (27 + 6 * ((fi + si) % 16)) 13) 25 1 (.int (nI ((fi + 1) % 16)))) g c).2, 198, sl) = some R := hh
      obtain ⟨n, hh⟩ := rn_gr hc16.wt rfl rfl (by decide) rfl (by decide) (show _ = some (2, ((13 : Nat) : Int), 1) from rfl) rfl hh
      obtain ⟨n, hh⟩ := rn_i rfl rfl rfl rfl hh
      obtain ⟨n, hh⟩ := rn_i rfl rfl rfl rfl hh
      obtain ⟨n, hh⟩ := rn_i rfl rfl rfl rfl hh
      have hh : pm_run PT n fr lo 96 (85, [some (.ref 0), some (.int (nI g)), some (.int (nI c)), some (.int (v136 q cc gc (Ar h 17) g c)), some (.int (nI (((Ar h 17) g).toNatClampNeg))), some (.int ((v39 q cc gc (fset (cp73 h (27 + 6 * ((fi + si) % 16)) 13) 25 1 (.int (nI ((fi + 1) % 16)))) g c).1)), some (.int (cond (cond (v75 q cc gc (Ar h 18) g c) true false) 1 0))], [.int ((v39 q cc gc (fset (cp73 h (27 + 6 * ((fi + si) % 16)) 13) 25 1 (.int (nI ((fi + 1) % 16)))) g c).1), .int (nI c), .int (nI g), .ref 13, .ref 5], (v39 q cc gc (fset (cp73 h (27 + 6 * ((fi + si) % 16)) 13) 25 1 (.int (nI ((fi + 1) % 16)))) g c).2, 198, sl) = some R := hh
      obtain ⟨n, fr1, lo1, r1, hh1, hh⟩ := rn_call (w := 0) (t := 40) rfl rfl hh
      obtain ⟨er21, hc22, hf23⟩ := v40_ok (g := g) (c := c) (v := ((v39 q cc gc (fset (cp73 h (27 + 6 * ((fi + si) % 16)) 13) 25 1 (.int (nI ((fi + 1) % 16)))) g c).1)) hc16 (by omega) (by omega) (NA_e ((Ar_e (hf17.1 17 rfl)).trans (Ar_f.trans ((Ar_e (cp73_ne (by omega))).trans rfl))) hol) hh1
      subst er21
      obtain ⟨n, hh⟩ := rn_i rfl rfl rfl rfl hh
      have hh : pm_run PT n fr lo 96 (89, [some (.ref 0), some (.int (nI g)), some (.int (nI c)), some (.int (v136 q cc gc (Ar h 17) g c)), some (.int (nI (((Ar h 17) g).toNatClampNeg))), some (.int ((v39 q cc gc (fset (cp73 h (27 + 6 * ((fi + si) % 16)) 13) 25 1 (.int (nI ((fi + 1) % 16)))) g c).1)), some (.int (cond (cond (v75 q cc gc (Ar h 18) g c) true false) 1 0))], [.ref 0], v40 q cc gc ((v39 q cc gc (fset (cp73 h (27 + 6 * ((fi + si) % 16)) 13) 25 1 (.int (nI ((fi + 1) % 16)))) g c).2) g c ((v39 q cc gc (fset (cp73 h (27 + 6 * ((fi + si) % 16)) 13) 25 1 (.int (nI ((fi + 1) % 16)))) g c).1), 198, sl) = some R := hh
      obtain ⟨n, hh⟩ := rn_gr hc22.wt rfl rfl (by decide) rfl (by decide) (show _ = some (2, ((3 : Nat) : Int), 1) from rfl) rfl hh
      obtain ⟨n, hh⟩ := rn_i rfl rfl rfl rfl hh
      obtain ⟨n, hh⟩ := rn_i rfl rfl rfl rfl hh
      obtain ⟨n, hh⟩ := rn_i rfl rfl rfl rfl hh
      obtain ⟨n, hh⟩ := rn_i rfl rfl rfl rfl hh
      have hh : pm_run PT n fr lo 96 (98, [some (.ref 0), some (.int (nI g)), some (.int (nI c)), some (.int (v136 q cc gc (Ar h 17) g c)), some (.int (nI (((Ar h 17) g).toNatClampNeg))), some (.int ((v39 q cc gc (fset (cp73 h (27 + 6 * ((fi + si) % 16)) 13) 25 1 (.int (nI ((fi + 1) % 16)))) g c).1)), some (.int (cond (cond (v75 q cc gc (Ar h 18) g c) true false) 1 0))], [.long ((cond (cond (v75 q cc gc (Ar h 18) g c) true false) 1 0 : Int32).toInt64), .long (((v39 q cc gc (fset (cp73 h (27 + 6 * ((fi + si) % 16)) 13) 25 1 (.int (nI ((fi + 1) % 16)))) g c).1).toInt64), .ref 3], v40 q cc gc ((v39 q cc gc (fset (cp73 h (27 + 6 * ((fi + si) % 16)) 13) 25 1 (.int (nI ((fi + 1) % 16)))) g c).2) g c ((v39 q cc gc (fset (cp73 h (27 + 6 * ((fi + si) % 16)) 13) 25 1 (.int (nI ((fi + 1) % 16)))) g c).1), 198, sl) = some R := hh
      obtain ⟨n, fr1, lo1, r1, hh1, hh⟩ := rn_call (w := 0) (t := 56) rfl rfl hh
      obtain ⟨er24, hc25, hf26⟩ := v56_ok (v := (((v39 q cc gc (fset (cp73 h (27 + 6 * ((fi + si) % 16)) 13) 25 1 (.int (nI ((fi + 1) % 16)))) g c).1).toInt64)) (w := ((cond (cond (v75 q cc gc (Ar h 18) g c) true false) 1 0 : Int32).toInt64)) hc22 hh1
      subst er24
      obtain ⟨n, hh⟩ := rn_i rfl rfl rfl rfl hh
      have hh : pm_run PT n fr lo 96 (102, [some (.ref 0), some (.int (nI g)), some (.int (nI c)), some (.int (v136 q cc gc (Ar h 17) g c)), some (.int (nI (((Ar h 17) g).toNatClampNeg))), some (.int ((v39 q cc gc (fset (cp73 h (27 + 6 * ((fi + si) % 16)) 13) 25 1 (.int (nI ((fi + 1) % 16)))) g c).1)), some (.int (cond (cond (v75 q cc gc (Ar h 18) g c) true false) 1 0))], [.ref 0], v56 q cc gc (v40 q cc gc ((v39 q cc gc (fset (cp73 h (27 + 6 * ((fi + si) % 16)) 13) 25 1 (.int (nI ((fi + 1) % 16)))) g c).2) g c ((v39 q cc gc (fset (cp73 h (27 + 6 * ((fi + si) % 16)) 13) 25 1 (.int (nI ((fi + 1) % 16)))) g c).1)) (((v39 q cc gc (fset (cp73 h (27 + 6 * ((fi + si) % 16)) 13) 25 1 (.int (nI ((fi + 1) % 16)))) g c).1).toInt64) ((cond (cond (v75 q cc gc (Ar h 18) g c) true false) 1 0 : Int32).toInt64), 198, sl) = some R := hh
      obtain ⟨n, hh⟩ := rn_gr hc25.wt rfl rfl (by decide) rfl (by decide) (show _ = some (2, ((13 : Nat) : Int), 1) from rfl) rfl hh
      have hh : pm_run PT n fr lo 96 (105, [some (.ref 0), some (.int (nI g)), some (.int (nI c)), some (.int (v136 q cc gc (Ar h 17) g c)), some (.int (nI (((Ar h 17) g).toNatClampNeg))), some (.int ((v39 q cc gc (fset (cp73 h (27 + 6 * ((fi + si) % 16)) 13) 25 1 (.int (nI ((fi + 1) % 16)))) g c).1)), some (.int (cond (cond (v75 q cc gc (Ar h 18) g c) true false) 1 0))], [.ref 13], v56 q cc gc (v40 q cc gc ((v39 q cc gc (fset (cp73 h (27 + 6 * ((fi + si) % 16)) 13) 25 1 (.int (nI ((fi + 1) % 16)))) g c).2) g c ((v39 q cc gc (fset (cp73 h (27 + 6 * ((fi + si) % 16)) 13) 25 1 (.int (nI ((fi + 1) % 16)))) g c).1)) (((v39 q cc gc (fset (cp73 h (27 + 6 * ((fi + si) % 16)) 13) 25 1 (.int (nI ((fi + 1) % 16)))) g c).1).toInt64) ((cond (cond (v75 q cc gc (Ar h 18) g c) true false) 1 0 : Int32).toInt64), 198, sl) = some R := hh
      obtain ⟨n, hh⟩ := rn_gr hc25.wt rfl rfl (by decide) rfl (by decide) (show _ = some (2, ((15 : Nat) : Int), 1) from rfl) rfl hh
      obtain ⟨n, hh⟩ := rn_i rfl rfl rfl rfl hh
      obtain ⟨n, hh⟩ := rn_i rfl rfl rfl rfl hh
      have hh : pm_run PT n fr lo 96 (111, [some (.ref 0), some (.int (nI g)), some (.int (nI c)), some (.int (v136 q cc gc (Ar h 17) g c)), some (.int (nI (((Ar h 17) g).toNatClampNeg))), some (.int ((v39 q cc gc (fset (cp73 h (27 + 6 * ((fi + si) % 16)) 13) 25 1 (.int (nI ((fi + 1) % 16)))) g c).1)), some (.int (cond (cond (v75 q cc gc (Ar h 18) g c) true false) 1 0))], [.int (nI (((Ar h 17) g).toNatClampNeg)), .int (nI c), .ref 15], v56 q cc gc (v40 q cc gc ((v39 q cc gc (fset (cp73 h (27 + 6 * ((fi + si) % 16)) 13) 25 1 (.int (nI ((fi + 1) % 16)))) g c).2) g c ((v39 q cc gc (fset (cp73 h (27 + 6 * ((fi + si) % 16)) 13) 25 1 (.int (nI ((fi + 1) % 16)))) g c).1)) (((v39 q cc gc (fset (cp73 h (27 + 6 * ((fi + si) % 16)) 13) 25 1 (.int (nI ((fi + 1) % 16)))) g c).1).toInt64) ((cond (cond (v75 q cc gc (Ar h 18) g c) true false) 1 0 : Int32).toInt64), 198, sl) = some R := hh
      obtain ⟨n, fr1, lo1, r1, hh1, hh⟩ := rn_call (w := 2) (t := 160) rfl rfl hh
      have hh1 : pm_run PT n fr1 lo1 160 (0, [some (.int (nI c)), some (.int (nI (((Ar h 17) g).toNatClampNeg)))], [], v56 q cc gc (v40 q cc gc ((v39 q cc gc (fset (cp73 h (27 + 6 * ((fi + si) % 16)) 13) 25 1 (.int (nI ((fi + 1) % 16)))) g c).2) g c ((v39 q cc gc (fset (cp73 h (27 + 6 * ((fi + si) % 16)) 13) 25 1 (.int (nI ((fi + 1) % 16)))) g c).1)) (((v39 q cc gc (fset (cp73 h (27 + 6 * ((fi + si) % 16)) 13) 25 1 (.int (nI ((fi + 1) % 16)))) g c).1).toInt64) ((cond (cond (v75 q cc gc (Ar h 18) g c) true false) 1 0 : Int32).toInt64), 198, sl) = some r1 := hh1
      obtain ⟨n1, hh1⟩ := rn_i rfl rfl rfl rfl hh1
      obtain ⟨n1, hh1⟩ := rn_i rfl rfl rfl rfl hh1
      have hh1 : pm_run PT n1 fr1 lo1 160 (3, [some (.int (nI c)), some (.int (nI (((Ar h 17) g).toNatClampNeg)))], [.int (nI 6), .int (nI c)], v56 q cc gc (v40 q cc gc ((v39 q cc gc (fset (cp73 h (27 + 6 * ((fi + si) % 16)) 13) 25 1 (.int (nI ((fi + 1) % 16)))) g c).2) g c ((v39 q cc gc (fset (cp73 h (27 + 6 * ((fi + si) % 16)) 13) 25 1 (.int (nI ((fi + 1) % 16)))) g c).1)) (((v39 q cc gc (fset (cp73 h (27 + 6 * ((fi + si) % 16)) 13) 25 1 (.int (nI ((fi + 1) % 16)))) g c).1).toInt64) ((cond (cond (v75 q cc gc (Ar h 18) g c) true false) 1 0 : Int32).toInt64), 198, sl) = some r1 := hh1
      obtain ⟨n1, hh1⟩ := en_mul rfl hh1
      have hh1 : pm_run PT n1 fr1 lo1 160 (4, [some (.int (nI c)), some (.int (nI (((Ar h 17) g).toNatClampNeg)))], [.int (nI (c * 6))], v56 q cc gc (v40 q cc gc ((v39 q cc gc (fset (cp73 h (27 + 6 * ((fi + si) % 16)) 13) 25 1 (.int (nI ((fi + 1) % 16)))) g c).2) g c ((v39 q cc gc (fset (cp73 h (27 + 6 * ((fi + si) % 16)) 13) 25 1 (.int (nI ((fi + 1) % 16)))) g c).1)) (((v39 q cc gc (fset (cp73 h (27 + 6 * ((fi + si) % 16)) 13) 25 1 (.int (nI ((fi + 1) % 16)))) g c).1).toInt64) ((cond (cond (v75 q cc gc (Ar h 18) g c) true false) 1 0 : Int32).toInt64), 198, sl) = some r1 := hh1
      obtain ⟨n1, hh1⟩ := rn_i rfl rfl rfl rfl hh1
      have hh1 : pm_run PT n1 fr1 lo1 160 (5, [some (.int (nI c)), some (.int (nI (((Ar h 17) g).toNatClampNeg)))], [.int (nI (((Ar h 17) g).toNatClampNeg)), .int (nI (c * 6))], v56 q cc gc (v40 q cc gc ((v39 q cc gc (fset (cp73 h (27 + 6 * ((fi + si) % 16)) 13) 25 1 (.int (nI ((fi + 1) % 16)))) g c).2) g c ((v39 q cc gc (fset (cp73 h (27 + 6 * ((fi + si) % 16)) 13) 25 1 (.int (nI ((fi + 1) % 16)))) g c).1)) (((v39 q cc gc (fset (cp73 h (27 + 6 * ((fi + si) % 16)) 13) 25 1 (.int (nI ((fi + 1) % 16)))) g c).1).toInt64) ((cond (cond (v75 q cc gc (Ar h 18) g c) true false) 1 0 : Int32).toInt64), 198, sl) = some r1 := hh1
      obtain ⟨n1, hh1⟩ := en_add rfl hh1
      have hh1 : pm_run PT n1 fr1 lo1 160 (6, [some (.int (nI c)), some (.int (nI (((Ar h 17) g).toNatClampNeg)))], [.int (nI (c * 6 + (((Ar h 17) g).toNatClampNeg)))], v56 q cc gc (v40 q cc gc ((v39 q cc gc (fset (cp73 h (27 + 6 * ((fi + si) % 16)) 13) 25 1 (.int (nI ((fi + 1) % 16)))) g c).2) g c ((v39 q cc gc (fset (cp73 h (27 + 6 * ((fi + si) % 16)) 13) 25 1 (.int (nI ((fi + 1) % 16)))) g c).1)) (((v39 q cc gc (fset (cp73 h (27 + 6 * ((fi + si) % 16)) 13) 25 1 (.int (nI ((fi + 1) % 16)))) g c).1).toInt64) ((cond (cond (v75 q cc gc (Ar h 18) g c) true false) 1 0 : Int32).toInt64), 198, sl) = some r1 := hh1
      have hh1 : pm_run PT n1 fr1 lo1 160 (6, [some (.int (nI c)), some (.int (nI (((Ar h 17) g).toNatClampNeg)))], [.int (nI (c * 6 + (((Ar h 17) g).toNatClampNeg)))], v56 q cc gc (v40 q cc gc ((v39 q cc gc (fset (cp73 h (27 + 6 * ((fi + si) % 16)) 13) 25 1 (.int (nI ((fi + 1) % 16)))) g c).2) g c ((v39 q cc gc (fset (cp73 h (27 + 6 * ((fi + si) % 16)) 13) 25 1 (.int (nI ((fi + 1) % 16)))) g c).1)) (((v39 q cc gc (fset (cp73 h (27 + 6 * ((fi + si) % 16)) 13) 25 1 (.int (nI ((fi + 1) % 16)))) g c).1).toInt64) ((cond (cond (v75 q cc gc (Ar h 18) g c) true false) 1 0 : Int32).toInt64), 198, sl) = some r1 := hh1
      have er27 : r1 = (some (.int (nI (c * 6 + (((Ar h 17) g).toNatClampNeg)))), v56 q cc gc (v40 q cc gc ((v39 q cc gc (fset (cp73 h (27 + 6 * ((fi + si) % 16)) 13) 25 1 (.int (nI ((fi + 1) % 16)))) g c).2) g c ((v39 q cc gc (fset (cp73 h (27 + 6 * ((fi + si) % 16)) 13) 25 1 (.int (nI ((fi + 1) % 16)))) g c).1)) (((v39 q cc gc (fset (cp73 h (27 + 6 * ((fi + si) % 16)) 13) 25 1 (.int (nI ((fi + 1) % 16)))) g c).1).toInt64) ((cond (cond (v75 q cc gc (Ar h 18) g c) true false) 1 0 : Int32).toInt64), 198, sl) := (rn_ret rfl (Or.inl rfl) hh1).2
      subst er27
      have hh : pm_run PT n fr lo 96 (114, [some (.ref 0), some (.int (nI g)), some (.int (nI c)), some (.int (v136 q cc gc (Ar h 17) g c)), some (.int (nI (((Ar h 17) g).toNatClampNeg))), some (.int ((v39 q cc gc (fset (cp73 h (27 + 6 * ((fi + si) % 16)) 13) 25 1 (.int (nI ((fi + 1) % 16)))) g c).1)), some (.int (cond (cond (v75 q cc gc (Ar h 18) g c) true false) 1 0))], [.int (nI (c * 6 + (((Ar h 17) g).toNatClampNeg))), .ref 15], v56 q cc gc (v40 q cc gc ((v39 q cc gc (fset (cp73 h (27 + 6 * ((fi + si) % 16)) 13) 25 1 (.int (nI ((fi + 1) % 16)))) g c).2) g c ((v39 q cc gc (fset (cp73 h (27 + 6 * ((fi + si) % 16)) 13) 25 1 (.int (nI ((fi + 1) % 16)))) g c).1)) (((v39 q cc gc (fset (cp73 h (27 + 6 * ((fi + si) % 16)) 13) 25 1 (.int (nI ((fi + 1) % 16)))) g c).1).toInt64) ((cond (cond (v75 q cc gc (Ar h 18) g c) true false) 1 0 : Int32).toInt64), 198, sl) = some R := hh
      obtain ⟨n, hx28, hh⟩ := en_lu (t := c * 6 + (((Ar h 17) g).toNatClampNeg)) (f := Ar (v40 q cc gc ((v39 q cc gc (fset (cp73 h (27 + 6 * ((fi + si) % 16)) 13) 25 1 (.int (nI ((fi + 1) % 16)))) g c).2) g c ((v39 q cc gc (fset (cp73 h (27 + 6 * ((fi + si) % 16)) 13) 25 1 (.int (nI ((fi + 1) % 16)))) g c).1)) 15) (w := (Ar (v40 q cc gc ((v39 q cc gc (fset (cp73 h (27 + 6 * ((fi + si) % 16)) 13) 25 1 (.int (nI ((fi + 1) % 16)))) g c).2) g c ((v39 q cc gc (fset (cp73 h (27 + 6 * ((fi + si) % 16)) 13) 25 1 (.int (nI ((fi + 1) % 16)))) g c).1)) 15) (c * 6 + (((Ar h 17) g).toNatClampNeg))) (nI_clamp (by omega)) hc25.wt rfl (by decide) rfl (by decide) ((Ar_e (hf26.1 15 rfl)).trans rfl) (fun _ => rfl) hh
      have hh : pm_run PT n fr lo 96 (115, [some (.ref 0), some (.int (nI g)), some (.int (nI c)), some (.int (v136 q cc gc (Ar h 17) g c)), some (.int (nI (((Ar h 17) g).toNatClampNeg))), some (.int ((v39 q cc gc (fset (cp73 h (27 + 6 * ((fi + si) % 16)) 13) 25 1 (.int (nI ((fi + 1) % 16)))) g c).1)), some (.int (cond (cond (v75 q cc gc (Ar h 18) g c) true false) 1 0))], [.int ((Ar (v40 q cc gc ((v39 q cc gc (fset (cp73 h (27 + 6 * ((fi + si) % 16)) 13) 25 1 (.int (nI ((fi + 1) % 16)))) g c).2) g c ((v39 q cc gc (fset (cp73 h (27 + 6 * ((fi + si) % 16)) 13) 25 1 (.int (nI ((fi + 1) % 16)))) g c).1)) 15) (c * 6 + (((Ar h 17) g).toNatClampNeg)))], v56 q cc gc (v40 q cc gc ((v39 q cc gc (fset (cp73 h (27 + 6 * ((fi + si) % 16)) 13) 25 1 (.int (nI ((fi + 1) % 16)))) g c).2) g c ((v39 q cc gc (fset (cp73 h (27 + 6 * ((fi + si) % 16)) 13) 25 1 (.int (nI ((fi + 1) % 16)))) g c).1)) (((v39 q cc gc (fset (cp73 h (27 + 6 * ((fi + si) % 16)) 13) 25 1 (.int (nI ((fi + 1) % 16)))) g c).1).toInt64) ((cond (cond (v75 q cc gc (Ar h 18) g c) true false) 1 0 : Int32).toInt64), 198, sl) = some R := hh
      have er29 : R = (some (.int ((Ar (v40 q cc gc ((v39 q cc gc (fset (cp73 h (27 + 6 * ((fi + si) % 16)) 13) 25 1 (.int (nI ((fi + 1) % 16)))) g c).2) g c ((v39 q cc gc (fset (cp73 h (27 + 6 * ((fi + si) % 16)) 13) 25 1 (.int (nI ((fi + 1) % 16)))) g c).1)) 15) (c * 6 + (((Ar h 17) g).toNatClampNeg)))), v56 q cc gc (v40 q cc gc ((v39 q cc gc (fset (cp73 h (27 + 6 * ((fi + si) % 16)) 13) 25 1 (.int (nI ((fi + 1) % 16)))) g c).2) g c ((v39 q cc gc (fset (cp73 h (27 + 6 * ((fi + si) % 16)) 13) 25 1 (.int (nI ((fi + 1) % 16)))) g c).1)) (((v39 q cc gc (fset (cp73 h (27 + 6 * ((fi + si) % 16)) 13) 25 1 (.int (nI ((fi + 1) % 16)))) g c).1).toInt64) ((cond (cond (v75 q cc gc (Ar h 18) g c) true false) 1 0 : Int32).toInt64), 198, sl) := (rn_ret rfl (Or.inl rfl) hh).2
      have ed : v96 q cc gc h fi si g c = ((Ar (v40 q cc gc ((v39 q cc gc (fset (cp73 h (27 + 6 * ((fi + si) % 16)) 13) 25 1 (.int (nI ((fi + 1) % 16)))) g c).2) g c ((v39 q cc gc (fset (cp73 h (27 + 6 * ((fi + si) % 16)) 13) 25 1 (.int (nI ((fi + 1) % 16)))) g c).1)) 15) (c * 6 + (((Ar h 17) g).toNatClampNeg)), v56 q cc gc (v40 q cc gc ((v39 q cc gc (fset (cp73 h (27 + 6 * ((fi + si) % 16)) 13) 25 1 (.int (nI ((fi + 1) % 16)))) g c).2) g c ((v39 q cc gc (fset (cp73 h (27 + 6 * ((fi + si) % 16)) 13) 25 1 (.int (nI ((fi + 1) % 16)))) g c).1)) (((v39 q cc gc (fset (cp73 h (27 + 6 * ((fi + si) % 16)) 13) 25 1 (.int (nI ((fi + 1) % 16)))) g c).1).toInt64) ((cond (cond (v75 q cc gc (Ar h 18) g c) true false) 1 0 : Int32).toInt64)) := (ct z2).trans ((ct z8).trans rfl)
      refine ⟨?_, ?_, ?_⟩ <;> rw [ed]
      · exact er29
      · exact hc25
      · exact (fr_g rfl rfl hf26 (fr_g rfl rfl hf23 (fr_g rfl rfl hf17 (fr_f rfl rfl (fr_c27 (by omega) hw.wt rfl rfl fr_0)))))
    | false =>
      have hh2 := en_f z8 hh2
      have hh2 : pm_run PT n2 fr2 lo2 17 (9, [some (.ref 25)], [], cp73 h (27 + 6 * ((fi + si) % 16)) 13, 198, sl) = some r2 := hh2
      have y30 := of_decide_eq_false z8
      obtain ⟨n2, hh2⟩ := rn_i rfl rfl rfl rfl hh2
      obtain ⟨n2, hh2⟩ := rn_i rfl rfl rfl rfl hh2
      have hh2 : pm_run PT n2 fr2 lo2 17 (11, [some (.ref 25)], [.ref 25, .ref 25], cp73 h (27 + 6 * ((fi + si) % 16)) 13, 198, sl) = some r2 := hh2
      obtain ⟨n2, hh2⟩ := rn_gi (x := nI si) hc6.wt rfl rfl (by decide) rfl (by decide) rfl ((Fi_e (cp73_ne (by omega))).trans e2) hh2
      obtain ⟨n2, hh2⟩ := rn_i rfl rfl rfl rfl hh2
      have hh2 : pm_run PT n2 fr2 lo2 17 (15, [some (.ref 25)], [.int (nI 1), .int (nI si), .ref 25], cp73 h (27 + 6 * ((fi + si) % 16)) 13, 198, sl) = some r2 := hh2
      obtain ⟨n2, hh2⟩ := en_add rfl hh2
      have hh2 : pm_run PT n2 fr2 lo2 17 (16, [some (.ref 25)], [.int (nI (si + 1)), .ref 25], cp73 h (27 + 6 * ((fi + si) % 16)) 13, 198, sl) = some r2 := hh2
      have hh2 : pm_run PT n2 fr2 lo2 17 (16, [some (.ref 25)], [.int (nI (si + 1)), .ref 25], cp73 h (27 + 6 * ((fi + si) % 16)) 13, 198, sl) = some r2 := hh2
      obtain ⟨n2, hh2⟩ := rn_pi hc6.wt rfl rfl (by decide) rfl (by decide) rfl hh2
      obtain ⟨n2, hh2⟩ := rn_i rfl rfl rfl rfl hh2
      have er31 : r2 = (none, fset (cp73 h (27 + 6 * ((fi + si) % 16)) 13) 25 2 (.int (nI (si + 1))), 198, sl) := rn_vret rfl rfl hh2
      subst er31
      have er32 : r1 = (none, fset (cp73 h (27 + 6 * ((fi + si) % 16)) 13) 25 2 (.int (nI (si + 1))), 198, sl) := rn_vret rfl rfl hh1
      subst er32
      obtain ⟨n, hh⟩ := rn_i rfl rfl rfl rfl hh
      have hh : pm_run PT n fr lo 96 (25, [some (.ref 0), some (.int (nI g)), some (.int (nI c)), some (.int (v136 q cc gc (Ar h 17) g c)), none, none, none], [.ref 0], fset (cp73 h (27 + 6 * ((fi + si) % 16)) 13) 25 2 (.int (nI (si + 1))), 198, sl) = some R := hh
      obtain ⟨n, hh⟩ := rn_gr (hc_f rfl rfl (by decide) rfl hc6).wt rfl rfl (by decide) rfl (by decide) (show _ = some (2, ((13 : Nat) : Int), 1) from rfl) rfl hh
      have hh : pm_run PT n fr lo 96 (28, [some (.ref 0), some (.int (nI g)), some (.int (nI c)), some (.int (v136 q cc gc (Ar h 17) g c)), none, none, none], [.ref 13], fset (cp73 h (27 + 6 * ((fi + si) % 16)) 13) 25 2 (.int (nI (si + 1))), 198, sl) = some R := hh
      obtain ⟨n, hh⟩ := rn_gr (hc_f rfl rfl (by decide) rfl hc6).wt rfl rfl (by decide) rfl (by decide) (show _ = some (2, ((17 : Nat) : Int), 1) from rfl) rfl hh
      obtain ⟨n, hh⟩ := rn_i rfl rfl rfl rfl hh
      have hh : pm_run PT n fr lo 96 (32, [some (.ref 0), some (.int (nI g)), some (.int (nI c)), some (.int (v136 q cc gc (Ar h 17) g c)), none, none, none], [.int (nI g), .ref 17], fset (cp73 h (27 + 6 * ((fi + si) % 16)) 13) 25 2 (.int (nI (si + 1))), 198, sl) = some R := hh
      obtain ⟨n, hx33, hh⟩ := en_lu (t := g) (f := Ar h 17) (w := nI (((Ar h 17) g).toNatClampNeg)) (nI_clamp (by omega)) (hc_f rfl rfl (by decide) rfl hc6).wt rfl (by decide) rfl (by decide) (Ar_f.trans ((Ar_e (cp73_ne (by omega))).trans rfl)) (fun z => (hol _ (by omega) (by omega)).1) hh
      have hb34 := (hol g (by omega) (by omega)).2
      obtain ⟨n, hh⟩ := rn_i rfl rfl rfl rfl hh
      obtain ⟨n, hh⟩ := rn_i rfl rfl rfl rfl hh
      have hh : pm_run PT n fr lo 96 (36, [some (.ref 0), some (.int (nI g)), some (.int (nI c)), some (.int (v136 q cc gc (Ar h 17) g c)), some (.int (nI (((Ar h 17) g).toNatClampNeg))), none, none], [.ref 0], fset (cp73 h (27 + 6 * ((fi + si) % 16)) 13) 25 2 (.int (nI (si + 1))), 198, sl) = some R := hh
      obtain ⟨n, hh⟩ := rn_gr (hc_f rfl rfl (by decide) rfl hc6).wt rfl rfl (by decide) rfl (by decide) (show _ = some (2, ((5 : Nat) : Int), 1) from rfl) rfl hh
      obtain ⟨n, hh⟩ := rn_i rfl rfl rfl rfl hh
      have hh : pm_run PT n fr lo 96 (40, [some (.ref 0), some (.int (nI g)), some (.int (nI c)), some (.int (v136 q cc gc (Ar h 17) g c)), some (.int (nI (((Ar h 17) g).toNatClampNeg))), none, none], [.ref 0, .ref 5], fset (cp73 h (27 + 6 * ((fi + si) % 16)) 13) 25 2 (.int (nI (si + 1))), 198, sl) = some R := hh
      obtain ⟨n, hh⟩ := en_q (hc_f rfl rfl (by decide) rfl hc6) rfl rfl hh
      obtain ⟨n, hh⟩ := rn_i rfl rfl rfl rfl hh
      have hh : pm_run PT n fr lo 96 (44, [some (.ref 0), some (.int (nI g)), some (.int (nI c)), some (.int (v136 q cc gc (Ar h 17) g c)), some (.int (nI (((Ar h 17) g).toNatClampNeg))), none, none], [.ref 0, .ref q.1, .ref 5], fset (cp73 h (27 + 6 * ((fi + si) % 16)) 13) 25 2 (.int (nI (si + 1))), 198, sl) = some R := hh
      obtain ⟨n, hh⟩ := rn_gr (hc_f rfl rfl (by decide) rfl hc6).wt rfl rfl (by decide) rfl (by decide) (show _ = some (2, ((13 : Nat) : Int), 1) from rfl) rfl hh
      obtain ⟨n, hh⟩ := rn_i rfl rfl rfl rfl hh
      obtain ⟨n, hh⟩ := rn_i rfl rfl rfl rfl hh
      have hh : pm_run PT n fr lo 96 (49, [some (.ref 0), some (.int (nI g)), some (.int (nI c)), some (.int (v136 q cc gc (Ar h 17) g c)), some (.int (nI (((Ar h 17) g).toNatClampNeg))), none, none], [.int (nI c), .int (nI g), .ref 13, .ref q.1, .ref 5], fset (cp73 h (27 + 6 * ((fi + si) % 16)) 13) 25 2 (.int (nI (si + 1))), 198, sl) = some R := hh
      obtain ⟨n, fr1, lo1, r1, hh1, hh⟩ := rn_call (w := 0) (t := 39) rfl rfl hh
      obtain ⟨er35, hc36, hf37⟩ := v39_ok (g := g) (c := c) (hc_f rfl rfl (by decide) rfl hc6) (by omega) (by omega) hh1
      subst er35
      obtain ⟨n, hh⟩ := rn_i rfl rfl rfl rfl hh
      obtain ⟨n, hh⟩ := rn_i rfl rfl rfl rfl hh
      have hh : pm_run PT n fr lo 96 (55, [some (.ref 0), some (.int (nI g)), some (.int (nI c)), some (.int (v136 q cc gc (Ar h 17) g c)), some (.int (nI (((Ar h 17) g).toNatClampNeg))), some (.int ((v39 q cc gc (fset (cp73 h (27 + 6 * ((fi + si) % 16)) 13) 25 2 (.int (nI (si + 1)))) g c).1)), none], [.ref 0], (v39 q cc gc (fset (cp73 h (27 + 6 * ((fi + si) % 16)) 13) 25 2 (.int (nI (si + 1)))) g c).2, 198, sl) = some R := hh
      obtain ⟨n, hh⟩ := rn_gr hc36.wt rfl rfl (by decide) rfl (by decide) (show _ = some (2, ((13 : Nat) : Int), 1) from rfl) rfl hh
      obtain ⟨n, hh⟩ := rn_i rfl rfl rfl rfl hh
      obtain ⟨n, hh⟩ := rn_i rfl rfl rfl rfl hh
      have hh : pm_run PT n fr lo 96 (60, [some (.ref 0), some (.int (nI g)), some (.int (nI c)), some (.int (v136 q cc gc (Ar h 17) g c)), some (.int (nI (((Ar h 17) g).toNatClampNeg))), some (.int ((v39 q cc gc (fset (cp73 h (27 + 6 * ((fi + si) % 16)) 13) 25 2 (.int (nI (si + 1)))) g c).1)), none], [.int (nI c), .int (nI g), .ref 13], (v39 q cc gc (fset (cp73 h (27 + 6 * ((fi + si) % 16)) 13) 25 2 (.int (nI (si + 1)))) g c).2, 198, sl) = some R := hh
      obtain ⟨n, fr1, lo1, r1, hh1, hh⟩ := rn_call (w := 0) (t := 75) rfl rfl hh
      have er38 := v75_ok (g := g) (c := c) hc36 (by omega) (by omega) hh1
      rw [show Ar ((v39 q cc gc (fset (cp73 h (27 + 6 * ((fi + si) % 16)) 13) 25 2 (.int (nI (si + 1)))) g c).2) 18 = Ar h 18 from ((Ar_e (hf37.1 18 rfl)).trans (Ar_f.trans ((Ar_e (cp73_ne (by omega))).trans rfl)))] at er38
      subst er38
      have hh : pm_run PT n fr lo 96 (63, [some (.ref 0), some (.int (nI g)), some (.int (nI c)), some (.int (v136 q cc gc (Ar h 17) g c)), some (.int (nI (((Ar h 17) g).toNatClampNeg))), some (.int ((v39 q cc gc (fset (cp73 h (27 + 6 * ((fi + si) % 16)) 13) 25 2 (.int (nI (si + 1)))) g c).1)), none], [.int (cond (v75 q cc gc (Ar h 18) g c) 1 0)], (v39 q cc gc (fset (cp73 h (27 + 6 * ((fi + si) % 16)) 13) 25 2 (.int (nI (si + 1)))) g c).2, 198, sl) = some R := hh
      obtain ⟨n, hh⟩ := en_zn (cc := .eq) (off := 7) (t := 70) (b := !(v75 q cc gc (Ar h 18) g c)) eb_eq rfl rfl hh
      have hj40 : ∃ mJ, pm_run PT mJ fr lo 96 (cond (v75 q cc gc (Ar h 18) g c) (71, [some (.ref 0), some (.int (nI g)), some (.int (nI c)), some (.int (v136 q cc gc (Ar h 17) g c)), some (.int (nI (((Ar h 17) g).toNatClampNeg))), some (.int ((v39 q cc gc (fset (cp73 h (27 + 6 * ((fi + si) % 16)) 13) 25 2 (.int (nI (si + 1)))) g c).1)), none], [.int (nI 1)], (v39 q cc gc (fset (cp73 h (27 + 6 * ((fi + si) % 16)) 13) 25 2 (.int (nI (si + 1)))) g c).2, 198, sl) (71, [some (.ref 0), some (.int (nI g)), some (.int (nI c)), some (.int (v136 q cc gc (Ar h 17) g c)), some (.int (nI (((Ar h 17) g).toNatClampNeg))), some (.int ((v39 q cc gc (fset (cp73 h (27 + 6 * ((fi + si) % 16)) 13) 25 2 (.int (nI (si + 1)))) g c).1)), none], [.int (nI 0)], (v39 q cc gc (fset (cp73 h (27 + 6 * ((fi + si) % 16)) 13) 25 2 (.int (nI (si + 1)))) g c).2, 198, sl)) = some R := en_J (fun z39 => by
          have hh := en_nt z39 hh
          have hh : pm_run PT n fr lo 96 (66, [some (.ref 0), some (.int (nI g)), some (.int (nI c)), some (.int (v136 q cc gc (Ar h 17) g c)), some (.int (nI (((Ar h 17) g).toNatClampNeg))), some (.int ((v39 q cc gc (fset (cp73 h (27 + 6 * ((fi + si) % 16)) 13) 25 2 (.int (nI (si + 1)))) g c).1)), none], [], (v39 q cc gc (fset (cp73 h (27 + 6 * ((fi + si) % 16)) 13) 25 2 (.int (nI (si + 1)))) g c).2, 198, sl) = some R := hh
          obtain ⟨n, hh⟩ := rn_i rfl rfl rfl rfl hh
          obtain ⟨n, hh⟩ := rn_i rfl rfl rfl rfl hh
          exact ⟨n, hh⟩) (fun z39 => by
          have hh := en_nf z39 hh
          have hh : pm_run PT n fr lo 96 (70, [some (.ref 0), some (.int (nI g)), some (.int (nI c)), some (.int (v136 q cc gc (Ar h 17) g c)), some (.int (nI (((Ar h 17) g).toNatClampNeg))), some (.int ((v39 q cc gc (fset (cp73 h (27 + 6 * ((fi + si) % 16)) 13) 25 2 (.int (nI (si + 1)))) g c).1)), none], [], (v39 q cc gc (fset (cp73 h (27 + 6 * ((fi + si) % 16)) 13) 25 2 (.int (nI (si + 1)))) g c).2, 198, sl) = some R := hh
          obtain ⟨n, hh⟩ := rn_i rfl rfl rfl rfl hh
          exact ⟨n, hh⟩)
      obtain ⟨n, hh⟩ := hj40
      rw [show (cond (v75 q cc gc (Ar h 18) g c) (71, [some (.ref 0), some (.int (nI g)), some (.int (nI c)), some (.int (v136 q cc gc (Ar h 17) g c)), some (.int (nI (((Ar h 17) g).toNatClampNeg))), some (.int ((v39 q cc gc (fset (cp73 h (27 + 6 * ((fi + si) % 16)) 13) 25 2 (.int (nI (si + 1)))) g c).1)), none], [.int (nI 1)], (v39 q cc gc (fset (cp73 h (27 + 6 * ((fi + si) % 16)) 13) 25 2 (.int (nI (si + 1)))) g c).2, 198, sl) (71, [some (.ref 0), some (.int (nI g)), some (.int (nI c)), some (.int (v136 q cc gc (Ar h 17) g c)), some (.int (nI (((Ar h 17) g).toNatClampNeg))), some (.int ((v39 q cc gc (fset (cp73 h (27 + 6 * ((fi + si) % 16)) 13) 25 2 (.int (nI (si + 1)))) g c).1)), none], [.int (nI 0)], (v39 q cc gc (fset (cp73 h (27 + 6 * ((fi + si) % 16)) 13) 25 2 (.int (nI (si + 1)))) g c).2, 198, sl) : pm_St) = (71, [some (.ref 0), some (.int (nI g)), some (.int (nI c)), some (.int (v136 q cc gc (Ar h 17) g c)), some (.int (nI (((Ar h 17) g).toNatClampNeg))), some (.int ((v39 q cc gc (fset (cp73 h (27 + 6 * ((fi + si) % 16)) 13) 25 2 (.int (nI (si + 1)))) g c).1)), none], [.int (cond (cond (v75 q cc gc (Ar h 18) g c) true false) 1 0)], (v39 q cc gc (fset (cp73 h (27 + 6 * ((fi + si) % 16)) 13) 25 2 (.int (nI (si + 1)))) g c).2, 198, sl) from by cases (v75 q cc gc (Ar h 18) g c) <;> rfl] at hh
      obtain ⟨n, hh⟩ := rn_i rfl rfl rfl rfl hh
      obtain ⟨n, hh⟩ := rn_i rfl rfl rfl rfl hh
      have hh : pm_run PT n fr lo 96 (74, [some (.ref 0), some (.int (nI g)), some (.int (nI c)), some (.int (v136 q cc gc (Ar h 17) g c)), some (.int (nI (((Ar h 17) g).toNatClampNeg))), some (.int ((v39 q cc gc (fset (cp73 h (27 + 6 * ((fi + si) % 16)) 13) 25 2 (.int (nI (si + 1)))) g c).1)), some (.int (cond (cond (v75 q cc gc (Ar h 18) g c) true false) 1 0))], [.ref 0], (v39 q cc gc (fset (cp73 h (27 + 6 * ((fi + si) % 16)) 13) 25 2 (.int (nI (si + 1)))) g c).2, 198, sl) = some R := hh
      obtain ⟨n, hh⟩ := rn_gr hc36.wt rfl rfl (by decide) rfl (by decide) (show _ = some (2, ((5 : Nat) : Int), 1) from rfl) rfl hh
      obtain ⟨n, hh⟩ := rn_i rfl rfl rfl rfl hh
      have hh : pm_run PT n fr lo 96 (78, [some (.ref 0), some (.int (nI g)), some (.int (nI c)), some (.int (v136 q cc gc (Ar h 17) g c)), some (.int (nI (((Ar h 17) g).toNatClampNeg))), some (.int ((v39 q cc gc (fset (cp73 h (27 + 6 * ((fi + si) % 16)) 13) 25 2 (.int (nI (si + 1)))) g c).1)), some (.int (cond (cond (v75 q cc gc (Ar h 18) g c) true false) 1 0))], [.ref 0, .ref 5], (v39 q cc gc (fset (cp73 h (27 + 6 * ((fi + si) % 16)) 13) 25 2 (.int (nI (si + 1)))) g c).2, 198, sl) = some R := hh
      obtain ⟨n, hh⟩ := rn_gr hc36.wt rfl rfl (by decide) rfl (by decide) (show _ = some (2, ((13 : Nat) : Int), 1) from rfl) rfl hh
      obtain ⟨n, hh⟩ := rn_i rfl rfl rfl rfl hh
      obtain ⟨n, hh⟩ := rn_i rfl rfl rfl rfl hh
      obtain ⟨n, hh⟩ := rn_i rfl rfl rfl rfl hh
      have hh : pm_run PT n fr lo 96 (85, [some (.ref 0), some (.int (nI g)), some (.int (nI c)), some (.int (v136 q cc gc (Ar h 17) g c)), some (.int (nI (((Ar h 17) g).toNatClampNeg))), some (.int ((v39 q cc gc (fset (cp73 h (27 + 6 * ((fi + si) % 16)) 13) 25 2 (.int (nI (si + 1)))) g c).1)), some (.int (cond (cond (v75 q cc gc (Ar h 18) g c) true false) 1 0))], [.int ((v39 q cc gc (fset (cp73 h (27 + 6 * ((fi + si) % 16)) 13) 25 2 (.int (nI (si + 1)))) g c).1), .int (nI c), .int (nI g), .ref 13, .ref 5], (v39 q cc gc (fset (cp73 h (27 + 6 * ((fi + si) % 16)) 13) 25 2 (.int (nI (si + 1)))) g c).2, 198, sl) = some R := hh
      obtain ⟨n, fr1, lo1, r1, hh1, hh⟩ := rn_call (w := 0) (t := 40) rfl rfl hh
      obtain ⟨er41, hc42, hf43⟩ := v40_ok (g := g) (c := c) (v := ((v39 q cc gc (fset (cp73 h (27 + 6 * ((fi + si) % 16)) 13) 25 2 (.int (nI (si + 1)))) g c).1)) hc36 (by omega) (by omega) (NA_e ((Ar_e (hf37.1 17 rfl)).trans (Ar_f.trans ((Ar_e (cp73_ne (by omega))).trans rfl))) hol) hh1
      subst er41
      obtain ⟨n, hh⟩ := rn_i rfl rfl rfl rfl hh
      have hh : pm_run PT n fr lo 96 (89, [some (.ref 0), some (.int (nI g)), some (.int (nI c)), some (.int (v136 q cc gc (Ar h 17) g c)), some (.int (nI (((Ar h 17) g).toNatClampNeg))), some (.int ((v39 q cc gc (fset (cp73 h (27 + 6 * ((fi + si) % 16)) 13) 25 2 (.int (nI (si + 1)))) g c).1)), some (.int (cond (cond (v75 q cc gc (Ar h 18) g c) true false) 1 0))], [.ref 0], v40 q cc gc ((v39 q cc gc (fset (cp73 h (27 + 6 * ((fi + si) % 16)) 13) 25 2 (.int (nI (si + 1)))) g c).2) g c ((v39 q cc gc (fset (cp73 h (27 + 6 * ((fi + si) % 16)) 13) 25 2 (.int (nI (si + 1)))) g c).1), 198, sl) = some R := hh
      obtain ⟨n, hh⟩ := rn_gr hc42.wt rfl rfl (by decide) rfl (by decide) (show _ = some (2, ((3 : Nat) : Int), 1) from rfl) rfl hh
      obtain ⟨n, hh⟩ := rn_i rfl rfl rfl rfl hh
      obtain ⟨n, hh⟩ := rn_i rfl rfl rfl rfl hh
      obtain ⟨n, hh⟩ := rn_i rfl rfl rfl rfl hh
      obtain ⟨n, hh⟩ := rn_i rfl rfl rfl rfl hh
      have hh : pm_run PT n fr lo 96 (98, [some (.ref 0), some (.int (nI g)), some (.int (nI c)), some (.int (v136 q cc gc (Ar h 17) g c)), some (.int (nI (((Ar h 17) g).toNatClampNeg))), some (.int ((v39 q cc gc (fset (cp73 h (27 + 6 * ((fi + si) % 16)) 13) 25 2 (.int (nI (si + 1)))) g c).1)), some (.int (cond (cond (v75 q cc gc (Ar h 18) g c) true false) 1 0))], [.long ((cond (cond (v75 q cc gc (Ar h 18) g c) true false) 1 0 : Int32).toInt64), .long (((v39 q cc gc (fset (cp73 h (27 + 6 * ((fi + si) % 16)) 13) 25 2 (.int (nI (si + 1)))) g c).1).toInt64), .ref 3], v40 q cc gc ((v39 q cc gc (fset (cp73 h (27 + 6 * ((fi + si) % 16)) 13) 25 2 (.int (nI (si + 1)))) g c).2) g c ((v39 q cc gc (fset (cp73 h (27 + 6 * ((fi + si) % 16)) 13) 25 2 (.int (nI (si + 1)))) g c).1), 198, sl) = some R := hh
      obtain ⟨n, fr1, lo1, r1, hh1, hh⟩ := rn_call (w := 0) (t := 56) rfl rfl hh
      obtain ⟨er44, hc45, hf46⟩ := v56_ok (v := (((v39 q cc gc (fset (cp73 h (27 + 6 * ((fi + si) % 16)) 13) 25 2 (.int (nI (si + 1)))) g c).1).toInt64)) (w := ((cond (cond (v75 q cc gc (Ar h 18) g c) true false) 1 0 : Int32).toInt64)) hc42 hh1
      subst er44
      obtain ⟨n, hh⟩ := rn_i rfl rfl rfl rfl hh
      have hh : pm_run PT n fr lo 96 (102, [some (.ref 0), some (.int (nI g)), some (.int (nI c)), some (.int (v136 q cc gc (Ar h 17) g c)), some (.int (nI (((Ar h 17) g).toNatClampNeg))), some (.int ((v39 q cc gc (fset (cp73 h (27 + 6 * ((fi + si) % 16)) 13) 25 2 (.int (nI (si + 1)))) g c).1)), some (.int (cond (cond (v75 q cc gc (Ar h 18) g c) true false) 1 0))], [.ref 0], v56 q cc gc (v40 q cc gc ((v39 q cc gc (fset (cp73 h (27 + 6 * ((fi + si) % 16)) 13) 25 2 (.int (nI (si + 1)))) g c).2) g c ((v39 q cc gc (fset (cp73 h (27 + 6 * ((fi + si) % 16)) 13) 25 2 (.int (nI (si + 1)))) g c).1)) (((v39 q cc gc (fset (cp73 h (27 + 6 * ((fi + si) % 16)) 13) 25 2 (.int (nI (si + 1)))) g c).1).toInt64) ((cond (cond (v75 q cc gc (Ar h 18) g c) true false) 1 0 : Int32).toInt64), 198, sl) = some R := hh
      obtain ⟨n, hh⟩ := rn_gr hc45.wt rfl rfl (by decide) rfl (by decide) (show _ = some (2, ((13 : Nat) : Int), 1) from rfl) rfl hh
      have hh : pm_run PT n fr lo 96 (105, [some (.ref 0), some (.int (nI g)), some (.int (nI c)), some (.int (v136 q cc gc (Ar h 17) g c)), some (.int (nI (((Ar h 17) g).toNatClampNeg))), some (.int ((v39 q cc gc (fset (cp73 h (27 + 6 * ((fi + si) % 16)) 13) 25 2 (.int (nI (si + 1)))) g c).1)), some (.int (cond (cond (v75 q cc gc (Ar h 18) g c) true false) 1 0))], [.ref 13], v56 q cc gc (v40 q cc gc ((v39 q cc gc (fset (cp73 h (27 + 6 * ((fi + si) % 16)) 13) 25 2 (.int (nI (si + 1)))) g c).2) g c ((v39 q cc gc (fset (cp73 h (27 + 6 * ((fi + si) % 16)) 13) 25 2 (.int (nI (si + 1)))) g c).1)) (((v39 q cc gc (fset (cp73 h (27 + 6 * ((fi + si) % 16)) 13) 25 2 (.int (nI (si + 1)))) g c).1).toInt64) ((cond (cond (v75 q cc gc (Ar h 18) g c) true false) 1 0 : Int32).toInt64), 198, sl) = some R := hh
      obtain ⟨n, hh⟩ := rn_gr hc45.wt rfl rfl (by decide) rfl (by decide) (show _ = some (2, ((15 : Nat) : Int), 1) from rfl) rfl hh
      obtain ⟨n, hh⟩ := rn_i rfl rfl rfl rfl hh
      obtain ⟨n, hh⟩ := rn_i rfl rfl rfl rfl hh
      have hh : pm_run PT n fr lo 96 (111, [some (.ref 0), some (.int (nI g)), some (.int (nI c)), some (.int (v136 q cc gc (Ar h 17) g c)), some (.int (nI (((Ar h 17) g).toNatClampNeg))), some (.int ((v39 q cc gc (fset (cp73 h (27 + 6 * ((fi + si) % 16)) 13) 25 2 (.int (nI (si + 1)))) g c).1)), some (.int (cond (cond (v75 q cc gc (Ar h 18) g c) true false) 1 0))], [.int (nI (((Ar h 17) g).toNatClampNeg)), .int (nI c), .ref 15], v56 q cc gc (v40 q cc gc ((v39 q cc gc (fset (cp73 h (27 + 6 * ((fi + si) % 16)) 13) 25 2 (.int (nI (si + 1)))) g c).2) g c ((v39 q cc gc (fset (cp73 h (27 + 6 * ((fi + si) % 16)) 13) 25 2 (.int (nI (si + 1)))) g c).1)) (((v39 q cc gc (fset (cp73 h (27 + 6 * ((fi + si) % 16)) 13) 25 2 (.int (nI (si + 1)))) g c).1).toInt64) ((cond (cond (v75 q cc gc (Ar h 18) g c) true false) 1 0 : Int32).toInt64), 198, sl) = some R := hh
      obtain ⟨n, fr1, lo1, r1, hh1, hh⟩ := rn_call (w := 2) (t := 160) rfl rfl hh
      have hh1 : pm_run PT n fr1 lo1 160 (0, [some (.int (nI c)), some (.int (nI (((Ar h 17) g).toNatClampNeg)))], [], v56 q cc gc (v40 q cc gc ((v39 q cc gc (fset (cp73 h (27 + 6 * ((fi + si) % 16)) 13) 25 2 (.int (nI (si + 1)))) g c).2) g c ((v39 q cc gc (fset (cp73 h (27 + 6 * ((fi + si) % 16)) 13) 25 2 (.int (nI (si + 1)))) g c).1)) (((v39 q cc gc (fset (cp73 h (27 + 6 * ((fi + si) % 16)) 13) 25 2 (.int (nI (si + 1)))) g c).1).toInt64) ((cond (cond (v75 q cc gc (Ar h 18) g c) true false) 1 0 : Int32).toInt64), 198, sl) = some r1 := hh1
      obtain ⟨n1, hh1⟩ := rn_i rfl rfl rfl rfl hh1
      obtain ⟨n1, hh1⟩ := rn_i rfl rfl rfl rfl hh1
      have hh1 : pm_run PT n1 fr1 lo1 160 (3, [some (.int (nI c)), some (.int (nI (((Ar h 17) g).toNatClampNeg)))], [.int (nI 6), .int (nI c)], v56 q cc gc (v40 q cc gc ((v39 q cc gc (fset (cp73 h (27 + 6 * ((fi + si) % 16)) 13) 25 2 (.int (nI (si + 1)))) g c).2) g c ((v39 q cc gc (fset (cp73 h (27 + 6 * ((fi + si) % 16)) 13) 25 2 (.int (nI (si + 1)))) g c).1)) (((v39 q cc gc (fset (cp73 h (27 + 6 * ((fi + si) % 16)) 13) 25 2 (.int (nI (si + 1)))) g c).1).toInt64) ((cond (cond (v75 q cc gc (Ar h 18) g c) true false) 1 0 : Int32).toInt64), 198, sl) = some r1 := hh1
      obtain ⟨n1, hh1⟩ := en_mul rfl hh1
      have hh1 : pm_run PT n1 fr1 lo1 160 (4, [some (.int (nI c)), some (.int (nI (((Ar h 17) g).toNatClampNeg)))], [.int (nI (c * 6))], v56 q cc gc (v40 q cc gc ((v39 q cc gc (fset (cp73 h (27 + 6 * ((fi + si) % 16)) 13) 25 2 (.int (nI (si + 1)))) g c).2) g c ((v39 q cc gc (fset (cp73 h (27 + 6 * ((fi + si) % 16)) 13) 25 2 (.int (nI (si + 1)))) g c).1)) (((v39 q cc gc (fset (cp73 h (27 + 6 * ((fi + si) % 16)) 13) 25 2 (.int (nI (si + 1)))) g c).1).toInt64) ((cond (cond (v75 q cc gc (Ar h 18) g c) true false) 1 0 : Int32).toInt64), 198, sl) = some r1 := hh1
      obtain ⟨n1, hh1⟩ := rn_i rfl rfl rfl rfl hh1
      have hh1 : pm_run PT n1 fr1 lo1 160 (5, [some (.int (nI c)), some (.int (nI (((Ar h 17) g).toNatClampNeg)))], [.int (nI (((Ar h 17) g).toNatClampNeg)), .int (nI (c * 6))], v56 q cc gc (v40 q cc gc ((v39 q cc gc (fset (cp73 h (27 + 6 * ((fi + si) % 16)) 13) 25 2 (.int (nI (si + 1)))) g c).2) g c ((v39 q cc gc (fset (cp73 h (27 + 6 * ((fi + si) % 16)) 13) 25 2 (.int (nI (si + 1)))) g c).1)) (((v39 q cc gc (fset (cp73 h (27 + 6 * ((fi + si) % 16)) 13) 25 2 (.int (nI (si + 1)))) g c).1).toInt64) ((cond (cond (v75 q cc gc (Ar h 18) g c) true false) 1 0 : Int32).toInt64), 198, sl) = some r1 := hh1
      obtain ⟨n1, hh1⟩ := en_add rfl hh1
      have hh1 : pm_run PT n1 fr1 lo1 160 (6, [some (.int (nI c)), some (.int (nI (((Ar h 17) g).toNatClampNeg)))], [.int (nI (c * 6 + (((Ar h 17) g).toNatClampNeg)))], v56 q cc gc (v40 q cc gc ((v39 q cc gc (fset (cp73 h (27 + 6 * ((fi + si) % 16)) 13) 25 2 (.int (nI (si + 1)))) g c).2) g c ((v39 q cc gc (fset (cp73 h (27 + 6 * ((fi + si) % 16)) 13) 25 2 (.int (nI (si + 1)))) g c).1)) (((v39 q cc gc (fset (cp73 h (27 + 6 * ((fi + si) % 16)) 13) 25 2 (.int (nI (si + 1)))) g c).1).toInt64) ((cond (cond (v75 q cc gc (Ar h 18) g c) true false) 1 0 : Int32).toInt64), 198, sl) = some r1 := hh1
      have hh1 : pm_run PT n1 fr1 lo1 160 (6, [some (.int (nI c)), some (.int (nI (((Ar h 17) g).toNatClampNeg)))], [.int (nI (c * 6 + (((Ar h 17) g).toNatClampNeg)))], v56 q cc gc (v40 q cc gc ((v39 q cc gc (fset (cp73 h (27 + 6 * ((fi + si) % 16)) 13) 25 2 (.int (nI (si + 1)))) g c).2) g c ((v39 q cc gc (fset (cp73 h (27 + 6 * ((fi + si) % 16)) 13) 25 2 (.int (nI (si + 1)))) g c).1)) (((v39 q cc gc (fset (cp73 h (27 + 6 * ((fi + si) % 16)) 13) 25 2 (.int (nI (si + 1)))) g c).1).toInt64) ((cond (cond (v75 q cc gc (Ar h 18) g c) true false) 1 0 : Int32).toInt64), 198, sl) = some r1 := hh1
      have er47 : r1 = (some (.int (nI (c * 6 + (((Ar h 17) g).toNatClampNeg)))), v56 q cc gc (v40 q cc gc ((v39 q cc gc (fset (cp73 h (27 + 6 * ((fi + si) % 16)) 13) 25 2 (.int (nI (si + 1)))) g c).2) g c ((v39 q cc gc (fset (cp73 h (27 + 6 * ((fi + si) % 16)) 13) 25 2 (.int (nI (si + 1)))) g c).1)) (((v39 q cc gc (fset (cp73 h (27 + 6 * ((fi + si) % 16)) 13) 25 2 (.int (nI (si + 1)))) g c).1).toInt64) ((cond (cond (v75 q cc gc (Ar h 18) g c) true false) 1 0 : Int32).toInt64), 198, sl) := (rn_ret rfl (Or.inl rfl) hh1).2
      subst er47
      have hh : pm_run PT n fr lo 96 (114, [some (.ref 0), some (.int (nI g)), some (.int (nI c)), some (.int (v136 q cc gc (Ar h 17) g c)), some (.int (nI (((Ar h 17) g).toNatClampNeg))), some (.int ((v39 q cc gc (fset (cp73 h (27 + 6 * ((fi + si) % 16)) 13) 25 2 (.int (nI (si + 1)))) g c).1)), some (.int (cond (cond (v75 q cc gc (Ar h 18) g c) true false) 1 0))], [.int (nI (c * 6 + (((Ar h 17) g).toNatClampNeg))), .ref 15], v56 q cc gc (v40 q cc gc ((v39 q cc gc (fset (cp73 h (27 + 6 * ((fi + si) % 16)) 13) 25 2 (.int (nI (si + 1)))) g c).2) g c ((v39 q cc gc (fset (cp73 h (27 + 6 * ((fi + si) % 16)) 13) 25 2 (.int (nI (si + 1)))) g c).1)) (((v39 q cc gc (fset (cp73 h (27 + 6 * ((fi + si) % 16)) 13) 25 2 (.int (nI (si + 1)))) g c).1).toInt64) ((cond (cond (v75 q cc gc (Ar h 18) g c) true false) 1 0 : Int32).toInt64), 198, sl) = some R := hh
      obtain ⟨n, hx48, hh⟩ := en_lu (t := c * 6 + (((Ar h 17) g).toNatClampNeg)) (f := Ar (v40 q cc gc ((v39 q cc gc (fset (cp73 h (27 + 6 * ((fi + si) % 16)) 13) 25 2 (.int (nI (si + 1)))) g c).2) g c ((v39 q cc gc (fset (cp73 h (27 + 6 * ((fi + si) % 16)) 13) 25 2 (.int (nI (si + 1)))) g c).1)) 15) (w := (Ar (v40 q cc gc ((v39 q cc gc (fset (cp73 h (27 + 6 * ((fi + si) % 16)) 13) 25 2 (.int (nI (si + 1)))) g c).2) g c ((v39 q cc gc (fset (cp73 h (27 + 6 * ((fi + si) % 16)) 13) 25 2 (.int (nI (si + 1)))) g c).1)) 15) (c * 6 + (((Ar h 17) g).toNatClampNeg))) (nI_clamp (by omega)) hc45.wt rfl (by decide) rfl (by decide) ((Ar_e (hf46.1 15 rfl)).trans rfl) (fun _ => rfl) hh
      have hh : pm_run PT n fr lo 96 (115, [some (.ref 0), some (.int (nI g)), some (.int (nI c)), some (.int (v136 q cc gc (Ar h 17) g c)), some (.int (nI (((Ar h 17) g).toNatClampNeg))), some (.int ((v39 q cc gc (fset (cp73 h (27 + 6 * ((fi + si) % 16)) 13) 25 2 (.int (nI (si + 1)))) g c).1)), some (.int (cond (cond (v75 q cc gc (Ar h 18) g c) true false) 1 0))], [.int ((Ar (v40 q cc gc ((v39 q cc gc (fset (cp73 h (27 + 6 * ((fi + si) % 16)) 13) 25 2 (.int (nI (si + 1)))) g c).2) g c ((v39 q cc gc (fset (cp73 h (27 + 6 * ((fi + si) % 16)) 13) 25 2 (.int (nI (si + 1)))) g c).1)) 15) (c * 6 + (((Ar h 17) g).toNatClampNeg)))], v56 q cc gc (v40 q cc gc ((v39 q cc gc (fset (cp73 h (27 + 6 * ((fi + si) % 16)) 13) 25 2 (.int (nI (si + 1)))) g c).2) g c ((v39 q cc gc (fset (cp73 h (27 + 6 * ((fi + si) % 16)) 13) 25 2 (.int (nI (si + 1)))) g c).1)) (((v39 q cc gc (fset (cp73 h (27 + 6 * ((fi + si) % 16)) 13) 25 2 (.int (nI (si + 1)))) g c).1).toInt64) ((cond (cond (v75 q cc gc (Ar h 18) g c) true false) 1 0 : Int32).toInt64), 198, sl) = some R := hh
      have er49 : R = (some (.int ((Ar (v40 q cc gc ((v39 q cc gc (fset (cp73 h (27 + 6 * ((fi + si) % 16)) 13) 25 2 (.int (nI (si + 1)))) g c).2) g c ((v39 q cc gc (fset (cp73 h (27 + 6 * ((fi + si) % 16)) 13) 25 2 (.int (nI (si + 1)))) g c).1)) 15) (c * 6 + (((Ar h 17) g).toNatClampNeg)))), v56 q cc gc (v40 q cc gc ((v39 q cc gc (fset (cp73 h (27 + 6 * ((fi + si) % 16)) 13) 25 2 (.int (nI (si + 1)))) g c).2) g c ((v39 q cc gc (fset (cp73 h (27 + 6 * ((fi + si) % 16)) 13) 25 2 (.int (nI (si + 1)))) g c).1)) (((v39 q cc gc (fset (cp73 h (27 + 6 * ((fi + si) % 16)) 13) 25 2 (.int (nI (si + 1)))) g c).1).toInt64) ((cond (cond (v75 q cc gc (Ar h 18) g c) true false) 1 0 : Int32).toInt64), 198, sl) := (rn_ret rfl (Or.inl rfl) hh).2
      have ed : v96 q cc gc h fi si g c = ((Ar (v40 q cc gc ((v39 q cc gc (fset (cp73 h (27 + 6 * ((fi + si) % 16)) 13) 25 2 (.int (nI (si + 1)))) g c).2) g c ((v39 q cc gc (fset (cp73 h (27 + 6 * ((fi + si) % 16)) 13) 25 2 (.int (nI (si + 1)))) g c).1)) 15) (c * 6 + (((Ar h 17) g).toNatClampNeg)), v56 q cc gc (v40 q cc gc ((v39 q cc gc (fset (cp73 h (27 + 6 * ((fi + si) % 16)) 13) 25 2 (.int (nI (si + 1)))) g c).2) g c ((v39 q cc gc (fset (cp73 h (27 + 6 * ((fi + si) % 16)) 13) 25 2 (.int (nI (si + 1)))) g c).1)) (((v39 q cc gc (fset (cp73 h (27 + 6 * ((fi + si) % 16)) 13) 25 2 (.int (nI (si + 1)))) g c).1).toInt64) ((cond (cond (v75 q cc gc (Ar h 18) g c) true false) 1 0 : Int32).toInt64)) := (ct z2).trans ((cf z8).trans rfl)
      refine ⟨?_, ?_, ?_⟩ <;> rw [ed]
      · exact er49
      · exact hc45
      · exact (fr_g rfl rfl hf46 (fr_g rfl rfl hf43 (fr_g rfl rfl hf37 (fr_f rfl rfl (fr_c27 (by omega) hw.wt rfl rfl fr_0)))))
  | false =>
    have hh := en_f z2 hh
    have hh : pm_run PT n fr lo 96 (11, [some (.ref 0), some (.int (nI g)), some (.int (nI c)), some (.int (v136 q cc gc (Ar h 17) g c)), none, none, none], [], h, 198, sl) = some R := hh
    obtain ⟨n, hh⟩ := rn_i rfl rfl rfl rfl hh
    have hh : pm_run PT n fr lo 96 (12, [some (.ref 0), some (.int (nI g)), some (.int (nI c)), some (.int (v136 q cc gc (Ar h 17) g c)), none, none, none], [.int (v136 q cc gc (Ar h 17) g c)], h, 198, sl) = some R := hh
    have er50 : R = (some (.int (v136 q cc gc (Ar h 17) g c)), h, 198, sl) := (rn_ret rfl (Or.inl rfl) hh).2
    have ed : v96 q cc gc h fi si g c = (v136 q cc gc (Ar h 17) g c, h) := (cf z2).trans rfl
    refine ⟨?_, ?_, ?_⟩ <;> rw [ed]
    · exact er50
    · exact hw
    · exact fr_0
def v140_2b (q : QT) (cc gc : Nat) (h : pm_H) (m1 : Nat) (i : Nat) : pm_H := v42 q cc gc h
def v140_2 (q : QT) (cc gc : Nat) (m1 : Nat) (j i : Nat) (a : pm_H) : pm_H := lp (fun i a => v140_2b q cc gc a m1 i) j i a
theorem v140_2_e {n fr lo sl cc gc : Nat} {q : QT} {h : pm_H} {R : pm_Rs} {m1 : Nat} {i : Nat} (hw : HC q cc gc h) (h_m1 : m1 < 10000) (hi : m1 ≤ i) (hI : i < 1000000) (hh : pm_run PT n fr lo 140 (2, [some (.ref 0), some (.int (nI m1)), some (.int (nI i))], [], h, 198, sl) = some R) : ∃ m, pm_run PT m fr lo 140 (24, [some (.ref 0), some (.int (nI m1)), some (.int (nI i))], [], h, 198, sl) = some R := by
  have hcc := hw.cb
  have hgc := hw.gb
  have hzr := hw.zr
  obtain ⟨n, hh⟩ := rn_i rfl rfl rfl rfl hh
  obtain ⟨n, hh⟩ := rn_i rfl rfl rfl rfl hh
  have hh : pm_run PT n fr lo 140 (4, [some (.ref 0), some (.int (nI m1)), some (.int (nI i))], [.int (nI m1), .int (nI i)], h, 198, sl) = some R := hh
  obtain ⟨n, hh⟩ := en_cn (cc := .ge) (off := 20) (t := 24) (b := decide (m1 ≤ i)) (hI_ge (by omega) (by omega)) rfl rfl hh
  have hh := en_t (show decide (m1 ≤ i) = true from decide_eq_true (by omega)) hh
  have hh : pm_run PT n fr lo 140 (24, [some (.ref 0), some (.int (nI m1)), some (.int (nI i))], [], h, 198, sl) = some R := hh
  exact ⟨n, hh⟩
theorem v140_2_s {n fr lo sl cc gc : Nat} {q : QT} {h : pm_H} {R : pm_Rs} {m1 : Nat} {i : Nat} (hw : HC q cc gc h) (h_m1 : m1 < 10000) (hi : i < m1) (hI : i < 1000000) (hh : pm_run PT n fr lo 140 (2, [some (.ref 0), some (.int (nI m1)), some (.int (nI i))], [], h, 198, sl) = some R) : ∃ m, HC q cc gc ((v140_2b q cc gc h m1 i)) ∧ frm [13, 14] [(13, 5), (13, 6)] h ((v140_2b q cc gc h m1 i)) ∧ pm_run PT m fr lo 140 (2, [some (.ref 0), some (.int (nI m1)), some (.int (nI (i + 1)))], [], (v140_2b q cc gc h m1 i), 198, sl) = some R := by
  have hcc := hw.cb
  have hgc := hw.gb
  have hzr := hw.zr
  obtain ⟨n, hh⟩ := rn_i rfl rfl rfl rfl hh
  obtain ⟨n, hh⟩ := rn_i rfl rfl rfl rfl hh
  have hh : pm_run PT n fr lo 140 (4, [some (.ref 0), some (.int (nI m1)), some (.int (nI i))], [.int (nI m1), .int (nI i)], h, 198, sl) = some R := hh
  obtain ⟨n, hh⟩ := en_cn (cc := .ge) (off := 20) (t := 24) (b := decide (m1 ≤ i)) (hI_ge (by omega) (by omega)) rfl rfl hh
  have hh := en_f (show decide (m1 ≤ i) = false from decide_eq_false (by omega)) hh
  have hh : pm_run PT n fr lo 140 (7, [some (.ref 0), some (.int (nI m1)), some (.int (nI i))], [], h, 198, sl) = some R := hh
  obtain ⟨n, hh⟩ := rn_i rfl rfl rfl rfl hh
  have hh : pm_run PT n fr lo 140 (8, [some (.ref 0), some (.int (nI m1)), some (.int (nI i))], [.ref 0], h, 198, sl) = some R := hh
  obtain ⟨n, hh⟩ := rn_gr hw.wt rfl rfl (by decide) rfl (by decide) (show _ = some (2, ((5 : Nat) : Int), 1) from rfl) rfl hh
  obtain ⟨n, hh⟩ := rn_i rfl rfl rfl rfl hh
  have hh : pm_run PT n fr lo 140 (12, [some (.ref 0), some (.int (nI m1)), some (.int (nI i))], [.ref 0, .ref 5], h, 198, sl) = some R := hh
  obtain ⟨n, hh⟩ := rn_gr hw.wt rfl rfl (by decide) rfl (by decide) (show _ = some (2, ((13 : Nat) : Int), 1) from rfl) rfl hh
  have hh : pm_run PT n fr lo 140 (15, [some (.ref 0), some (.int (nI m1)), some (.int (nI i))], [.ref 13, .ref 5], h, 198, sl) = some R := hh
  obtain ⟨n, fr1, lo1, r1, hh1, hh⟩ := rn_call (w := 0) (t := 42) rfl rfl hh
  obtain ⟨er1, hc2, hf3⟩ := v42_ok hw hh1
  subst er1
  have hh : pm_run PT n fr lo 140 (18, [some (.ref 0), some (.int (nI m1)), some (.int (nI i))], [], v42 q cc gc h, 198, sl) = some R := hh
  obtain ⟨n, hh⟩ := en_inc (x := i) (c := 1) (j := 2) rfl rfl (by decide) hh
  have hh : pm_run PT n fr lo 140 (21, [some (.ref 0), some (.int (nI m1)), some (.int (nI (i + 1)))], [], v42 q cc gc h, 198, sl) = some R := hh
  obtain ⟨n, hh⟩ := rn_i rfl rfl rfl rfl hh
  have ed : v140_2b q cc gc h m1 i = v42 q cc gc h := rfl
  rw [ed]
  exact ⟨n, hc2, (fr_g rfl rfl hf3 fr_0), hh⟩
theorem v140_2_ok {fr lo sl cc gc : Nat} {q : QT} {R : pm_Rs} {m1 : Nat} : ∀ {j i : Nat} {h : pm_H} {n : Nat}, m1 - i = j → i + j < 1000000 → HC q cc gc h → m1 < 10000 → pm_run PT n fr lo 140 (2, [some (.ref 0), some (.int (nI m1)), some (.int (nI i))], [], h, 198, sl) = some R → ∃ m wc, HC q cc gc ((v140_2 q cc gc m1 j i h)) ∧ frm [13, 14] [(13, 5), (13, 6)] h ((v140_2 q cc gc m1 j i h)) ∧ pm_run PT m fr lo 140 (24, [some (.ref 0), some (.int (nI m1)), wc], [], (v140_2 q cc gc m1 j i h), 198, sl) = some R := by
  intro j
  induction j with
  | zero =>
    intro i h n e eI hw h_m1 hh
    obtain ⟨n, hh⟩ := v140_2_e hw h_m1 (by omega) (by omega) hh
    exact ⟨n, _, hw, fr_0, hh⟩
  | succ j ih =>
    intro i h n e eI hw h_m1 hh
    obtain ⟨n, hc, hf, hh⟩ := v140_2_s hw h_m1 (by omega) (by omega) hh
    obtain ⟨n, wc, hc2, hf2, hh⟩ := ih (by omega) (by omega) hc h_m1 hh
    exact ⟨n, wc, hc2, fr_t hf2 hf, hh⟩
theorem v140_2_fb {cc gc : Nat} {q : QT} {h : pm_H} {m1 : Nat} {i : Nat} (hw : HC q cc gc h) : HC q cc gc ((v140_2b q cc gc h m1 i)) ∧ frm [13, 14] [(13, 5), (13, 6)] h ((v140_2b q cc gc h m1 i)) := by
  unfold v140_2b
  show HC q cc gc (v42 q cc gc h) ∧ frm [13, 14] [(13, 5), (13, 6)] h (v42 q cc gc h)
  exact ⟨(v42_fr hw).1, (fr_g rfl rfl (v42_fr hw).2 fr_0)⟩
theorem v140_2_fr {cc gc : Nat} {q : QT} {m1 : Nat} : ∀ {j i : Nat} {h : pm_H}, HC q cc gc h → HC q cc gc ((v140_2 q cc gc m1 j i h)) ∧ frm [13, 14] [(13, 5), (13, 6)] h ((v140_2 q cc gc m1 j i h)) := by
  intro j
  induction j with
  | zero =>
    intro i h hw
    exact ⟨hw, fr_0⟩
  | succ j ih =>
    intro i h hw
    obtain ⟨a1, a2⟩ := v140_2_fb (i := i) (m1 := m1) hw
    obtain ⟨b1, b2⟩ := ih (i := i + 1) a1
    exact ⟨b1, fr_t b2 a2⟩
def v140 (q : QT) (cc gc : Nat) (h : pm_H) (m : Nat) : pm_H := (v140_2 q cc gc m m 0 h)
theorem v140_ok {n fr lo sl cc gc : Nat} {q : QT} {h : pm_H} {R : pm_Rs} {m : Nat} (hw : HC q cc gc h) (h_m : m < 10000) (hh : pm_run PT n fr lo 140 (0, pm_l0 [.ref 0, .int (nI m)] 3, [], h, 198, sl) = some R) : R = (none, v140 q cc gc h m, 198, sl) ∧ HC q cc gc (v140 q cc gc h m) ∧ frm [13, 14] [(13, 5), (13, 6)] h (v140 q cc gc h m) := by
  have hcc := hw.cb
  have hgc := hw.gb
  have hzr := hw.zr
  obtain ⟨n, hh⟩ := rn_i rfl rfl rfl rfl hh
  obtain ⟨n, hh⟩ := rn_i rfl rfl rfl rfl hh
  have hh : pm_run PT n fr lo 140 (2, [some (.ref 0), some (.int (nI m)), some (.int (nI 0))], [], h, 198, sl) = some R := hh
  obtain ⟨n, u1, hc2, hf3, hh⟩ := v140_2_ok (m1 := m)  (i := 0) (j := m) (by omega) (by omega) hw (by omega) hh
  have hh : pm_run PT n fr lo 140 (24, [some (.ref 0), some (.int (nI m)), u1], [], (v140_2 q cc gc m m 0 h), 198, sl) = some R := hh
  have er4 : R = (none, (v140_2 q cc gc m m 0 h), 198, sl) := rn_vret rfl rfl hh
  have ed : v140 q cc gc h m = (v140_2 q cc gc m m 0 h) := rfl
  refine ⟨?_, ?_, ?_⟩ <;> rw [ed]
  · exact er4
  · exact hc2
  · exact (fr_g rfl rfl hf3 fr_0)
theorem v140_fr {cc gc : Nat} {q : QT} {h : pm_H} {m : Nat} (hw : HC q cc gc h) : HC q cc gc (v140 q cc gc h m) ∧ frm [13, 14] [(13, 5), (13, 6)] h (v140 q cc gc h m) := by
  unfold v140
  show HC q cc gc ((v140_2 q cc gc m m 0 h)) ∧ frm [13, 14] [(13, 5), (13, 6)] h ((v140_2 q cc gc m m 0 h))
  exact ⟨(v140_2_fr (m1 := m) (j := m) (i := 0) hw).1, (fr_g rfl rfl (v140_2_fr (m1 := m) (j := m) (i := 0) hw).2 fr_0)⟩
def v97 (q : QT) (cc gc : Nat) (h : pm_H) (fi : Nat) (si : Nat) (m : Nat) : Int32 × pm_H := cond (decide (m ≤ 60)) (cond (decide (15 ≤ si)) (v270 q cc gc ((Fi (v140 q cc gc (fset (cp73 h (27 + 6 * ((fi + si) % 16)) 13) 25 1 (.int (nI ((fi + 1) % 16)))) m) 13 5) &&& ((Fi h 13 5) ^^^ (Int32.ofInt (-1)))), v56 q cc gc (v140 q cc gc (fset (cp73 h (27 + 6 * ((fi + si) % 16)) 13) 25 1 (.int (nI ((fi + 1) % 16)))) m) (((Fi (v140 q cc gc (fset (cp73 h (27 + 6 * ((fi + si) % 16)) 13) 25 1 (.int (nI ((fi + 1) % 16)))) m) 13 5) &&& ((Fi h 13 5) ^^^ (Int32.ofInt (-1)))).toInt64) ((v36 q cc gc (Ar (v140 q cc gc (fset (cp73 h (27 + 6 * ((fi + si) % 16)) 13) 25 1 (.int (nI ((fi + 1) % 16)))) m) 14)).toInt64)) (v270 q cc gc ((Fi (v140 q cc gc (fset (cp73 h (27 + 6 * ((fi + si) % 16)) 13) 25 2 (.int (nI (si + 1)))) m) 13 5) &&& ((Fi h 13 5) ^^^ (Int32.ofInt (-1)))), v56 q cc gc (v140 q cc gc (fset (cp73 h (27 + 6 * ((fi + si) % 16)) 13) 25 2 (.int (nI (si + 1)))) m) (((Fi (v140 q cc gc (fset (cp73 h (27 + 6 * ((fi + si) % 16)) 13) 25 2 (.int (nI (si + 1)))) m) 13 5) &&& ((Fi h 13 5) ^^^ (Int32.ofInt (-1)))).toInt64) ((v36 q cc gc (Ar (v140 q cc gc (fset (cp73 h (27 + 6 * ((fi + si) % 16)) 13) 25 2 (.int (nI (si + 1)))) m) 14)).toInt64))) ((Int32.ofInt (-1)), h)
theorem v97_ok {n fr lo sl cc gc : Nat} {q : QT} {h : pm_H} {R : pm_Rs} {fi : Nat} {si : Nat} {m : Nat} (hw : HC q cc gc h) (h_m : m < 10000) (hfi : fi < 16) (hsi : si ≤ 15) (e1 : Fi h 25 1 = nI fi) (e2 : Fi h 25 2 = nI si) (hh : pm_run PT n fr lo 97 (0, pm_l0 [.ref 0, .int (nI m)] 4, [], h, 198, sl) = some R) : R = (some (.int ((v97 q cc gc h fi si m).1)), (v97 q cc gc h fi si m).2, 198, sl) ∧ HC q cc gc ((v97 q cc gc h fi si m).2) ∧ frm [3, 4, 13, 14, 25, 27, 28, 29, 30, 31, 32, 33, 34, 35, 36, 37, 38, 39, 40, 41, 42, 43, 44, 45, 46, 47, 48, 49, 50, 51, 52, 53, 54, 55, 56, 57, 58, 59, 60, 61, 62, 63, 64, 65, 66, 67, 68, 69, 70, 71, 72, 73, 74, 75, 76, 77, 78, 79, 80, 81, 82, 83, 84, 85, 86, 87, 88, 89, 90, 91, 92, 93, 94, 95, 96, 97, 98, 99, 100, 101, 102, 103, 104, 105, 106, 107, 108, 109, 110, 111, 112, 113, 114, 115, 116, 117, 118, 119, 120, 121, 122] [(3, 1), (13, 5), (13, 6), (25, 1), (25, 2), (27, 5), (27, 6), (33, 5), (33, 6), (39, 5), (39, 6), (45, 5), (45, 6), (51, 5), (51, 6), (57, 5), (57, 6), (63, 5), (63, 6), (69, 5), (69, 6), (75, 5), (75, 6), (81, 5), (81, 6), (87, 5), (87, 6), (93, 5), (93, 6), (99, 5), (99, 6), (105, 5), (105, 6), (111, 5), (111, 6), (117, 5), (117, 6)] h ((v97 q cc gc h fi si m).2) := by
  have hcc := hw.cb
  have hgc := hw.gb
  have hzr := hw.zr
  obtain ⟨n, hh⟩ := rn_i rfl rfl rfl rfl hh
  have hh : pm_run PT n fr lo 97 (1, [some (.ref 0), some (.int (nI m)), none, none], [.int (nI m)], h, 198, sl) = some R := hh
  obtain ⟨n, hh⟩ := en_zn (cc := .lt) (off := 9) (t := 10) (b := decide (m < 0)) (hI_lt (b := 0) (by omega) (by omega)) rfl rfl hh
  have hh := en_f (show decide (m < 0) = false from decide_eq_false (by omega)) hh
  have hh : pm_run PT n fr lo 97 (4, [some (.ref 0), some (.int (nI m)), none, none], [], h, 198, sl) = some R := hh
  obtain ⟨n, hh⟩ := rn_i rfl rfl rfl rfl hh
  obtain ⟨n, hh⟩ := rn_i rfl rfl rfl rfl hh
  have hh : pm_run PT n fr lo 97 (7, [some (.ref 0), some (.int (nI m)), none, none], [.int (nI 60), .int (nI m)], h, 198, sl) = some R := hh
  obtain ⟨n, hh⟩ := en_cn (cc := .le) (off := 5) (t := 12) (b := decide (m ≤ 60)) (hI_le (by omega) (by omega)) rfl rfl hh
  cases z1 : decide (m ≤ 60) with
  | true =>
    have hh := en_t z1 hh
    have hh : pm_run PT n fr lo 97 (12, [some (.ref 0), some (.int (nI m)), none, none], [], h, 198, sl) = some R := hh
    have y2 := of_decide_eq_true z1
    obtain ⟨n, hh⟩ := rn_i rfl rfl rfl rfl hh
    have hh : pm_run PT n fr lo 97 (13, [some (.ref 0), some (.int (nI m)), none, none], [.ref 0], h, 198, sl) = some R := hh
    obtain ⟨n, hh⟩ := rn_gr hw.wt rfl rfl (by decide) rfl (by decide) (show _ = some (2, ((25 : Nat) : Int), 1) from rfl) rfl hh
    obtain ⟨n, hh⟩ := rn_i rfl rfl rfl rfl hh
    have hh : pm_run PT n fr lo 97 (17, [some (.ref 0), some (.int (nI m)), none, none], [.ref 0, .ref 25], h, 198, sl) = some R := hh
    obtain ⟨n, hh⟩ := rn_gr hw.wt rfl rfl (by decide) rfl (by decide) (show _ = some (2, ((13 : Nat) : Int), 1) from rfl) rfl hh
    have hh : pm_run PT n fr lo 97 (20, [some (.ref 0), some (.int (nI m)), none, none], [.ref 13, .ref 25], h, 198, sl) = some R := hh
    obtain ⟨n, fr1, lo1, r1, hh1, hh⟩ := rn_call (w := 0) (t := 18) rfl rfl hh
    have hh1 : pm_run PT n fr1 lo1 18 (0, [some (.ref 25), some (.ref 13)], [], h, 198, sl) = some r1 := hh1
    obtain ⟨n1, hh1⟩ := rn_i rfl rfl rfl rfl hh1
    obtain ⟨n1, hh1⟩ := rn_i rfl rfl rfl rfl hh1
    have hh1 : pm_run PT n1 fr1 lo1 18 (2, [some (.ref 25), some (.ref 13)], [.ref 13, .ref 25], h, 198, sl) = some r1 := hh1
    obtain ⟨n1, fr2, lo2, r2, hh2, hh1⟩ := rn_call (w := 0) (t := 16) rfl rfl hh1
    have hh2 : pm_run PT n1 fr2 lo2 16 (0, [some (.ref 25), some (.ref 13)], [], h, 198, sl) = some r2 := hh2
    obtain ⟨n2, hh2⟩ := rn_i rfl rfl rfl rfl hh2
    have hh2 : pm_run PT n2 fr2 lo2 16 (1, [some (.ref 25), some (.ref 13)], [.ref 25], h, 198, sl) = some r2 := hh2
    obtain ⟨n2, hh2⟩ := rn_gr hw.wt rfl rfl (by decide) rfl (by decide) (show _ = some (2, ((26 : Nat) : Int), 1) from rfl) rfl hh2
    obtain ⟨n2, hh2⟩ := rn_i rfl rfl rfl rfl hh2
    obtain ⟨n2, hh2⟩ := rn_i rfl rfl rfl rfl hh2
    have hh2 : pm_run PT n2 fr2 lo2 16 (6, [some (.ref 25), some (.ref 13)], [.ref 25, .ref 25, .ref 26], h, 198, sl) = some r2 := hh2
    obtain ⟨n2, hh2⟩ := rn_gi (x := nI si) hw.wt rfl rfl (by decide) rfl (by decide) rfl e2 hh2
    have hh2 : pm_run PT n2 fr2 lo2 16 (9, [some (.ref 25), some (.ref 13)], [.int (nI si), .ref 25, .ref 26], h, 198, sl) = some r2 := hh2
    obtain ⟨n2, fr3, lo3, r3, hh3, hh2⟩ := rn_call (w := 0) (t := 21) rfl rfl hh2
    have hh3 : pm_run PT n2 fr3 lo3 21 (0, [some (.ref 25), some (.int (nI si))], [], h, 198, sl) = some r3 := hh3
    obtain ⟨n3, hh3⟩ := rn_i rfl rfl rfl rfl hh3
    have hh3 : pm_run PT n3 fr3 lo3 21 (1, [some (.ref 25), some (.int (nI si))], [.ref 25], h, 198, sl) = some r3 := hh3
    obtain ⟨n3, hh3⟩ := rn_gi (x := nI fi) hw.wt rfl rfl (by decide) rfl (by decide) rfl e1 hh3
    obtain ⟨n3, hh3⟩ := rn_i rfl rfl rfl rfl hh3
    have hh3 : pm_run PT n3 fr3 lo3 21 (5, [some (.ref 25), some (.int (nI si))], [.int (nI si), .int (nI fi)], h, 198, sl) = some r3 := hh3
    obtain ⟨n3, hh3⟩ := en_add rfl hh3
    have hh3 : pm_run PT n3 fr3 lo3 21 (6, [some (.ref 25), some (.int (nI si))], [.int (nI (fi + si))], h, 198, sl) = some r3 := hh3
    obtain ⟨n3, hh3⟩ := rn_i rfl rfl rfl rfl hh3
    have hh3 : pm_run PT n3 fr3 lo3 21 (8, [some (.ref 25), some (.int (nI si))], [.int (nI 16), .int (nI (fi + si))], h, 198, sl) = some r3 := hh3
    obtain ⟨n3, hh3⟩ := en_r16 (x := fi + si) (by omega) rfl hh3
    have hh3 : pm_run PT n3 fr3 lo3 21 (9, [some (.ref 25), some (.int (nI si))], [.int (nI ((fi + si) % 16))], h, 198, sl) = some r3 := hh3
    have hh3 : pm_run PT n3 fr3 lo3 21 (9, [some (.ref 25), some (.int (nI si))], [.int (nI ((fi + si) % 16))], h, 198, sl) = some r3 := hh3
    have er3 : r3 = (some (.int (nI ((fi + si) % 16))), h, 198, sl) := (rn_ret rfl (Or.inl rfl) hh3).2
    subst er3
    have hh2 : pm_run PT n2 fr2 lo2 16 (12, [some (.ref 25), some (.ref 13)], [.int (nI ((fi + si) % 16)), .ref 26], h, 198, sl) = some r2 := hh2
    obtain ⟨n2, hx4, hh2⟩ := en_q26 (t := (fi + si) % 16) (by omega) hw.wt rfl hh2
    have hh2 : pm_run PT n2 fr2 lo2 16 (13, [some (.ref 25), some (.ref 13)], [.ref (27 + 6 * ((fi + si) % 16))], h, 198, sl) = some r2 := hh2
    obtain ⟨n2, hh2⟩ := rn_i rfl rfl rfl rfl hh2
    have hh2 : pm_run PT n2 fr2 lo2 16 (14, [some (.ref 25), some (.ref 13)], [.ref 13, .ref (27 + 6 * ((fi + si) % 16))], h, 198, sl) = some r2 := hh2
    obtain ⟨n2, fr3, lo3, r3, hh3, hh2⟩ := rn_call (w := 0) (t := 73) rfl rfl hh2
    obtain ⟨er5, hc6⟩ := cp73_ok (xst_27 (by omega)) rfl (by omega) hw hh3
    subst er5
    have er7 : r2 = (none, cp73 h (27 + 6 * ((fi + si) % 16)) 13, 198, sl) := rn_vret rfl rfl hh2
    subst er7
    obtain ⟨n1, hh1⟩ := rn_i rfl rfl rfl rfl hh1
    have hh1 : pm_run PT n1 fr1 lo1 18 (6, [some (.ref 25), some (.ref 13)], [.ref 25], cp73 h (27 + 6 * ((fi + si) % 16)) 13, 198, sl) = some r1 := hh1
    obtain ⟨n1, fr2, lo2, r2, hh2, hh1⟩ := rn_call (w := 0) (t := 17) rfl rfl hh1
    have hh2 : pm_run PT n1 fr2 lo2 17 (0, [some (.ref 25)], [], cp73 h (27 + 6 * ((fi + si) % 16)) 13, 198, sl) = some r2 := hh2
    obtain ⟨n2, hh2⟩ := rn_i rfl rfl rfl rfl hh2
    have hh2 : pm_run PT n2 fr2 lo2 17 (1, [some (.ref 25)], [.ref 25], cp73 h (27 + 6 * ((fi + si) % 16)) 13, 198, sl) = some r2 := hh2
    obtain ⟨n2, hh2⟩ := rn_gi (x := nI si) hc6.wt rfl rfl (by decide) rfl (by decide) rfl ((Fi_e (cp73_ne (by omega))).trans e2) hh2
    obtain ⟨n2, hh2⟩ := rn_i rfl rfl rfl rfl hh2
    have hh2 : pm_run PT n2 fr2 lo2 17 (6, [some (.ref 25)], [.int (nI 15), .int (nI si)], cp73 h (27 + 6 * ((fi + si) % 16)) 13, 198, sl) = some r2 := hh2
    obtain ⟨n2, hh2⟩ := en_cn (cc := .ge) (off := 16) (t := 22) (b := decide (15 ≤ si)) (hI_ge (by omega) (by omega)) rfl rfl hh2
    cases z8 : decide (15 ≤ si) with
    | true =>
      have hh2 := en_t z8 hh2
      have hh2 : pm_run PT n2 fr2 lo2 17 (22, [some (.ref 25)], [], cp73 h (27 + 6 * ((fi + si) % 16)) 13, 198, sl) = some r2 := hh2
      have y9 := of_decide_eq_true z8
      obtain ⟨n2, hh2⟩ := rn_i rfl rfl rfl rfl hh2
      obtain ⟨n2, hh2⟩ := rn_i rfl rfl rfl rfl hh2
      obtain ⟨n2, hh2⟩ := rn_i rfl rfl rfl rfl hh2
      have hh2 : pm_run PT n2 fr2 lo2 17 (25, [some (.ref 25)], [.int (nI 1), .ref 25, .ref 25], cp73 h (27 + 6 * ((fi + si) % 16)) 13, 198, sl) = some r2 := hh2
      obtain ⟨n2, fr3, lo3, r3, hh3, hh2⟩ := rn_call (w := 0) (t := 21) rfl rfl hh2
      have hh3 : pm_run PT n2 fr3 lo3 21 (0, [some (.ref 25), some (.int (nI 1))], [], cp73 h (27 + 6 * ((fi + si) % 16)) 13, 198, sl) = some r3 := hh3
      obtain ⟨n3, hh3⟩ := rn_i rfl rfl rfl rfl hh3
      have hh3 : pm_run PT n3 fr3 lo3 21 (1, [some (.ref 25), some (.int (nI 1))], [.ref 25], cp73 h (27 + 6 * ((fi + si) % 16)) 13, 198, sl) = some r3 := hh3
      obtain ⟨n3, hh3⟩ := rn_gi (x := nI fi) hc6.wt rfl rfl (by decide) rfl (by decide) rfl ((Fi_e (cp73_ne (by omega))).trans e1) hh3
      obtain ⟨n3, hh3⟩ := rn_i rfl rfl rfl rfl hh3
      have hh3 : pm_run PT n3 fr3 lo3 21 (5, [some (.ref 25), some (.int (nI 1))], [.int (nI 1), .int (nI fi)], cp73 h (27 + 6 * ((fi + si) % 16)) 13, 198, sl) = some r3 := hh3
      obtain ⟨n3, hh3⟩ := en_add rfl hh3
      have hh3 : pm_run PT n3 fr3 lo3 21 (6, [some (.ref 25), some (.int (nI 1))], [.int (nI (fi + 1))], cp73 h (27 + 6 * ((fi + si) % 16)) 13, 198, sl) = some r3 := hh3
      obtain ⟨n3, hh3⟩ := rn_i rfl rfl rfl rfl hh3
      have hh3 : pm_run PT n3 fr3 lo3 21 (8, [some (.ref 25), some (.int (nI 1))], [.int (nI 16), .int (nI (fi + 1))], cp73 h (27 + 6 * ((fi + si) % 16)) 13, 198, sl) = some r3 := hh3
      obtain ⟨n3, hh3⟩ := en_r16 (x := fi + 1) (by omega) rfl hh3
      have hh3 : pm_run PT n3 fr3 lo3 21 (9, [some (.ref 25), some (.int (nI 1))], [.int (nI ((fi + 1) % 16))], cp73 h (27 + 6 * ((fi + si) % 16)) 13, 198, sl) = some r3 := hh3
      have hh3 : pm_run PT n3 fr3 lo3 21 (9, [some (.ref 25), some (.int (nI 1))], [.int (nI ((fi + 1) % 16))], cp73 h (27 + 6 * ((fi + si) % 16)) 13, 198, sl) = some r3 := hh3
      have er10 : r3 = (some (.int (nI ((fi + 1) % 16))), cp73 h (27 + 6 * ((fi + si) % 16)) 13, 198, sl) := (rn_ret rfl (Or.inl rfl) hh3).2
      subst er10
      have hh2 : pm_run PT n2 fr2 lo2 17 (28, [some (.ref 25)], [.int (nI ((fi + 1) % 16)), .ref 25], cp73 h (27 + 6 * ((fi + si) % 16)) 13, 198, sl) = some r2 := hh2
      obtain ⟨n2, hh2⟩ := rn_pi hc6.wt rfl rfl (by decide) rfl (by decide) rfl hh2
      have er11 : r2 = (none, fset (cp73 h (27 + 6 * ((fi + si) % 16)) 13) 25 1 (.int (nI ((fi + 1) % 16))), 198, sl) := rn_vret rfl rfl hh2
      subst er11
      have er12 : r1 = (none, fset (cp73 h (27 + 6 * ((fi + si) % 16)) 13) 25 1 (.int (nI ((fi + 1) % 16))), 198, sl) := rn_vret rfl rfl hh1
      subst er12
      obtain ⟨n, hh⟩ := rn_i rfl rfl rfl rfl hh
      have hh : pm_run PT n fr lo 97 (24, [some (.ref 0), some (.int (nI m)), none, none], [.ref 0], fset (cp73 h (27 + 6 * ((fi + si) % 16)) 13) 25 1 (.int (nI ((fi + 1) % 16))), 198, sl) = some R := hh
      obtain ⟨n, hh⟩ := rn_gr (hc_f rfl rfl (by decide) rfl hc6).wt rfl rfl (by decide) rfl (by decide) (show _ = some (2, ((13 : Nat) : Int), 1) from rfl) rfl hh
      have hh : pm_run PT n fr lo 97 (27, [some (.ref 0), some (.int (nI m)), none, none], [.ref 13], fset (cp73 h (27 + 6 * ((fi + si) % 16)) 13) 25 1 (.int (nI ((fi + 1) % 16))), 198, sl) = some R := hh
      obtain ⟨n, hh⟩ := rn_gi (x := Fi h 13 5) (hc_f rfl rfl (by decide) rfl hc6).wt rfl rfl (by decide) rfl (by decide) rfl ((Fi_n (Or.inl (by decide))).trans ((Fi_e (cp73_ne (by omega))).trans rfl)) hh
      obtain ⟨n, hh⟩ := rn_i rfl rfl rfl rfl hh
      obtain ⟨n, hh⟩ := rn_i rfl rfl rfl rfl hh
      obtain ⟨n, hh⟩ := rn_i rfl rfl rfl rfl hh
      have hh : pm_run PT n fr lo 97 (33, [some (.ref 0), some (.int (nI m)), some (.int (Fi h 13 5)), none], [.int (nI m), .ref 0], fset (cp73 h (27 + 6 * ((fi + si) % 16)) 13) 25 1 (.int (nI ((fi + 1) % 16))), 198, sl) = some R := hh
      obtain ⟨n, fr1, lo1, r1, hh1, hh⟩ := rn_call (w := 0) (t := 140) rfl rfl hh
      obtain ⟨er13, hc14, hf15⟩ := v140_ok (m := m) (hc_f rfl rfl (by decide) rfl hc6) (by omega) hh1
      subst er13
      obtain ⟨n, hh⟩ := rn_i rfl rfl rfl rfl hh
      have hh : pm_run PT n fr lo 97 (37, [some (.ref 0), some (.int (nI m)), some (.int (Fi h 13 5)), none], [.ref 0], v140 q cc gc (fset (cp73 h (27 + 6 * ((fi + si) % 16)) 13) 25 1 (.int (nI ((fi + 1) % 16)))) m, 198, sl) = some R := hh
      obtain ⟨n, hh⟩ := rn_gr hc14.wt rfl rfl (by decide) rfl (by decide) (show _ = some (2, ((13 : Nat) : Int), 1) from rfl) rfl hh
      have hh : pm_run PT n fr lo 97 (40, [some (.ref 0), some (.int (nI m)), some (.int (Fi h 13 5)), none], [.ref 13], v140 q cc gc (fset (cp73 h (27 + 6 * ((fi + si) % 16)) 13) 25 1 (.int (nI ((fi + 1) % 16)))) m, 198, sl) = some R := hh
      obtain ⟨n, hh⟩ := rn_gi (x := Fi (v140 q cc gc (fset (cp73 h (27 + 6 * ((fi + si) % 16)) 13) 25 1 (.int (nI ((fi + 1) % 16)))) m) 13 5) hc14.wt rfl rfl (by decide) rfl (by decide) rfl rfl hh
      obtain ⟨n, hh⟩ := rn_i rfl rfl rfl rfl hh
      obtain ⟨n, hh⟩ := rn_i rfl rfl rfl rfl hh
      obtain ⟨n, hh⟩ := rn_i rfl rfl rfl rfl hh
      obtain ⟨n, hh⟩ := rn_i rfl rfl rfl rfl hh
      obtain ⟨n, hh⟩ := rn_i rfl rfl rfl rfl hh
      obtain ⟨n, hh⟩ := rn_i rfl rfl rfl rfl hh
      have hh : pm_run PT n fr lo 97 (49, [some (.ref 0), some (.int (nI m)), some (.int (Fi h 13 5)), some (.int ((Fi (v140 q cc gc (fset (cp73 h (27 + 6 * ((fi + si) % 16)) 13) 25 1 (.int (nI ((fi + 1) % 16)))) m) 13 5) &&& ((Fi h 13 5) ^^^ (Int32.ofInt (-1)))))], [.ref 0], v140 q cc gc (fset (cp73 h (27 + 6 * ((fi + si) % 16)) 13) 25 1 (.int (nI ((fi + 1) % 16)))) m, 198, sl) = some R := hh
      obtain ⟨n, hh⟩ := rn_gr hc14.wt rfl rfl (by decide) rfl (by decide) (show _ = some (2, ((3 : Nat) : Int), 1) from rfl) rfl hh
      obtain ⟨n, hh⟩ := rn_i rfl rfl rfl rfl hh
      obtain ⟨n, hh⟩ := rn_i rfl rfl rfl rfl hh
      obtain ⟨n, hh⟩ := rn_i rfl rfl rfl rfl hh
      have hh : pm_run PT n fr lo 97 (55, [some (.ref 0), some (.int (nI m)), some (.int (Fi h 13 5)), some (.int ((Fi (v140 q cc gc (fset (cp73 h (27 + 6 * ((fi + si) % 16)) 13) 25 1 (.int (nI ((fi + 1) % 16)))) m) 13 5) &&& ((Fi h 13 5) ^^^ (Int32.ofInt (-1)))))], [.ref 0, .long (((Fi (v140 q cc gc (fset (cp73 h (27 + 6 * ((fi + si) % 16)) 13) 25 1 (.int (nI ((fi + 1) % 16)))) m) 13 5) &&& ((Fi h 13 5) ^^^ (Int32.ofInt (-1)))).toInt64), .ref 3], v140 q cc gc (fset (cp73 h (27 + 6 * ((fi + si) % 16)) 13) 25 1 (.int (nI ((fi + 1) % 16)))) m, 198, sl) = some R := hh
      obtain ⟨n, hh⟩ := rn_gr hc14.wt rfl rfl (by decide) rfl (by decide) (show _ = some (2, ((5 : Nat) : Int), 1) from rfl) rfl hh
      obtain ⟨n, hh⟩ := rn_i rfl rfl rfl rfl hh
      have hh : pm_run PT n fr lo 97 (59, [some (.ref 0), some (.int (nI m)), some (.int (Fi h 13 5)), some (.int ((Fi (v140 q cc gc (fset (cp73 h (27 + 6 * ((fi + si) % 16)) 13) 25 1 (.int (nI ((fi + 1) % 16)))) m) 13 5) &&& ((Fi h 13 5) ^^^ (Int32.ofInt (-1)))))], [.ref 0, .ref 5, .long (((Fi (v140 q cc gc (fset (cp73 h (27 + 6 * ((fi + si) % 16)) 13) 25 1 (.int (nI ((fi + 1) % 16)))) m) 13 5) &&& ((Fi h 13 5) ^^^ (Int32.ofInt (-1)))).toInt64), .ref 3], v140 q cc gc (fset (cp73 h (27 + 6 * ((fi + si) % 16)) 13) 25 1 (.int (nI ((fi + 1) % 16)))) m, 198, sl) = some R := hh
      obtain ⟨n, hh⟩ := rn_gr hc14.wt rfl rfl (by decide) rfl (by decide) (show _ = some (2, ((13 : Nat) : Int), 1) from rfl) rfl hh
      have hh : pm_run PT n fr lo 97 (62, [some (.ref 0), some (.int (nI m)), some (.int (Fi h 13 5)), some (.int ((Fi (v140 q cc gc (fset (cp73 h (27 + 6 * ((fi + si) % 16)) 13) 25 1 (.int (nI ((fi + 1) % 16)))) m) 13 5) &&& ((Fi h 13 5) ^^^ (Int32.ofInt (-1)))))], [.ref 13, .ref 5, .long (((Fi (v140 q cc gc (fset (cp73 h (27 + 6 * ((fi + si) % 16)) 13) 25 1 (.int (nI ((fi + 1) % 16)))) m) 13 5) &&& ((Fi h 13 5) ^^^ (Int32.ofInt (-1)))).toInt64), .ref 3], v140 q cc gc (fset (cp73 h (27 + 6 * ((fi + si) % 16)) 13) 25 1 (.int (nI ((fi + 1) % 16)))) m, 198, sl) = some R := hh
      obtain ⟨n, fr1, lo1, r1, hh1, hh⟩ := rn_call (w := 0) (t := 36) rfl rfl hh
      have er16 := v36_ok hc14 hh1
      subst er16
      obtain ⟨n, hh⟩ := rn_i rfl rfl rfl rfl hh
      have hh : pm_run PT n fr lo 97 (66, [some (.ref 0), some (.int (nI m)), some (.int (Fi h 13 5)), some (.int ((Fi (v140 q cc gc (fset (cp73 h (27 + 6 * ((fi + si) % 16)) 13) 25 1 (.int (nI ((fi + 1) % 16)))) m) 13 5) &&& ((Fi h 13 5) ^^^ (Int32.ofInt (-1)))))], [.long ((v36 q cc gc (Ar (v140 q cc gc (fset (cp73 h (27 + 6 * ((fi + si) % 16)) 13) 25 1 (.int (nI ((fi + 1) % 16)))) m) 14)).toInt64), .long (((Fi (v140 q cc gc (fset (cp73 h (27 + 6 * ((fi + si) % 16)) 13) 25 1 (.int (nI ((fi + 1) % 16)))) m) 13 5) &&& ((Fi h 13 5) ^^^ (Int32.ofInt (-1)))).toInt64), .ref 3], v140 q cc gc (fset (cp73 h (27 + 6 * ((fi + si) % 16)) 13) 25 1 (.int (nI ((fi + 1) % 16)))) m, 198, sl) = some R := hh
      obtain ⟨n, fr1, lo1, r1, hh1, hh⟩ := rn_call (w := 0) (t := 56) rfl rfl hh
      obtain ⟨er17, hc18, hf19⟩ := v56_ok (v := (((Fi (v140 q cc gc (fset (cp73 h (27 + 6 * ((fi + si) % 16)) 13) 25 1 (.int (nI ((fi + 1) % 16)))) m) 13 5) &&& ((Fi h 13 5) ^^^ (Int32.ofInt (-1)))).toInt64)) (w := ((v36 q cc gc (Ar (v140 q cc gc (fset (cp73 h (27 + 6 * ((fi + si) % 16)) 13) 25 1 (.int (nI ((fi + 1) % 16)))) m) 14)).toInt64)) hc14 hh1
      subst er17
      obtain ⟨n, hh⟩ := rn_i rfl rfl rfl rfl hh
      have hh : pm_run PT n fr lo 97 (70, [some (.ref 0), some (.int (nI m)), some (.int (Fi h 13 5)), some (.int ((Fi (v140 q cc gc (fset (cp73 h (27 + 6 * ((fi + si) % 16)) 13) 25 1 (.int (nI ((fi + 1) % 16)))) m) 13 5) &&& ((Fi h 13 5) ^^^ (Int32.ofInt (-1)))))], [.int ((Fi (v140 q cc gc (fset (cp73 h (27 + 6 * ((fi + si) % 16)) 13) 25 1 (.int (nI ((fi + 1) % 16)))) m) 13 5) &&& ((Fi h 13 5) ^^^ (Int32.ofInt (-1))))], v56 q cc gc (v140 q cc gc (fset (cp73 h (27 + 6 * ((fi + si) % 16)) 13) 25 1 (.int (nI ((fi + 1) % 16)))) m) (((Fi (v140 q cc gc (fset (cp73 h (27 + 6 * ((fi + si) % 16)) 13) 25 1 (.int (nI ((fi + 1) % 16)))) m) 13 5) &&& ((Fi h 13 5) ^^^ (Int32.ofInt (-1)))).toInt64) ((v36 q cc gc (Ar (v140 q cc gc (fset (cp73 h (27 + 6 * ((fi + si) % 16)) 13) 25 1 (.int (nI ((fi + 1) % 16)))) m) 14)).toInt64), 198, sl) = some R := hh
      obtain ⟨n, fr1, lo1, r1, hh1, hh⟩ := rn_call (w := 2) (t := 270) rfl rfl hh
      have er20 := v270_ok (a := ((Fi (v140 q cc gc (fset (cp73 h (27 + 6 * ((fi + si) % 16)) 13) 25 1 (.int (nI ((fi + 1) % 16)))) m) 13 5) &&& ((Fi h 13 5) ^^^ (Int32.ofInt (-1))))) hc18 hh1
      subst er20
      have hh : pm_run PT n fr lo 97 (73, [some (.ref 0), some (.int (nI m)), some (.int (Fi h 13 5)), some (.int ((Fi (v140 q cc gc (fset (cp73 h (27 + 6 * ((fi + si) % 16)) 13) 25 1 (.int (nI ((fi + 1) % 16)))) m) 13 5) &&& ((Fi h 13 5) ^^^ (Int32.ofInt (-1)))))], [.int (v270 q cc gc ((Fi (v140 q cc gc (fset (cp73 h (27 + 6 * ((fi + si) % 16)) 13) 25 1 (.int (nI ((fi + 1) % 16)))) m) 13 5) &&& ((Fi h 13 5) ^^^ (Int32.ofInt (-1)))))], v56 q cc gc (v140 q cc gc (fset (cp73 h (27 + 6 * ((fi + si) % 16)) 13) 25 1 (.int (nI ((fi + 1) % 16)))) m) (((Fi (v140 q cc gc (fset (cp73 h (27 + 6 * ((fi + si) % 16)) 13) 25 1 (.int (nI ((fi + 1) % 16)))) m) 13 5) &&& ((Fi h 13 5) ^^^ (Int32.ofInt (-1)))).toInt64) ((v36 q cc gc (Ar (v140 q cc gc (fset (cp73 h (27 + 6 * ((fi + si) % 16)) 13) 25 1 (.int (nI ((fi + 1) % 16)))) m) 14)).toInt64), 198, sl) = some R := hh
      have er21 : R = (some (.int (v270 q cc gc ((Fi (v140 q cc gc (fset (cp73 h (27 + 6 * ((fi + si) % 16)) 13) 25 1 (.int (nI ((fi + 1) % 16)))) m) 13 5) &&& ((Fi h 13 5) ^^^ (Int32.ofInt (-1)))))), v56 q cc gc (v140 q cc gc (fset (cp73 h (27 + 6 * ((fi + si) % 16)) 13) 25 1 (.int (nI ((fi + 1) % 16)))) m) (((Fi (v140 q cc gc (fset (cp73 h (27 + 6 * ((fi + si) % 16)) 13) 25 1 (.int (nI ((fi + 1) % 16)))) m) 13 5) &&& ((Fi h 13 5) ^^^ (Int32.ofInt (-1)))).toInt64) ((v36 q cc gc (Ar (v140 q cc gc (fset (cp73 h (27 + 6 * ((fi + si) % 16)) 13) 25 1 (.int (nI ((fi + 1) % 16)))) m) 14)).toInt64), 198, sl) := (rn_ret rfl (Or.inl rfl) hh).2
      have ed : v97 q cc gc h fi si m = (v270 q cc gc ((Fi (v140 q cc gc (fset (cp73 h (27 + 6 * ((fi + si) % 16)) 13) 25 1 (.int (nI ((fi + 1) % 16)))) m) 13 5) &&& ((Fi h 13 5) ^^^ (Int32.ofInt (-1)))), v56 q cc gc (v140 q cc gc (fset (cp73 h (27 + 6 * ((fi + si) % 16)) 13) 25 1 (.int (nI ((fi + 1) % 16)))) m) (((Fi (v140 q cc gc (fset (cp73 h (27 + 6 * ((fi + si) % 16)) 13) 25 1 (.int (nI ((fi + 1) % 16)))) m) 13 5) &&& ((Fi h 13 5) ^^^ (Int32.ofInt (-1)))).toInt64) ((v36 q cc gc (Ar (v140 q cc gc (fset (cp73 h (27 + 6 * ((fi + si) % 16)) 13) 25 1 (.int (nI ((fi + 1) % 16)))) m) 14)).toInt64)) := (ct z1).trans ((ct z8).trans rfl)
      refine ⟨?_, ?_, ?_⟩ <;> rw [ed]
      · exact er21
      · exact hc18
      · exact (fr_g rfl rfl hf19 (fr_g rfl rfl hf15 (fr_f rfl rfl (fr_c27 (by omega) hw.wt rfl rfl fr_0))))
    | false =>
      have hh2 := en_f z8 hh2
      have hh2 : pm_run PT n2 fr2 lo2 17 (9, [some (.ref 25)], [], cp73 h (27 + 6 * ((fi + si) % 16)) 13, 198, sl) = some r2 := hh2
      have y22 := of_decide_eq_false z8
      obtain ⟨n2, hh2⟩ := rn_i rfl rfl rfl rfl hh2
      obtain ⟨n2, hh2⟩ := rn_i rfl rfl rfl rfl hh2
      have hh2 : pm_run PT n2 fr2 lo2 17 (11, [some (.ref 25)], [.ref 25, .ref 25], cp73 h (27 + 6 * ((fi + si) % 16)) 13, 198, sl) = some r2 := hh2
      obtain ⟨n2, hh2⟩ := rn_gi (x := nI si) hc6.wt rfl rfl (by decide) rfl (by decide) rfl ((Fi_e (cp73_ne (by omega))).trans e2) hh2
      obtain ⟨n2, hh2⟩ := rn_i rfl rfl rfl rfl hh2
      have hh2 : pm_run PT n2 fr2 lo2 17 (15, [some (.ref 25)], [.int (nI 1), .int (nI si), .ref 25], cp73 h (27 + 6 * ((fi + si) % 16)) 13, 198, sl) = some r2 := hh2
      obtain ⟨n2, hh2⟩ := en_add rfl hh2
      have hh2 : pm_run PT n2 fr2 lo2 17 (16, [some (.ref 25)], [.int (nI (si + 1)), .ref 25], cp73 h (27 + 6 * ((fi + si) % 16)) 13, 198, sl) = some r2 := hh2
      have hh2 : pm_run PT n2 fr2 lo2 17 (16, [some (.ref 25)], [.int (nI (si + 1)), .ref 25], cp73 h (27 + 6 * ((fi + si) % 16)) 13, 198, sl) = some r2 := hh2
      obtain ⟨n2, hh2⟩ := rn_pi hc6.wt rfl rfl (by decide) rfl (by decide) rfl hh2
      obtain ⟨n2, hh2⟩ := rn_i rfl rfl rfl rfl hh2
      have er23 : r2 = (none, fset (cp73 h (27 + 6 * ((fi + si) % 16)) 13) 25 2 (.int (nI (si + 1))), 198, sl) := rn_vret rfl rfl hh2
      subst er23
      have er24 : r1 = (none, fset (cp73 h (27 + 6 * ((fi + si) % 16)) 13) 25 2 (.int (nI (si + 1))), 198, sl) := rn_vret rfl rfl hh1
      subst er24
      obtain ⟨n, hh⟩ := rn_i rfl rfl rfl rfl hh
      have hh : pm_run PT n fr lo 97 (24, [some (.ref 0), some (.int (nI m)), none, none], [.ref 0], fset (cp73 h (27 + 6 * ((fi + si) % 16)) 13) 25 2 (.int (nI (si + 1))), 198, sl) = some R := hh
      obtain ⟨n, hh⟩ := rn_gr (hc_f rfl rfl (by decide) rfl hc6).wt rfl rfl (by decide) rfl (by decide) (show _ = some (2, ((13 : Nat) : Int), 1) from rfl) rfl hh
      have hh : pm_run PT n fr lo 97 (27, [some (.ref 0), some (.int (nI m)), none, none], [.ref 13], fset (cp73 h (27 + 6 * ((fi + si) % 16)) 13) 25 2 (.int (nI (si + 1))), 198, sl) = some R := hh
      obtain ⟨n, hh⟩ := rn_gi (x := Fi h 13 5) (hc_f rfl rfl (by decide) rfl hc6).wt rfl rfl (by decide) rfl (by decide) rfl ((Fi_n (Or.inl (by decide))).trans ((Fi_e (cp73_ne (by omega))).trans rfl)) hh
      obtain ⟨n, hh⟩ := rn_i rfl rfl rfl rfl hh
      obtain ⟨n, hh⟩ := rn_i rfl rfl rfl rfl hh
      obtain ⟨n, hh⟩ := rn_i rfl rfl rfl rfl hh
      have hh : pm_run PT n fr lo 97 (33, [some (.ref 0), some (.int (nI m)), some (.int (Fi h 13 5)), none], [.int (nI m), .ref 0], fset (cp73 h (27 + 6 * ((fi + si) % 16)) 13) 25 2 (.int (nI (si + 1))), 198, sl) = some R := hh
      obtain ⟨n, fr1, lo1, r1, hh1, hh⟩ := rn_call (w := 0) (t := 140) rfl rfl hh
      obtain ⟨er25, hc26, hf27⟩ := v140_ok (m := m) (hc_f rfl rfl (by decide) rfl hc6) (by omega) hh1
      subst er25
      obtain ⟨n, hh⟩ := rn_i rfl rfl rfl rfl hh
      have hh : pm_run PT n fr lo 97 (37, [some (.ref 0), some (.int (nI m)), some (.int (Fi h 13 5)), none], [.ref 0], v140 q cc gc (fset (cp73 h (27 + 6 * ((fi + si) % 16)) 13) 25 2 (.int (nI (si + 1)))) m, 198, sl) = some R := hh
      obtain ⟨n, hh⟩ := rn_gr hc26.wt rfl rfl (by decide) rfl (by decide) (show _ = some (2, ((13 : Nat) : Int), 1) from rfl) rfl hh
      have hh : pm_run PT n fr lo 97 (40, [some (.ref 0), some (.int (nI m)), some (.int (Fi h 13 5)), none], [.ref 13], v140 q cc gc (fset (cp73 h (27 + 6 * ((fi + si) % 16)) 13) 25 2 (.int (nI (si + 1)))) m, 198, sl) = some R := hh
      obtain ⟨n, hh⟩ := rn_gi (x := Fi (v140 q cc gc (fset (cp73 h (27 + 6 * ((fi + si) % 16)) 13) 25 2 (.int (nI (si + 1)))) m) 13 5) hc26.wt rfl rfl (by decide) rfl (by decide) rfl rfl hh
      obtain ⟨n, hh⟩ := rn_i rfl rfl rfl rfl hh
      obtain ⟨n, hh⟩ := rn_i rfl rfl rfl rfl hh
      obtain ⟨n, hh⟩ := rn_i rfl rfl rfl rfl hh
      obtain ⟨n, hh⟩ := rn_i rfl rfl rfl rfl hh
      obtain ⟨n, hh⟩ := rn_i rfl rfl rfl rfl hh
      obtain ⟨n, hh⟩ := rn_i rfl rfl rfl rfl hh
      have hh : pm_run PT n fr lo 97 (49, [some (.ref 0), some (.int (nI m)), some (.int (Fi h 13 5)), some (.int ((Fi (v140 q cc gc (fset (cp73 h (27 + 6 * ((fi + si) % 16)) 13) 25 2 (.int (nI (si + 1)))) m) 13 5) &&& ((Fi h 13 5) ^^^ (Int32.ofInt (-1)))))], [.ref 0], v140 q cc gc (fset (cp73 h (27 + 6 * ((fi + si) % 16)) 13) 25 2 (.int (nI (si + 1)))) m, 198, sl) = some R := hh
      obtain ⟨n, hh⟩ := rn_gr hc26.wt rfl rfl (by decide) rfl (by decide) (show _ = some (2, ((3 : Nat) : Int), 1) from rfl) rfl hh
      obtain ⟨n, hh⟩ := rn_i rfl rfl rfl rfl hh
      obtain ⟨n, hh⟩ := rn_i rfl rfl rfl rfl hh
      obtain ⟨n, hh⟩ := rn_i rfl rfl rfl rfl hh
      have hh : pm_run PT n fr lo 97 (55, [some (.ref 0), some (.int (nI m)), some (.int (Fi h 13 5)), some (.int ((Fi (v140 q cc gc (fset (cp73 h (27 + 6 * ((fi + si) % 16)) 13) 25 2 (.int (nI (si + 1)))) m) 13 5) &&& ((Fi h 13 5) ^^^ (Int32.ofInt (-1)))))], [.ref 0, .long (((Fi (v140 q cc gc (fset (cp73 h (27 + 6 * ((fi + si) % 16)) 13) 25 2 (.int (nI (si + 1)))) m) 13 5) &&& ((Fi h 13 5) ^^^ (Int32.ofInt (-1)))).toInt64), .ref 3], v140 q cc gc (fset (cp73 h (27 + 6 * ((fi + si) % 16)) 13) 25 2 (.int (nI (si + 1)))) m, 198, sl) = some R := hh
      obtain ⟨n, hh⟩ := rn_gr hc26.wt rfl rfl (by decide) rfl (by decide) (show _ = some (2, ((5 : Nat) : Int), 1) from rfl) rfl hh
      obtain ⟨n, hh⟩ := rn_i rfl rfl rfl rfl hh
      have hh : pm_run PT n fr lo 97 (59, [some (.ref 0), some (.int (nI m)), some (.int (Fi h 13 5)), some (.int ((Fi (v140 q cc gc (fset (cp73 h (27 + 6 * ((fi + si) % 16)) 13) 25 2 (.int (nI (si + 1)))) m) 13 5) &&& ((Fi h 13 5) ^^^ (Int32.ofInt (-1)))))], [.ref 0, .ref 5, .long (((Fi (v140 q cc gc (fset (cp73 h (27 + 6 * ((fi + si) % 16)) 13) 25 2 (.int (nI (si + 1)))) m) 13 5) &&& ((Fi h 13 5) ^^^ (Int32.ofInt (-1)))).toInt64), .ref 3], v140 q cc gc (fset (cp73 h (27 + 6 * ((fi + si) % 16)) 13) 25 2 (.int (nI (si + 1)))) m, 198, sl) = some R := hh
      obtain ⟨n, hh⟩ := rn_gr hc26.wt rfl rfl (by decide) rfl (by decide) (show _ = some (2, ((13 : Nat) : Int), 1) from rfl) rfl hh
      have hh : pm_run PT n fr lo 97 (62, [some (.ref 0), some (.int (nI m)), some (.int (Fi h 13 5)), some (.int ((Fi (v140 q cc gc (fset (cp73 h (27 + 6 * ((fi + si) % 16)) 13) 25 2 (.int (nI (si + 1)))) m) 13 5) &&& ((Fi h 13 5) ^^^ (Int32.ofInt (-1)))))], [.ref 13, .ref 5, .long (((Fi (v140 q cc gc (fset (cp73 h (27 + 6 * ((fi + si) % 16)) 13) 25 2 (.int (nI (si + 1)))) m) 13 5) &&& ((Fi h 13 5) ^^^ (Int32.ofInt (-1)))).toInt64), .ref 3], v140 q cc gc (fset (cp73 h (27 + 6 * ((fi + si) % 16)) 13) 25 2 (.int (nI (si + 1)))) m, 198, sl) = some R := hh
      obtain ⟨n, fr1, lo1, r1, hh1, hh⟩ := rn_call (w := 0) (t := 36) rfl rfl hh
      have er28 := v36_ok hc26 hh1
      subst er28
      obtain ⟨n, hh⟩ := rn_i rfl rfl rfl rfl hh
      have hh : pm_run PT n fr lo 97 (66, [some (.ref 0), some (.int (nI m)), some (.int (Fi h 13 5)), some (.int ((Fi (v140 q cc gc (fset (cp73 h (27 + 6 * ((fi + si) % 16)) 13) 25 2 (.int (nI (si + 1)))) m) 13 5) &&& ((Fi h 13 5) ^^^ (Int32.ofInt (-1)))))], [.long ((v36 q cc gc (Ar (v140 q cc gc (fset (cp73 h (27 + 6 * ((fi + si) % 16)) 13) 25 2 (.int (nI (si + 1)))) m) 14)).toInt64), .long (((Fi (v140 q cc gc (fset (cp73 h (27 + 6 * ((fi + si) % 16)) 13) 25 2 (.int (nI (si + 1)))) m) 13 5) &&& ((Fi h 13 5) ^^^ (Int32.ofInt (-1)))).toInt64), .ref 3], v140 q cc gc (fset (cp73 h (27 + 6 * ((fi + si) % 16)) 13) 25 2 (.int (nI (si + 1)))) m, 198, sl) = some R := hh
      obtain ⟨n, fr1, lo1, r1, hh1, hh⟩ := rn_call (w := 0) (t := 56) rfl rfl hh
      obtain ⟨er29, hc30, hf31⟩ := v56_ok (v := (((Fi (v140 q cc gc (fset (cp73 h (27 + 6 * ((fi + si) % 16)) 13) 25 2 (.int (nI (si + 1)))) m) 13 5) &&& ((Fi h 13 5) ^^^ (Int32.ofInt (-1)))).toInt64)) (w := ((v36 q cc gc (Ar (v140 q cc gc (fset (cp73 h (27 + 6 * ((fi + si) % 16)) 13) 25 2 (.int (nI (si + 1)))) m) 14)).toInt64)) hc26 hh1
      subst er29
      obtain ⟨n, hh⟩ := rn_i rfl rfl rfl rfl hh
      have hh : pm_run PT n fr lo 97 (70, [some (.ref 0), some (.int (nI m)), some (.int (Fi h 13 5)), some (.int ((Fi (v140 q cc gc (fset (cp73 h (27 + 6 * ((fi + si) % 16)) 13) 25 2 (.int (nI (si + 1)))) m) 13 5) &&& ((Fi h 13 5) ^^^ (Int32.ofInt (-1)))))], [.int ((Fi (v140 q cc gc (fset (cp73 h (27 + 6 * ((fi + si) % 16)) 13) 25 2 (.int (nI (si + 1)))) m) 13 5) &&& ((Fi h 13 5) ^^^ (Int32.ofInt (-1))))], v56 q cc gc (v140 q cc gc (fset (cp73 h (27 + 6 * ((fi + si) % 16)) 13) 25 2 (.int (nI (si + 1)))) m) (((Fi (v140 q cc gc (fset (cp73 h (27 + 6 * ((fi + si) % 16)) 13) 25 2 (.int (nI (si + 1)))) m) 13 5) &&& ((Fi h 13 5) ^^^ (Int32.ofInt (-1)))).toInt64) ((v36 q cc gc (Ar (v140 q cc gc (fset (cp73 h (27 + 6 * ((fi + si) % 16)) 13) 25 2 (.int (nI (si + 1)))) m) 14)).toInt64), 198, sl) = some R := hh
      obtain ⟨n, fr1, lo1, r1, hh1, hh⟩ := rn_call (w := 2) (t := 270) rfl rfl hh
      have er32 := v270_ok (a := ((Fi (v140 q cc gc (fset (cp73 h (27 + 6 * ((fi + si) % 16)) 13) 25 2 (.int (nI (si + 1)))) m) 13 5) &&& ((Fi h 13 5) ^^^ (Int32.ofInt (-1))))) hc30 hh1
      subst er32
      have hh : pm_run PT n fr lo 97 (73, [some (.ref 0), some (.int (nI m)), some (.int (Fi h 13 5)), some (.int ((Fi (v140 q cc gc (fset (cp73 h (27 + 6 * ((fi + si) % 16)) 13) 25 2 (.int (nI (si + 1)))) m) 13 5) &&& ((Fi h 13 5) ^^^ (Int32.ofInt (-1)))))], [.int (v270 q cc gc ((Fi (v140 q cc gc (fset (cp73 h (27 + 6 * ((fi + si) % 16)) 13) 25 2 (.int (nI (si + 1)))) m) 13 5) &&& ((Fi h 13 5) ^^^ (Int32.ofInt (-1)))))], v56 q cc gc (v140 q cc gc (fset (cp73 h (27 + 6 * ((fi + si) % 16)) 13) 25 2 (.int (nI (si + 1)))) m) (((Fi (v140 q cc gc (fset (cp73 h (27 + 6 * ((fi + si) % 16)) 13) 25 2 (.int (nI (si + 1)))) m) 13 5) &&& ((Fi h 13 5) ^^^ (Int32.ofInt (-1)))).toInt64) ((v36 q cc gc (Ar (v140 q cc gc (fset (cp73 h (27 + 6 * ((fi + si) % 16)) 13) 25 2 (.int (nI (si + 1)))) m) 14)).toInt64), 198, sl) = some R := hh
      have er33 : R = (some (.int (v270 q cc gc ((Fi (v140 q cc gc (fset (cp73 h (27 + 6 * ((fi + si) % 16)) 13) 25 2 (.int (nI (si + 1)))) m) 13 5) &&& ((Fi h 13 5) ^^^ (Int32.ofInt (-1)))))), v56 q cc gc (v140 q cc gc (fset (cp73 h (27 + 6 * ((fi + si) % 16)) 13) 25 2 (.int (nI (si + 1)))) m) (((Fi (v140 q cc gc (fset (cp73 h (27 + 6 * ((fi + si) % 16)) 13) 25 2 (.int (nI (si + 1)))) m) 13 5) &&& ((Fi h 13 5) ^^^ (Int32.ofInt (-1)))).toInt64) ((v36 q cc gc (Ar (v140 q cc gc (fset (cp73 h (27 + 6 * ((fi + si) % 16)) 13) 25 2 (.int (nI (si + 1)))) m) 14)).toInt64), 198, sl) := (rn_ret rfl (Or.inl rfl) hh).2
      have ed : v97 q cc gc h fi si m = (v270 q cc gc ((Fi (v140 q cc gc (fset (cp73 h (27 + 6 * ((fi + si) % 16)) 13) 25 2 (.int (nI (si + 1)))) m) 13 5) &&& ((Fi h 13 5) ^^^ (Int32.ofInt (-1)))), v56 q cc gc (v140 q cc gc (fset (cp73 h (27 + 6 * ((fi + si) % 16)) 13) 25 2 (.int (nI (si + 1)))) m) (((Fi (v140 q cc gc (fset (cp73 h (27 + 6 * ((fi + si) % 16)) 13) 25 2 (.int (nI (si + 1)))) m) 13 5) &&& ((Fi h 13 5) ^^^ (Int32.ofInt (-1)))).toInt64) ((v36 q cc gc (Ar (v140 q cc gc (fset (cp73 h (27 + 6 * ((fi + si) % 16)) 13) 25 2 (.int (nI (si + 1)))) m) 14)).toInt64)) := (ct z1).trans ((cf z8).trans rfl)
      refine ⟨?_, ?_, ?_⟩ <;> rw [ed]
      · exact er33
      · exact hc30
      · exact (fr_g rfl rfl hf31 (fr_g rfl rfl hf27 (fr_f rfl rfl (fr_c27 (by omega) hw.wt rfl rfl fr_0))))
  | false =>
    have hh := en_f z1 hh
    have hh : pm_run PT n fr lo 97 (10, [some (.ref 0), some (.int (nI m)), none, none], [], h, 198, sl) = some R := hh
    have y34 := of_decide_eq_false z1
    obtain ⟨n, hh⟩ := rn_i rfl rfl rfl rfl hh
    have hh : pm_run PT n fr lo 97 (11, [some (.ref 0), some (.int (nI m)), none, none], [.int (Int32.ofInt (-1))], h, 198, sl) = some R := hh
    have er35 : R = (some (.int (Int32.ofInt (-1))), h, 198, sl) := (rn_ret rfl (Or.inl rfl) hh).2
    have ed : v97 q cc gc h fi si m = ((Int32.ofInt (-1)), h) := (cf z1).trans rfl
    refine ⟨?_, ?_, ?_⟩ <;> rw [ed]
    · exact er35
    · exact hw
    · exact fr_0
def v137 (q : QT) (cc gc : Nat) (a : Nat) (b : Nat) (m : Int32) : Bool := cond (pP cc (nI a) (nI b)) (cond (pm_cmp .lt m (Int32.ofInt (-9))) true (cond (pm_cmp .gt m (nI 9)) true (cond (pm_cmp .ne m 0) false true))) true
theorem v137_ok {n fr lo sl cc gc : Nat} {q : QT} {h : pm_H} {R : pm_Rs} {a : Nat} {b : Nat} {m : Int32} (hw : HC q cc gc h) (h_a : a < 10000) (h_b : b < 10000) (hh : pm_run PT n fr lo 137 (0, pm_l0 [.ref 0, .int (nI a), .int (nI b), .int m] 4, [], h, 198, sl) = some R) : R = (some (.int (cond (v137 q cc gc a b m) 1 0)), h, 198, sl) := by
  have hcc := hw.cb
  have hgc := hw.gb
  have hzr := hw.zr
  obtain ⟨n, hh⟩ := rn_i rfl rfl rfl rfl hh
  have hh : pm_run PT n fr lo 137 (1, [some (.ref 0), some (.int (nI a)), some (.int (nI b)), some (.int m)], [.ref 0], h, 198, sl) = some R := hh
  obtain ⟨n, hh⟩ := rn_gr hw.wt rfl rfl (by decide) rfl (by decide) (show _ = some (2, ((5 : Nat) : Int), 1) from rfl) rfl hh
  obtain ⟨n, hh⟩ := rn_i rfl rfl rfl rfl hh
  obtain ⟨n, hh⟩ := rn_i rfl rfl rfl rfl hh
  have hh : pm_run PT n fr lo 137 (6, [some (.ref 0), some (.int (nI a)), some (.int (nI b)), some (.int m)], [.int (nI b), .int (nI a), .ref 5], h, 198, sl) = some R := hh
  obtain ⟨n, fr1, lo1, r1, hh1, hh⟩ := rn_call (w := 0) (t := 24) rfl rfl hh
  have er1 := xa_run hcc (hc_rC hw) hh1
  subst er1
  have hh : pm_run PT n fr lo 137 (9, [some (.ref 0), some (.int (nI a)), some (.int (nI b)), some (.int m)], [.int (cond (pP cc (nI a) (nI b)) 1 0)], h, 198, sl) = some R := hh
  obtain ⟨n, hh⟩ := en_zn (cc := .eq) (off := 19) (t := 28) (b := !(pP cc (nI a) (nI b))) eb_eq rfl rfl hh
  have hj9 : ∃ mJ, pm_run PT mJ fr lo 137 (cond (pP cc (nI a) (nI b)) (33, [some (.ref 0), some (.int (nI a)), some (.int (nI b)), some (.int m)], [.int (cond (cond (pm_cmp .lt m (Int32.ofInt (-9))) true (cond (pm_cmp .gt m (nI 9)) true (cond (pm_cmp .ne m 0) false true))) 1 0)], h, 198, sl) (33, [some (.ref 0), some (.int (nI a)), some (.int (nI b)), some (.int m)], [.int (nI 1)], h, 198, sl)) = some R := en_J (fun z2 => by
      have hh := en_nt z2 hh
      have hh : pm_run PT n fr lo 137 (12, [some (.ref 0), some (.int (nI a)), some (.int (nI b)), some (.int m)], [], h, 198, sl) = some R := hh
      obtain ⟨n, hh⟩ := rn_i rfl rfl rfl rfl hh
      obtain ⟨n, hh⟩ := rn_i rfl rfl rfl rfl hh
      have hh : pm_run PT n fr lo 137 (15, [some (.ref 0), some (.int (nI a)), some (.int (nI b)), some (.int m)], [.int (Int32.ofInt (-9)), .int m], h, 198, sl) = some R := hh
      obtain ⟨n, hh⟩ := en_cn (cc := .lt) (off := 13) (t := 28) (b := pm_cmp .lt m (Int32.ofInt (-9))) rfl rfl rfl hh
      have hj8 : ∃ mJ, pm_run PT mJ fr lo 137 (cond (pm_cmp .lt m (Int32.ofInt (-9))) (33, [some (.ref 0), some (.int (nI a)), some (.int (nI b)), some (.int m)], [.int (nI 1)], h, 198, sl) (33, [some (.ref 0), some (.int (nI a)), some (.int (nI b)), some (.int m)], [.int (cond (cond (pm_cmp .gt m (nI 9)) true (cond (pm_cmp .ne m 0) false true)) 1 0)], h, 198, sl)) = some R := en_J (fun z3 => by
          have hh := en_t z3 hh
          have hh : pm_run PT n fr lo 137 (28, [some (.ref 0), some (.int (nI a)), some (.int (nI b)), some (.int m)], [], h, 198, sl) = some R := hh
          obtain ⟨n, hh⟩ := rn_i rfl rfl rfl rfl hh
          obtain ⟨n, hh⟩ := rn_i rfl rfl rfl rfl hh
          exact ⟨n, hh⟩) (fun z3 => by
          have hh := en_f z3 hh
          have hh : pm_run PT n fr lo 137 (18, [some (.ref 0), some (.int (nI a)), some (.int (nI b)), some (.int m)], [], h, 198, sl) = some R := hh
          obtain ⟨n, hh⟩ := rn_i rfl rfl rfl rfl hh
          obtain ⟨n, hh⟩ := rn_i rfl rfl rfl rfl hh
          have hh : pm_run PT n fr lo 137 (21, [some (.ref 0), some (.int (nI a)), some (.int (nI b)), some (.int m)], [.int (nI 9), .int m], h, 198, sl) = some R := hh
          obtain ⟨n, hh⟩ := en_cn (cc := .gt) (off := 7) (t := 28) (b := pm_cmp .gt m (nI 9)) rfl rfl rfl hh
          have hj7 : ∃ mJ, pm_run PT mJ fr lo 137 (cond (pm_cmp .gt m (nI 9)) (33, [some (.ref 0), some (.int (nI a)), some (.int (nI b)), some (.int m)], [.int (nI 1)], h, 198, sl) (33, [some (.ref 0), some (.int (nI a)), some (.int (nI b)), some (.int m)], [.int (cond (cond (pm_cmp .ne m 0) false true) 1 0)], h, 198, sl)) = some R := en_J (fun z4 => by
              have hh := en_t z4 hh
              have hh : pm_run PT n fr lo 137 (28, [some (.ref 0), some (.int (nI a)), some (.int (nI b)), some (.int m)], [], h, 198, sl) = some R := hh
              obtain ⟨n, hh⟩ := rn_i rfl rfl rfl rfl hh
              obtain ⟨n, hh⟩ := rn_i rfl rfl rfl rfl hh
              exact ⟨n, hh⟩) (fun z4 => by
              have hh := en_f z4 hh
              have hh : pm_run PT n fr lo 137 (24, [some (.ref 0), some (.int (nI a)), some (.int (nI b)), some (.int m)], [], h, 198, sl) = some R := hh
              obtain ⟨n, hh⟩ := rn_i rfl rfl rfl rfl hh
              have hh : pm_run PT n fr lo 137 (25, [some (.ref 0), some (.int (nI a)), some (.int (nI b)), some (.int m)], [.int m], h, 198, sl) = some R := hh
              obtain ⟨n, hh⟩ := en_zn (cc := .ne) (off := 7) (t := 32) (b := pm_cmp .ne m 0) rfl rfl rfl hh
              have hj6 : ∃ mJ, pm_run PT mJ fr lo 137 (cond (pm_cmp .ne m 0) (33, [some (.ref 0), some (.int (nI a)), some (.int (nI b)), some (.int m)], [.int (nI 0)], h, 198, sl) (33, [some (.ref 0), some (.int (nI a)), some (.int (nI b)), some (.int m)], [.int (nI 1)], h, 198, sl)) = some R := en_J (fun z5 => by
                  have hh := en_t z5 hh
                  have hh : pm_run PT n fr lo 137 (32, [some (.ref 0), some (.int (nI a)), some (.int (nI b)), some (.int m)], [], h, 198, sl) = some R := hh
                  obtain ⟨n, hh⟩ := rn_i rfl rfl rfl rfl hh
                  exact ⟨n, hh⟩) (fun z5 => by
                  have hh := en_f z5 hh
                  have hh : pm_run PT n fr lo 137 (28, [some (.ref 0), some (.int (nI a)), some (.int (nI b)), some (.int m)], [], h, 198, sl) = some R := hh
                  obtain ⟨n, hh⟩ := rn_i rfl rfl rfl rfl hh
                  obtain ⟨n, hh⟩ := rn_i rfl rfl rfl rfl hh
                  exact ⟨n, hh⟩)
              obtain ⟨n, hh⟩ := hj6
              rw [show (cond (pm_cmp .ne m 0) (33, [some (.ref 0), some (.int (nI a)), some (.int (nI b)), some (.int m)], [.int (nI 0)], h, 198, sl) (33, [some (.ref 0), some (.int (nI a)), some (.int (nI b)), some (.int m)], [.int (nI 1)], h, 198, sl) : pm_St) = (33, [some (.ref 0), some (.int (nI a)), some (.int (nI b)), some (.int m)], [.int (cond (cond (pm_cmp .ne m 0) false true) 1 0)], h, 198, sl) from by cases (pm_cmp .ne m 0) <;> rfl] at hh
              exact ⟨n, hh⟩)
          obtain ⟨n, hh⟩ := hj7
          rw [show (cond (pm_cmp .gt m (nI 9)) (33, [some (.ref 0), some (.int (nI a)), some (.int (nI b)), some (.int m)], [.int (nI 1)], h, 198, sl) (33, [some (.ref 0), some (.int (nI a)), some (.int (nI b)), some (.int m)], [.int (cond (cond (pm_cmp .ne m 0) false true) 1 0)], h, 198, sl) : pm_St) = (33, [some (.ref 0), some (.int (nI a)), some (.int (nI b)), some (.int m)], [.int (cond (cond (pm_cmp .gt m (nI 9)) true (cond (pm_cmp .ne m 0) false true)) 1 0)], h, 198, sl) from by cases (pm_cmp .gt m (nI 9)) <;> rfl] at hh
          exact ⟨n, hh⟩)
      obtain ⟨n, hh⟩ := hj8
      rw [show (cond (pm_cmp .lt m (Int32.ofInt (-9))) (33, [some (.ref 0), some (.int (nI a)), some (.int (nI b)), some (.int m)], [.int (nI 1)], h, 198, sl) (33, [some (.ref 0), some (.int (nI a)), some (.int (nI b)), some (.int m)], [.int (cond (cond (pm_cmp .gt m (nI 9)) true (cond (pm_cmp .ne m 0) false true)) 1 0)], h, 198, sl) : pm_St) = (33, [some (.ref 0), some (.int (nI a)), some (.int (nI b)), some (.int m)], [.int (cond (cond (pm_cmp .lt m (Int32.ofInt (-9))) true (cond (pm_cmp .gt m (nI 9)) true (cond (pm_cmp .ne m 0) false true))) 1 0)], h, 198, sl) from by cases (pm_cmp .lt m (Int32.ofInt (-9))) <;> rfl] at hh
      exact ⟨n, hh⟩) (fun z2 => by
      have hh := en_nf z2 hh
      have hh : pm_run PT n fr lo 137 (28, [some (.ref 0), some (.int (nI a)), some (.int (nI b)), some (.int m)], [], h, 198, sl) = some R := hh
      obtain ⟨n, hh⟩ := rn_i rfl rfl rfl rfl hh
      obtain ⟨n, hh⟩ := rn_i rfl rfl rfl rfl hh
      exact ⟨n, hh⟩)
  obtain ⟨n, hh⟩ := hj9
  rw [show (cond (pP cc (nI a) (nI b)) (33, [some (.ref 0), some (.int (nI a)), some (.int (nI b)), some (.int m)], [.int (cond (cond (pm_cmp .lt m (Int32.ofInt (-9))) true (cond (pm_cmp .gt m (nI 9)) true (cond (pm_cmp .ne m 0) false true))) 1 0)], h, 198, sl) (33, [some (.ref 0), some (.int (nI a)), some (.int (nI b)), some (.int m)], [.int (nI 1)], h, 198, sl) : pm_St) = (33, [some (.ref 0), some (.int (nI a)), some (.int (nI b)), some (.int m)], [.int (cond (cond (pP cc (nI a) (nI b)) (cond (pm_cmp .lt m (Int32.ofInt (-9))) true (cond (pm_cmp .gt m (nI 9)) true (cond (pm_cmp .ne m 0) false true))) true) 1 0)], h, 198, sl) from by cases (pP cc (nI a) (nI b)) <;> rfl] at hh
  have hh : pm_run PT n fr lo 137 (33, [some (.ref 0), some (.int (nI a)), some (.int (nI b)), some (.int m)], [.int (cond (cond (pP cc (nI a) (nI b)) (cond (pm_cmp .lt m (Int32.ofInt (-9))) true (cond (pm_cmp .gt m (nI 9)) true (cond (pm_cmp .ne m 0) false true))) true) 1 0)], h, 198, sl) = some R := hh
  have er10 : R = (some (.int (cond (cond (pP cc (nI a) (nI b)) (cond (pm_cmp .lt m (Int32.ofInt (-9))) true (cond (pm_cmp .gt m (nI 9)) true (cond (pm_cmp .ne m 0) false true))) true) 1 0)), h, 198, sl) := (rn_ret rfl (Or.inr rfl) hh).2
  have ed : v137 q cc gc a b m = cond (pP cc (nI a) (nI b)) (cond (pm_cmp .lt m (Int32.ofInt (-9))) true (cond (pm_cmp .gt m (nI 9)) true (cond (pm_cmp .ne m 0) false true))) true := rfl
  rw [ed]
  exact er10
def v138 (q : QT) (cc gc : Nat) (h : pm_H) (a : Nat) (b : Nat) (m : Int32) : pm_H := aset h 15 36 (upd (Ar h 15) (a * 6 + b) (imax (nI 0) (imin (nI 20) (((Ar h 15) (a * 6 + b)) + m))))
theorem v138_ok {n fr lo sl cc gc : Nat} {q : QT} {h : pm_H} {R : pm_Rs} {a : Nat} {b : Nat} {m : Int32} (hw : HC q cc gc h) (h_a : a < 10000) (h_b : b < 10000) (hh : pm_run PT n fr lo 138 (0, pm_l0 [.ref 0, .int (nI a), .int (nI b), .int m] 5, [], h, 198, sl) = some R) : R = (none, v138 q cc gc h a b m, 198, sl) ∧ HC q cc gc (v138 q cc gc h a b m) ∧ frm [15] [] h (v138 q cc gc h a b m) := by
  have hcc := hw.cb
  have hgc := hw.gb
  have hzr := hw.zr
  obtain ⟨n, hh⟩ := rn_i rfl rfl rfl rfl hh
  obtain ⟨n, hh⟩ := rn_i rfl rfl rfl rfl hh
  have hh : pm_run PT n fr lo 138 (2, [some (.ref 0), some (.int (nI a)), some (.int (nI b)), some (.int m), none], [.int (nI b), .int (nI a)], h, 198, sl) = some R := hh
  obtain ⟨n, fr1, lo1, r1, hh1, hh⟩ := rn_call (w := 2) (t := 160) rfl rfl hh
  have hh1 : pm_run PT n fr1 lo1 160 (0, [some (.int (nI a)), some (.int (nI b))], [], h, 198, sl) = some r1 := hh1
  obtain ⟨n1, hh1⟩ := rn_i rfl rfl rfl rfl hh1
  obtain ⟨n1, hh1⟩ := rn_i rfl rfl rfl rfl hh1
  have hh1 : pm_run PT n1 fr1 lo1 160 (3, [some (.int (nI a)), some (.int (nI b))], [.int (nI 6), .int (nI a)], h, 198, sl) = some r1 := hh1
  obtain ⟨n1, hh1⟩ := en_mul rfl hh1
  have hh1 : pm_run PT n1 fr1 lo1 160 (4, [some (.int (nI a)), some (.int (nI b))], [.int (nI (a * 6))], h, 198, sl) = some r1 := hh1
  obtain ⟨n1, hh1⟩ := rn_i rfl rfl rfl rfl hh1
  have hh1 : pm_run PT n1 fr1 lo1 160 (5, [some (.int (nI a)), some (.int (nI b))], [.int (nI b), .int (nI (a * 6))], h, 198, sl) = some r1 := hh1
  obtain ⟨n1, hh1⟩ := en_add rfl hh1
  have hh1 : pm_run PT n1 fr1 lo1 160 (6, [some (.int (nI a)), some (.int (nI b))], [.int (nI (a * 6 + b))], h, 198, sl) = some r1 := hh1
  have hh1 : pm_run PT n1 fr1 lo1 160 (6, [some (.int (nI a)), some (.int (nI b))], [.int (nI (a * 6 + b))], h, 198, sl) = some r1 := hh1
  have er1 : r1 = (some (.int (nI (a * 6 + b))), h, 198, sl) := (rn_ret rfl (Or.inl rfl) hh1).2
  subst er1
  obtain ⟨n, hh⟩ := rn_i rfl rfl rfl rfl hh
  obtain ⟨n, hh⟩ := rn_i rfl rfl rfl rfl hh
  have hh : pm_run PT n fr lo 138 (8, [some (.ref 0), some (.int (nI a)), some (.int (nI b)), some (.int m), some (.int (nI (a * 6 + b)))], [.ref 0], h, 198, sl) = some R := hh
  obtain ⟨n, hh⟩ := rn_gr hw.wt rfl rfl (by decide) rfl (by decide) (show _ = some (2, ((13 : Nat) : Int), 1) from rfl) rfl hh
  have hh : pm_run PT n fr lo 138 (11, [some (.ref 0), some (.int (nI a)), some (.int (nI b)), some (.int m), some (.int (nI (a * 6 + b)))], [.ref 13], h, 198, sl) = some R := hh
  obtain ⟨n, hh⟩ := rn_gr hw.wt rfl rfl (by decide) rfl (by decide) (show _ = some (2, ((15 : Nat) : Int), 1) from rfl) rfl hh
  obtain ⟨n, hh⟩ := rn_i rfl rfl rfl rfl hh
  obtain ⟨n, hh⟩ := rn_i rfl rfl rfl rfl hh
  have hh : pm_run PT n fr lo 138 (17, [some (.ref 0), some (.int (nI a)), some (.int (nI b)), some (.int m), some (.int (nI (a * 6 + b)))], [.ref 0, .int (nI (a * 6 + b)), .ref 15], h, 198, sl) = some R := hh
  obtain ⟨n, hh⟩ := rn_gr hw.wt rfl rfl (by decide) rfl (by decide) (show _ = some (2, ((13 : Nat) : Int), 1) from rfl) rfl hh
  have hh : pm_run PT n fr lo 138 (20, [some (.ref 0), some (.int (nI a)), some (.int (nI b)), some (.int m), some (.int (nI (a * 6 + b)))], [.ref 13, .int (nI (a * 6 + b)), .ref 15], h, 198, sl) = some R := hh
  obtain ⟨n, hh⟩ := rn_gr hw.wt rfl rfl (by decide) rfl (by decide) (show _ = some (2, ((15 : Nat) : Int), 1) from rfl) rfl hh
  obtain ⟨n, hh⟩ := rn_i rfl rfl rfl rfl hh
  have hh : pm_run PT n fr lo 138 (25, [some (.ref 0), some (.int (nI a)), some (.int (nI b)), some (.int m), some (.int (nI (a * 6 + b)))], [.int (nI (a * 6 + b)), .ref 15, .int (nI (a * 6 + b)), .ref 15], h, 198, sl) = some R := hh
  obtain ⟨n, hx2, hh⟩ := en_lu (t := a * 6 + b) (f := Ar h 15) (w := (Ar h 15) (a * 6 + b)) (nI_clamp (by omega)) hw.wt rfl (by decide) rfl (by decide) rfl (fun _ => rfl) hh
  obtain ⟨n, hh⟩ := rn_i rfl rfl rfl rfl hh
  obtain ⟨n, hh⟩ := rn_i rfl rfl rfl rfl hh
  obtain ⟨n, hh⟩ := rn_i rfl rfl rfl rfl hh
  have hh : pm_run PT n fr lo 138 (30, [some (.ref 0), some (.int (nI a)), some (.int (nI b)), some (.int m), some (.int (nI (a * 6 + b)))], [.int (nI 20), .int (((Ar h 15) (a * 6 + b)) + m), .int (nI (a * 6 + b)), .ref 15], h, 198, sl) = some R := hh
  obtain ⟨n, fr1, lo1, r1, hh1, hh⟩ := rn_call (w := 2) (t := 159) rfl rfl hh
  have hh1 : pm_run PT n fr1 lo1 159 (0, [some (.int (((Ar h 15) (a * 6 + b)) + m)), some (.int (nI 20))], [], h, 198, sl) = some r1 := hh1
  obtain ⟨n1, hh1⟩ := rn_i rfl rfl rfl rfl hh1
  obtain ⟨n1, hh1⟩ := rn_i rfl rfl rfl rfl hh1
  obtain ⟨n1, hh1⟩ := rn_i rfl rfl rfl rfl hh1
  have hh1 : pm_run PT n1 fr1 lo1 159 (3, [some (.int (((Ar h 15) (a * 6 + b)) + m)), some (.int (nI 20))], [.int (((Ar h 15) (a * 6 + b)) + m), .int (nI 20), .int (nI 0)], h, 198, sl) = some r1 := hh1
  obtain ⟨n1, hh1⟩ := en_min rfl rfl rfl hh1
  have hh1 : pm_run PT n1 fr1 lo1 159 (6, [some (.int (((Ar h 15) (a * 6 + b)) + m)), some (.int (nI 20))], [.int (imin (nI 20) (((Ar h 15) (a * 6 + b)) + m)), .int (nI 0)], h, 198, sl) = some r1 := hh1
  obtain ⟨n1, hh1⟩ := en_max rfl rfl rfl hh1
  have hh1 : pm_run PT n1 fr1 lo1 159 (9, [some (.int (((Ar h 15) (a * 6 + b)) + m)), some (.int (nI 20))], [.int (imax (nI 0) (imin (nI 20) (((Ar h 15) (a * 6 + b)) + m)))], h, 198, sl) = some r1 := hh1
  have er3 : r1 = (some (.int (imax (nI 0) (imin (nI 20) (((Ar h 15) (a * 6 + b)) + m)))), h, 198, sl) := (rn_ret rfl (Or.inl rfl) hh1).2
  subst er3
  have hh : pm_run PT n fr lo 138 (33, [some (.ref 0), some (.int (nI a)), some (.int (nI b)), some (.int m), some (.int (nI (a * 6 + b)))], [.int (imax (nI 0) (imin (nI 20) (((Ar h 15) (a * 6 + b)) + m))), .int (nI (a * 6 + b)), .ref 15], h, 198, sl) = some R := hh
  obtain ⟨n, hx4, hh⟩ := en_st (t := a * 6 + b) (f := Ar h 15) (nI_clamp (by omega)) hw.wt rfl (by decide) rfl (by decide) rfl hh
  have er5 : R = (none, aset h 15 36 (upd (Ar h 15) (a * 6 + b) (imax (nI 0) (imin (nI 20) (((Ar h 15) (a * 6 + b)) + m)))), 198, sl) := rn_vret rfl rfl hh
  have ed : v138 q cc gc h a b m = aset h 15 36 (upd (Ar h 15) (a * 6 + b) (imax (nI 0) (imin (nI 20) (((Ar h 15) (a * 6 + b)) + m)))) := rfl
  refine ⟨?_, ?_, ?_⟩ <;> rw [ed]
  · exact er5
  · exact (hc_a rfl rfl hw)
  · exact (fr_a rfl rfl fr_0)
theorem v138_fr {cc gc : Nat} {q : QT} {h : pm_H} {a : Nat} {b : Nat} {m : Int32} (hw : HC q cc gc h) : HC q cc gc (v138 q cc gc h a b m) ∧ frm [15] [] h (v138 q cc gc h a b m) := by
  unfold v138
  show HC q cc gc (aset h 15 36 (upd (Ar h 15) (a * 6 + b) (imax (nI 0) (imin (nI 20) (((Ar h 15) (a * 6 + b)) + m))))) ∧ frm [15] [] h (aset h 15 36 (upd (Ar h 15) (a * 6 + b) (imax (nI 0) (imin (nI 20) (((Ar h 15) (a * 6 + b)) + m)))))
  exact ⟨(hc_a rfl rfl hw), (fr_a rfl rfl fr_0)⟩
def v98 (q : QT) (cc gc : Nat) (h : pm_H) (fi : Nat) (si : Nat) (a : Nat) (b : Nat) (m : Int32) : Int32 × pm_H := cond (v137 q cc gc a b m) ((Int32.ofInt (-1)), h) (cond (decide (15 ≤ si)) ((Ar (v138 q cc gc (fset (cp73 h (27 + 6 * ((fi + si) % 16)) 13) 25 1 (.int (nI ((fi + 1) % 16)))) a b m) 15) (a * 6 + b), v138 q cc gc (fset (cp73 h (27 + 6 * ((fi + si) % 16)) 13) 25 1 (.int (nI ((fi + 1) % 16)))) a b m) ((Ar (v138 q cc gc (fset (cp73 h (27 + 6 * ((fi + si) % 16)) 13) 25 2 (.int (nI (si + 1)))) a b m) 15) (a * 6 + b), v138 q cc gc (fset (cp73 h (27 + 6 * ((fi + si) % 16)) 13) 25 2 (.int (nI (si + 1)))) a b m))
theorem v98_ok {n fr lo sl cc gc : Nat} {q : QT} {h : pm_H} {R : pm_Rs} {fi : Nat} {si : Nat} {a : Nat} {b : Nat} {m : Int32} (hw : HC q cc gc h) (h_a : a < 10000) (h_b : b < 10000) (hfi : fi < 16) (hsi : si ≤ 15) (e1 : Fi h 25 1 = nI fi) (e2 : Fi h 25 2 = nI si) (hh : pm_run PT n fr lo 98 (0, pm_l0 [.ref 0, .int (nI a), .int (nI b), .int m] 4, [], h, 198, sl) = some R) : R = (some (.int ((v98 q cc gc h fi si a b m).1)), (v98 q cc gc h fi si a b m).2, 198, sl) ∧ HC q cc gc ((v98 q cc gc h fi si a b m).2) ∧ frm [15, 25, 27, 28, 29, 30, 31, 32, 33, 34, 35, 36, 37, 38, 39, 40, 41, 42, 43, 44, 45, 46, 47, 48, 49, 50, 51, 52, 53, 54, 55, 56, 57, 58, 59, 60, 61, 62, 63, 64, 65, 66, 67, 68, 69, 70, 71, 72, 73, 74, 75, 76, 77, 78, 79, 80, 81, 82, 83, 84, 85, 86, 87, 88, 89, 90, 91, 92, 93, 94, 95, 96, 97, 98, 99, 100, 101, 102, 103, 104, 105, 106, 107, 108, 109, 110, 111, 112, 113, 114, 115, 116, 117, 118, 119, 120, 121, 122] [(25, 1), (25, 2), (27, 5), (27, 6), (33, 5), (33, 6), (39, 5), (39, 6), (45, 5), (45, 6), (51, 5), (51, 6), (57, 5), (57, 6), (63, 5), (63, 6), (69, 5), (69, 6), (75, 5), (75, 6), (81, 5), (81, 6), (87, 5), (87, 6), (93, 5), (93, 6), (99, 5), (99, 6), (105, 5), (105, 6), (111, 5), (111, 6), (117, 5), (117, 6)] h ((v98 q cc gc h fi si a b m).2) := by
  have hcc := hw.cb
  have hgc := hw.gb
  have hzr := hw.zr
  obtain ⟨n, hh⟩ := rn_i rfl rfl rfl rfl hh
  obtain ⟨n, hh⟩ := rn_i rfl rfl rfl rfl hh
  obtain ⟨n, hh⟩ := rn_i rfl rfl rfl rfl hh
  obtain ⟨n, hh⟩ := rn_i rfl rfl rfl rfl hh
  have hh : pm_run PT n fr lo 98 (4, [some (.ref 0), some (.int (nI a)), some (.int (nI b)), some (.int m)], [.int m, .int (nI b), .int (nI a), .ref 0], h, 198, sl) = some R := hh
  obtain ⟨n, fr1, lo1, r1, hh1, hh⟩ := rn_call (w := 0) (t := 137) rfl rfl hh
  have er1 := v137_ok (a := a) (b := b) (m := m) hw (by omega) (by omega) hh1
  subst er1
  have hh : pm_run PT n fr lo 98 (7, [some (.ref 0), some (.int (nI a)), some (.int (nI b)), some (.int m)], [.int (cond (v137 q cc gc a b m) 1 0)], h, 198, sl) = some R := hh
  obtain ⟨n, hh⟩ := en_zn (cc := .eq) (off := 5) (t := 12) (b := !(v137 q cc gc a b m)) eb_eq rfl rfl hh
  cases z2 : v137 q cc gc a b m with
  | true =>
    have hh := en_nt z2 hh
    have hh : pm_run PT n fr lo 98 (10, [some (.ref 0), some (.int (nI a)), some (.int (nI b)), some (.int m)], [], h, 198, sl) = some R := hh
    obtain ⟨n, hh⟩ := rn_i rfl rfl rfl rfl hh
    have hh : pm_run PT n fr lo 98 (11, [some (.ref 0), some (.int (nI a)), some (.int (nI b)), some (.int m)], [.int (Int32.ofInt (-1))], h, 198, sl) = some R := hh
    have er3 : R = (some (.int (Int32.ofInt (-1))), h, 198, sl) := (rn_ret rfl (Or.inl rfl) hh).2
    have ed : v98 q cc gc h fi si a b m = ((Int32.ofInt (-1)), h) := (ct z2).trans rfl
    refine ⟨?_, ?_, ?_⟩ <;> rw [ed]
    · exact er3
    · exact hw
    · exact fr_0
  | false =>
    have hh := en_nf z2 hh
    have hh : pm_run PT n fr lo 98 (12, [some (.ref 0), some (.int (nI a)), some (.int (nI b)), some (.int m)], [], h, 198, sl) = some R := hh
    obtain ⟨n, hh⟩ := rn_i rfl rfl rfl rfl hh
    have hh : pm_run PT n fr lo 98 (13, [some (.ref 0), some (.int (nI a)), some (.int (nI b)), some (.int m)], [.ref 0], h, 198, sl) = some R := hh
    obtain ⟨n, hh⟩ := rn_gr hw.wt rfl rfl (by decide) rfl (by decide) (show _ = some (2, ((25 : Nat) : Int), 1) from rfl) rfl hh
    obtain ⟨n, hh⟩ := rn_i rfl rfl rfl rfl hh
    have hh : pm_run PT n fr lo 98 (17, [some (.ref 0), some (.int (nI a)), some (.int (nI b)), some (.int m)], [.ref 0, .ref 25], h, 198, sl) = some R := hh
    obtain ⟨n, hh⟩ := rn_gr hw.wt rfl rfl (by decide) rfl (by decide) (show _ = some (2, ((13 : Nat) : Int), 1) from rfl) rfl hh
    have hh : pm_run PT n fr lo 98 (20, [some (.ref 0), some (.int (nI a)), some (.int (nI b)), some (.int m)], [.ref 13, .ref 25], h, 198, sl) = some R := hh
    obtain ⟨n, fr1, lo1, r1, hh1, hh⟩ := rn_call (w := 0) (t := 18) rfl rfl hh
    have hh1 : pm_run PT n fr1 lo1 18 (0, [some (.ref 25), some (.ref 13)], [], h, 198, sl) = some r1 := hh1
    obtain ⟨n1, hh1⟩ := rn_i rfl rfl rfl rfl hh1
    obtain ⟨n1, hh1⟩ := rn_i rfl rfl rfl rfl hh1
    have hh1 : pm_run PT n1 fr1 lo1 18 (2, [some (.ref 25), some (.ref 13)], [.ref 13, .ref 25], h, 198, sl) = some r1 := hh1
    obtain ⟨n1, fr2, lo2, r2, hh2, hh1⟩ := rn_call (w := 0) (t := 16) rfl rfl hh1
    have hh2 : pm_run PT n1 fr2 lo2 16 (0, [some (.ref 25), some (.ref 13)], [], h, 198, sl) = some r2 := hh2
    obtain ⟨n2, hh2⟩ := rn_i rfl rfl rfl rfl hh2
    have hh2 : pm_run PT n2 fr2 lo2 16 (1, [some (.ref 25), some (.ref 13)], [.ref 25], h, 198, sl) = some r2 := hh2
    obtain ⟨n2, hh2⟩ := rn_gr hw.wt rfl rfl (by decide) rfl (by decide) (show _ = some (2, ((26 : Nat) : Int), 1) from rfl) rfl hh2
    obtain ⟨n2, hh2⟩ := rn_i rfl rfl rfl rfl hh2
    obtain ⟨n2, hh2⟩ := rn_i rfl rfl rfl rfl hh2
    have hh2 : pm_run PT n2 fr2 lo2 16 (6, [some (.ref 25), some (.ref 13)], [.ref 25, .ref 25, .ref 26], h, 198, sl) = some r2 := hh2
    obtain ⟨n2, hh2⟩ := rn_gi (x := nI si) hw.wt rfl rfl (by decide) rfl (by decide) rfl e2 hh2
    have hh2 : pm_run PT n2 fr2 lo2 16 (9, [some (.ref 25), some (.ref 13)], [.int (nI si), .ref 25, .ref 26], h, 198, sl) = some r2 := hh2
    obtain ⟨n2, fr3, lo3, r3, hh3, hh2⟩ := rn_call (w := 0) (t := 21) rfl rfl hh2
    have hh3 : pm_run PT n2 fr3 lo3 21 (0, [some (.ref 25), some (.int (nI si))], [], h, 198, sl) = some r3 := hh3
    obtain ⟨n3, hh3⟩ := rn_i rfl rfl rfl rfl hh3
    have hh3 : pm_run PT n3 fr3 lo3 21 (1, [some (.ref 25), some (.int (nI si))], [.ref 25], h, 198, sl) = some r3 := hh3
    obtain ⟨n3, hh3⟩ := rn_gi (x := nI fi) hw.wt rfl rfl (by decide) rfl (by decide) rfl e1 hh3
    obtain ⟨n3, hh3⟩ := rn_i rfl rfl rfl rfl hh3
    have hh3 : pm_run PT n3 fr3 lo3 21 (5, [some (.ref 25), some (.int (nI si))], [.int (nI si), .int (nI fi)], h, 198, sl) = some r3 := hh3
    obtain ⟨n3, hh3⟩ := en_add rfl hh3
    have hh3 : pm_run PT n3 fr3 lo3 21 (6, [some (.ref 25), some (.int (nI si))], [.int (nI (fi + si))], h, 198, sl) = some r3 := hh3
    obtain ⟨n3, hh3⟩ := rn_i rfl rfl rfl rfl hh3
    have hh3 : pm_run PT n3 fr3 lo3 21 (8, [some (.ref 25), some (.int (nI si))], [.int (nI 16), .int (nI (fi + si))], h, 198, sl) = some r3 := hh3
    obtain ⟨n3, hh3⟩ := en_r16 (x := fi + si) (by omega) rfl hh3
    have hh3 : pm_run PT n3 fr3 lo3 21 (9, [some (.ref 25), some (.int (nI si))], [.int (nI ((fi + si) % 16))], h, 198, sl) = some r3 := hh3
    have hh3 : pm_run PT n3 fr3 lo3 21 (9, [some (.ref 25), some (.int (nI si))], [.int (nI ((fi + si) % 16))], h, 198, sl) = some r3 := hh3
    have er4 : r3 = (some (.int (nI ((fi + si) % 16))), h, 198, sl) := (rn_ret rfl (Or.inl rfl) hh3).2
    subst er4
    have hh2 : pm_run PT n2 fr2 lo2 16 (12, [some (.ref 25), some (.ref 13)], [.int (nI ((fi + si) % 16)), .ref 26], h, 198, sl) = some r2 := hh2
    obtain ⟨n2, hx5, hh2⟩ := en_q26 (t := (fi + si) % 16) (by omega) hw.wt rfl hh2
    have hh2 : pm_run PT n2 fr2 lo2 16 (13, [some (.ref 25), some (.ref 13)], [.ref (27 + 6 * ((fi + si) % 16))], h, 198, sl) = some r2 := hh2
    obtain ⟨n2, hh2⟩ := rn_i rfl rfl rfl rfl hh2
    have hh2 : pm_run PT n2 fr2 lo2 16 (14, [some (.ref 25), some (.ref 13)], [.ref 13, .ref (27 + 6 * ((fi + si) % 16))], h, 198, sl) = some r2 := hh2
    obtain ⟨n2, fr3, lo3, r3, hh3, hh2⟩ := rn_call (w := 0) (t := 73) rfl rfl hh2
    obtain ⟨er6, hc7⟩ := cp73_ok (xst_27 (by omega)) rfl (by omega) hw hh3
    subst er6
    have er8 : r2 = (none, cp73 h (27 + 6 * ((fi + si) % 16)) 13, 198, sl) := rn_vret rfl rfl hh2
    subst er8
    obtain ⟨n1, hh1⟩ := rn_i rfl rfl rfl rfl hh1
    have hh1 : pm_run PT n1 fr1 lo1 18 (6, [some (.ref 25), some (.ref 13)], [.ref 25], cp73 h (27 + 6 * ((fi + si) % 16)) 13, 198, sl) = some r1 := hh1
    obtain ⟨n1, fr2, lo2, r2, hh2, hh1⟩ := rn_call (w := 0) (t := 17) rfl rfl hh1
    have hh2 : pm_run PT n1 fr2 lo2 17 (0, [some (.ref 25)], [], cp73 h (27 + 6 * ((fi + si) % 16)) 13, 198, sl) = some r2 := hh2
    obtain ⟨n2, hh2⟩ := rn_i rfl rfl rfl rfl hh2
    have hh2 : pm_run PT n2 fr2 lo2 17 (1, [some (.ref 25)], [.ref 25], cp73 h (27 + 6 * ((fi + si) % 16)) 13, 198, sl) = some r2 := hh2
    obtain ⟨n2, hh2⟩ := rn_gi (x := nI si) hc7.wt rfl rfl (by decide) rfl (by decide) rfl ((Fi_e (cp73_ne (by omega))).trans e2) hh2
    obtain ⟨n2, hh2⟩ := rn_i rfl rfl rfl rfl hh2
    have hh2 : pm_run PT n2 fr2 lo2 17 (6, [some (.ref 25)], [.int (nI 15), .int (nI si)], cp73 h (27 + 6 * ((fi + si) % 16)) 13, 198, sl) = some r2 := hh2
    obtain ⟨n2, hh2⟩ := en_cn (cc := .ge) (off := 16) (t := 22) (b := decide (15 ≤ si)) (hI_ge (by omega) (by omega)) rfl rfl hh2
    cases z9 : decide (15 ≤ si) with
    | true =>
      have hh2 := en_t z9 hh2
      have hh2 : pm_run PT n2 fr2 lo2 17 (22, [some (.ref 25)], [], cp73 h (27 + 6 * ((fi + si) % 16)) 13, 198, sl) = some r2 := hh2
      have y10 := of_decide_eq_true z9
      obtain ⟨n2, hh2⟩ := rn_i rfl rfl rfl rfl hh2
      obtain ⟨n2, hh2⟩ := rn_i rfl rfl rfl rfl hh2
      obtain ⟨n2, hh2⟩ := rn_i rfl rfl rfl rfl hh2
      have hh2 : pm_run PT n2 fr2 lo2 17 (25, [some (.ref 25)], [.int (nI 1), .ref 25, .ref 25], cp73 h (27 + 6 * ((fi + si) % 16)) 13, 198, sl) = some r2 := hh2
      obtain ⟨n2, fr3, lo3, r3, hh3, hh2⟩ := rn_call (w := 0) (t := 21) rfl rfl hh2
      have hh3 : pm_run PT n2 fr3 lo3 21 (0, [some (.ref 25), some (.int (nI 1))], [], cp73 h (27 + 6 * ((fi + si) % 16)) 13, 198, sl) = some r3 := hh3
      obtain ⟨n3, hh3⟩ := rn_i rfl rfl rfl rfl hh3
      have hh3 : pm_run PT n3 fr3 lo3 21 (1, [some (.ref 25), some (.int (nI 1))], [.ref 25], cp73 h (27 + 6 * ((fi + si) % 16)) 13, 198, sl) = some r3 := hh3
      obtain ⟨n3, hh3⟩ := rn_gi (x := nI fi) hc7.wt rfl rfl (by decide) rfl (by decide) rfl ((Fi_e (cp73_ne (by omega))).trans e1) hh3
      obtain ⟨n3, hh3⟩ := rn_i rfl rfl rfl rfl hh3
      have hh3 : pm_run PT n3 fr3 lo3 21 (5, [some (.ref 25), some (.int (nI 1))], [.int (nI 1), .int (nI fi)], cp73 h (27 + 6 * ((fi + si) % 16)) 13, 198, sl) = some r3 := hh3
      obtain ⟨n3, hh3⟩ := en_add rfl hh3
      have hh3 : pm_run PT n3 fr3 lo3 21 (6, [some (.ref 25), some (.int (nI 1))], [.int (nI (fi + 1))], cp73 h (27 + 6 * ((fi + si) % 16)) 13, 198, sl) = some r3 := hh3
      obtain ⟨n3, hh3⟩ := rn_i rfl rfl rfl rfl hh3
      have hh3 : pm_run PT n3 fr3 lo3 21 (8, [some (.ref 25), some (.int (nI 1))], [.int (nI 16), .int (nI (fi + 1))], cp73 h (27 + 6 * ((fi + si) % 16)) 13, 198, sl) = some r3 := hh3
      obtain ⟨n3, hh3⟩ := en_r16 (x := fi + 1) (by omega) rfl hh3
      have hh3 : pm_run PT n3 fr3 lo3 21 (9, [some (.ref 25), some (.int (nI 1))], [.int (nI ((fi + 1) % 16))], cp73 h (27 + 6 * ((fi + si) % 16)) 13, 198, sl) = some r3 := hh3
      have hh3 : pm_run PT n3 fr3 lo3 21 (9, [some (.ref 25), some (.int (nI 1))], [.int (nI ((fi + 1) % 16))], cp73 h (27 + 6 * ((fi + si) % 16)) 13, 198, sl) = some r3 := hh3
      have er11 : r3 = (some (.int (nI ((fi + 1) % 16))), cp73 h (27 + 6 * ((fi + si) % 16)) 13, 198, sl) := (rn_ret rfl (Or.inl rfl) hh3).2
      subst er11
      have hh2 : pm_run PT n2 fr2 lo2 17 (28, [some (.ref 25)], [.int (nI ((fi + 1) % 16)), .ref 25], cp73 h (27 + 6 * ((fi + si) % 16)) 13, 198, sl) = some r2 := hh2
      obtain ⟨n2, hh2⟩ := rn_pi hc7.wt rfl rfl (by decide) rfl (by decide) rfl hh2
      have er12 : r2 = (none, fset (cp73 h (27 + 6 * ((fi + si) % 16)) 13) 25 1 (.int (nI ((fi + 1) % 16))), 198, sl) := rn_vret rfl rfl hh2
      subst er12
      have er13 : r1 = (none, fset (cp73 h (27 + 6 * ((fi + si) % 16)) 13) 25 1 (.int (nI ((fi + 1) % 16))), 198, sl) := rn_vret rfl rfl hh1
      subst er13
      obtain ⟨n, hh⟩ := rn_i rfl rfl rfl rfl hh
      obtain ⟨n, hh⟩ := rn_i rfl rfl rfl rfl hh
      obtain ⟨n, hh⟩ := rn_i rfl rfl rfl rfl hh
      obtain ⟨n, hh⟩ := rn_i rfl rfl rfl rfl hh
      have hh : pm_run PT n fr lo 98 (27, [some (.ref 0), some (.int (nI a)), some (.int (nI b)), some (.int m)], [.int m, .int (nI b), .int (nI a), .ref 0], fset (cp73 h (27 + 6 * ((fi + si) % 16)) 13) 25 1 (.int (nI ((fi + 1) % 16))), 198, sl) = some R := hh
      obtain ⟨n, fr1, lo1, r1, hh1, hh⟩ := rn_call (w := 0) (t := 138) rfl rfl hh
      obtain ⟨er14, hc15, hf16⟩ := v138_ok (a := a) (b := b) (m := m) (hc_f rfl rfl (by decide) rfl hc7) (by omega) (by omega) hh1
      subst er14
      obtain ⟨n, hh⟩ := rn_i rfl rfl rfl rfl hh
      have hh : pm_run PT n fr lo 98 (31, [some (.ref 0), some (.int (nI a)), some (.int (nI b)), some (.int m)], [.ref 0], v138 q cc gc (fset (cp73 h (27 + 6 * ((fi + si) % 16)) 13) 25 1 (.int (nI ((fi + 1) % 16)))) a b m, 198, sl) = some R := hh
      obtain ⟨n, hh⟩ := rn_gr hc15.wt rfl rfl (by decide) rfl (by decide) (show _ = some (2, ((13 : Nat) : Int), 1) from rfl) rfl hh
      have hh : pm_run PT n fr lo 98 (34, [some (.ref 0), some (.int (nI a)), some (.int (nI b)), some (.int m)], [.ref 13], v138 q cc gc (fset (cp73 h (27 + 6 * ((fi + si) % 16)) 13) 25 1 (.int (nI ((fi + 1) % 16)))) a b m, 198, sl) = some R := hh
      obtain ⟨n, hh⟩ := rn_gr hc15.wt rfl rfl (by decide) rfl (by decide) (show _ = some (2, ((15 : Nat) : Int), 1) from rfl) rfl hh
      obtain ⟨n, hh⟩ := rn_i rfl rfl rfl rfl hh
      obtain ⟨n, hh⟩ := rn_i rfl rfl rfl rfl hh
      have hh : pm_run PT n fr lo 98 (39, [some (.ref 0), some (.int (nI a)), some (.int (nI b)), some (.int m)], [.int (nI b), .int (nI a), .ref 15], v138 q cc gc (fset (cp73 h (27 + 6 * ((fi + si) % 16)) 13) 25 1 (.int (nI ((fi + 1) % 16)))) a b m, 198, sl) = some R := hh
      obtain ⟨n, fr1, lo1, r1, hh1, hh⟩ := rn_call (w := 2) (t := 160) rfl rfl hh
      have hh1 : pm_run PT n fr1 lo1 160 (0, [some (.int (nI a)), some (.int (nI b))], [], v138 q cc gc (fset (cp73 h (27 + 6 * ((fi + si) % 16)) 13) 25 1 (.int (nI ((fi + 1) % 16)))) a b m, 198, sl) = some r1 := hh1
      obtain ⟨n1, hh1⟩ := rn_i rfl rfl rfl rfl hh1
      obtain ⟨n1, hh1⟩ := rn_i rfl rfl rfl rfl hh1
      have hh1 : pm_run PT n1 fr1 lo1 160 (3, [some (.int (nI a)), some (.int (nI b))], [.int (nI 6), .int (nI a)], v138 q cc gc (fset (cp73 h (27 + 6 * ((fi + si) % 16)) 13) 25 1 (.int (nI ((fi + 1) % 16)))) a b m, 198, sl) = some r1 := hh1
      obtain ⟨n1, hh1⟩ := en_mul rfl hh1
      have hh1 : pm_run PT n1 fr1 lo1 160 (4, [some (.int (nI a)), some (.int (nI b))], [.int (nI (a * 6))], v138 q cc gc (fset (cp73 h (27 + 6 * ((fi + si) % 16)) 13) 25 1 (.int (nI ((fi + 1) % 16)))) a b m, 198, sl) = some r1 := hh1
      obtain ⟨n1, hh1⟩ := rn_i rfl rfl rfl rfl hh1
      have hh1 : pm_run PT n1 fr1 lo1 160 (5, [some (.int (nI a)), some (.int (nI b))], [.int (nI b), .int (nI (a * 6))], v138 q cc gc (fset (cp73 h (27 + 6 * ((fi + si) % 16)) 13) 25 1 (.int (nI ((fi + 1) % 16)))) a b m, 198, sl) = some r1 := hh1
      obtain ⟨n1, hh1⟩ := en_add rfl hh1
      have hh1 : pm_run PT n1 fr1 lo1 160 (6, [some (.int (nI a)), some (.int (nI b))], [.int (nI (a * 6 + b))], v138 q cc gc (fset (cp73 h (27 + 6 * ((fi + si) % 16)) 13) 25 1 (.int (nI ((fi + 1) % 16)))) a b m, 198, sl) = some r1 := hh1
      have hh1 : pm_run PT n1 fr1 lo1 160 (6, [some (.int (nI a)), some (.int (nI b))], [.int (nI (a * 6 + b))], v138 q cc gc (fset (cp73 h (27 + 6 * ((fi + si) % 16)) 13) 25 1 (.int (nI ((fi + 1) % 16)))) a b m, 198, sl) = some r1 := hh1
      have er17 : r1 = (some (.int (nI (a * 6 + b))), v138 q cc gc (fset (cp73 h (27 + 6 * ((fi + si) % 16)) 13) 25 1 (.int (nI ((fi + 1) % 16)))) a b m, 198, sl) := (rn_ret rfl (Or.inl rfl) hh1).2
      subst er17
      have hh : pm_run PT n fr lo 98 (42, [some (.ref 0), some (.int (nI a)), some (.int (nI b)), some (.int m)], [.int (nI (a * 6 + b)), .ref 15], v138 q cc gc (fset (cp73 h (27 + 6 * ((fi + si) % 16)) 13) 25 1 (.int (nI ((fi + 1) % 16)))) a b m, 198, sl) = some R := hh
      obtain ⟨n, hx18, hh⟩ := en_lu (t := a * 6 + b) (f := Ar (v138 q cc gc (fset (cp73 h (27 + 6 * ((fi + si) % 16)) 13) 25 1 (.int (nI ((fi + 1) % 16)))) a b m) 15) (w := (Ar (v138 q cc gc (fset (cp73 h (27 + 6 * ((fi + si) % 16)) 13) 25 1 (.int (nI ((fi + 1) % 16)))) a b m) 15) (a * 6 + b)) (nI_clamp (by omega)) hc15.wt rfl (by decide) rfl (by decide) rfl (fun _ => rfl) hh
      have hh : pm_run PT n fr lo 98 (43, [some (.ref 0), some (.int (nI a)), some (.int (nI b)), some (.int m)], [.int ((Ar (v138 q cc gc (fset (cp73 h (27 + 6 * ((fi + si) % 16)) 13) 25 1 (.int (nI ((fi + 1) % 16)))) a b m) 15) (a * 6 + b))], v138 q cc gc (fset (cp73 h (27 + 6 * ((fi + si) % 16)) 13) 25 1 (.int (nI ((fi + 1) % 16)))) a b m, 198, sl) = some R := hh
      have er19 : R = (some (.int ((Ar (v138 q cc gc (fset (cp73 h (27 + 6 * ((fi + si) % 16)) 13) 25 1 (.int (nI ((fi + 1) % 16)))) a b m) 15) (a * 6 + b))), v138 q cc gc (fset (cp73 h (27 + 6 * ((fi + si) % 16)) 13) 25 1 (.int (nI ((fi + 1) % 16)))) a b m, 198, sl) := (rn_ret rfl (Or.inl rfl) hh).2
      have ed : v98 q cc gc h fi si a b m = ((Ar (v138 q cc gc (fset (cp73 h (27 + 6 * ((fi + si) % 16)) 13) 25 1 (.int (nI ((fi + 1) % 16)))) a b m) 15) (a * 6 + b), v138 q cc gc (fset (cp73 h (27 + 6 * ((fi + si) % 16)) 13) 25 1 (.int (nI ((fi + 1) % 16)))) a b m) := (cf z2).trans ((ct z9).trans rfl)
      refine ⟨?_, ?_, ?_⟩ <;> rw [ed]
      · exact er19
      · exact hc15
      · exact (fr_g rfl rfl hf16 (fr_f rfl rfl (fr_c27 (by omega) hw.wt rfl rfl fr_0)))
    | false =>
      have hh2 := en_f z9 hh2
      have hh2 : pm_run PT n2 fr2 lo2 17 (9, [some (.ref 25)], [], cp73 h (27 + 6 * ((fi + si) % 16)) 13, 198, sl) = some r2 := hh2
      have y20 := of_decide_eq_false z9
      obtain ⟨n2, hh2⟩ := rn_i rfl rfl rfl rfl hh2
      obtain ⟨n2, hh2⟩ := rn_i rfl rfl rfl rfl hh2
      have hh2 : pm_run PT n2 fr2 lo2 17 (11, [some (.ref 25)], [.ref 25, .ref 25], cp73 h (27 + 6 * ((fi + si) % 16)) 13, 198, sl) = some r2 := hh2
      obtain ⟨n2, hh2⟩ := rn_gi (x := nI si) hc7.wt rfl rfl (by decide) rfl (by decide) rfl ((Fi_e (cp73_ne (by omega))).trans e2) hh2
      obtain ⟨n2, hh2⟩ := rn_i rfl rfl rfl rfl hh2
      have hh2 : pm_run PT n2 fr2 lo2 17 (15, [some (.ref 25)], [.int (nI 1), .int (nI si), .ref 25], cp73 h (27 + 6 * ((fi + si) % 16)) 13, 198, sl) = some r2 := hh2
      obtain ⟨n2, hh2⟩ := en_add rfl hh2
      have hh2 : pm_run PT n2 fr2 lo2 17 (16, [some (.ref 25)], [.int (nI (si + 1)), .ref 25], cp73 h (27 + 6 * ((fi + si) % 16)) 13, 198, sl) = some r2 := hh2
      have hh2 : pm_run PT n2 fr2 lo2 17 (16, [some (.ref 25)], [.int (nI (si + 1)), .ref 25], cp73 h (27 + 6 * ((fi + si) % 16)) 13, 198, sl) = some r2 := hh2
      obtain ⟨n2, hh2⟩ := rn_pi hc7.wt rfl rfl (by decide) rfl (by decide) rfl hh2
      obtain ⟨n2, hh2⟩ := rn_i rfl rfl rfl rfl hh2
      have er21 : r2 = (none, fset (cp73 h (27 + 6 * ((fi + si) % 16)) 13) 25 2 (.int (nI (si + 1))), 198, sl) := rn_vret rfl rfl hh2
      subst er21
      have er22 : r1 = (none, fset (cp73 h (27 + 6 * ((fi + si) % 16)) 13) 25 2 (.int (nI (si + 1))), 198, sl) := rn_vret rfl rfl hh1
      subst er22
      obtain ⟨n, hh⟩ := rn_i rfl rfl rfl rfl hh
      obtain ⟨n, hh⟩ := rn_i rfl rfl rfl rfl hh
      obtain ⟨n, hh⟩ := rn_i rfl rfl rfl rfl hh
      obtain ⟨n, hh⟩ := rn_i rfl rfl rfl rfl hh
      have hh : pm_run PT n fr lo 98 (27, [some (.ref 0), some (.int (nI a)), some (.int (nI b)), some (.int m)], [.int m, .int (nI b), .int (nI a), .ref 0], fset (cp73 h (27 + 6 * ((fi + si) % 16)) 13) 25 2 (.int (nI (si + 1))), 198, sl) = some R := hh
      obtain ⟨n, fr1, lo1, r1, hh1, hh⟩ := rn_call (w := 0) (t := 138) rfl rfl hh
      obtain ⟨er23, hc24, hf25⟩ := v138_ok (a := a) (b := b) (m := m) (hc_f rfl rfl (by decide) rfl hc7) (by omega) (by omega) hh1
      subst er23
      obtain ⟨n, hh⟩ := rn_i rfl rfl rfl rfl hh
      have hh : pm_run PT n fr lo 98 (31, [some (.ref 0), some (.int (nI a)), some (.int (nI b)), some (.int m)], [.ref 0], v138 q cc gc (fset (cp73 h (27 + 6 * ((fi + si) % 16)) 13) 25 2 (.int (nI (si + 1)))) a b m, 198, sl) = some R := hh
      obtain ⟨n, hh⟩ := rn_gr hc24.wt rfl rfl (by decide) rfl (by decide) (show _ = some (2, ((13 : Nat) : Int), 1) from rfl) rfl hh
      have hh : pm_run PT n fr lo 98 (34, [some (.ref 0), some (.int (nI a)), some (.int (nI b)), some (.int m)], [.ref 13], v138 q cc gc (fset (cp73 h (27 + 6 * ((fi + si) % 16)) 13) 25 2 (.int (nI (si + 1)))) a b m, 198, sl) = some R := hh
      obtain ⟨n, hh⟩ := rn_gr hc24.wt rfl rfl (by decide) rfl (by decide) (show _ = some (2, ((15 : Nat) : Int), 1) from rfl) rfl hh
      obtain ⟨n, hh⟩ := rn_i rfl rfl rfl rfl hh
      obtain ⟨n, hh⟩ := rn_i rfl rfl rfl rfl hh
      have hh : pm_run PT n fr lo 98 (39, [some (.ref 0), some (.int (nI a)), some (.int (nI b)), some (.int m)], [.int (nI b), .int (nI a), .ref 15], v138 q cc gc (fset (cp73 h (27 + 6 * ((fi + si) % 16)) 13) 25 2 (.int (nI (si + 1)))) a b m, 198, sl) = some R := hh
      obtain ⟨n, fr1, lo1, r1, hh1, hh⟩ := rn_call (w := 2) (t := 160) rfl rfl hh
      have hh1 : pm_run PT n fr1 lo1 160 (0, [some (.int (nI a)), some (.int (nI b))], [], v138 q cc gc (fset (cp73 h (27 + 6 * ((fi + si) % 16)) 13) 25 2 (.int (nI (si + 1)))) a b m, 198, sl) = some r1 := hh1
      obtain ⟨n1, hh1⟩ := rn_i rfl rfl rfl rfl hh1
      obtain ⟨n1, hh1⟩ := rn_i rfl rfl rfl rfl hh1
      have hh1 : pm_run PT n1 fr1 lo1 160 (3, [some (.int (nI a)), some (.int (nI b))], [.int (nI 6), .int (nI a)], v138 q cc gc (fset (cp73 h (27 + 6 * ((fi + si) % 16)) 13) 25 2 (.int (nI (si + 1)))) a b m, 198, sl) = some r1 := hh1
      obtain ⟨n1, hh1⟩ := en_mul rfl hh1
      have hh1 : pm_run PT n1 fr1 lo1 160 (4, [some (.int (nI a)), some (.int (nI b))], [.int (nI (a * 6))], v138 q cc gc (fset (cp73 h (27 + 6 * ((fi + si) % 16)) 13) 25 2 (.int (nI (si + 1)))) a b m, 198, sl) = some r1 := hh1
      obtain ⟨n1, hh1⟩ := rn_i rfl rfl rfl rfl hh1
      have hh1 : pm_run PT n1 fr1 lo1 160 (5, [some (.int (nI a)), some (.int (nI b))], [.int (nI b), .int (nI (a * 6))], v138 q cc gc (fset (cp73 h (27 + 6 * ((fi + si) % 16)) 13) 25 2 (.int (nI (si + 1)))) a b m, 198, sl) = some r1 := hh1
      obtain ⟨n1, hh1⟩ := en_add rfl hh1
      have hh1 : pm_run PT n1 fr1 lo1 160 (6, [some (.int (nI a)), some (.int (nI b))], [.int (nI (a * 6 + b))], v138 q cc gc (fset (cp73 h (27 + 6 * ((fi + si) % 16)) 13) 25 2 (.int (nI (si + 1)))) a b m, 198, sl) = some r1 := hh1
      have hh1 : pm_run PT n1 fr1 lo1 160 (6, [some (.int (nI a)), some (.int (nI b))], [.int (nI (a * 6 + b))], v138 q cc gc (fset (cp73 h (27 + 6 * ((fi + si) % 16)) 13) 25 2 (.int (nI (si + 1)))) a b m, 198, sl) = some r1 := hh1
      have er26 : r1 = (some (.int (nI (a * 6 + b))), v138 q cc gc (fset (cp73 h (27 + 6 * ((fi + si) % 16)) 13) 25 2 (.int (nI (si + 1)))) a b m, 198, sl) := (rn_ret rfl (Or.inl rfl) hh1).2
      subst er26
      have hh : pm_run PT n fr lo 98 (42, [some (.ref 0), some (.int (nI a)), some (.int (nI b)), some (.int m)], [.int (nI (a * 6 + b)), .ref 15], v138 q cc gc (fset (cp73 h (27 + 6 * ((fi + si) % 16)) 13) 25 2 (.int (nI (si + 1)))) a b m, 198, sl) = some R := hh
      obtain ⟨n, hx27, hh⟩ := en_lu (t := a * 6 + b) (f := Ar (v138 q cc gc (fset (cp73 h (27 + 6 * ((fi + si) % 16)) 13) 25 2 (.int (nI (si + 1)))) a b m) 15) (w := (Ar (v138 q cc gc (fset (cp73 h (27 + 6 * ((fi + si) % 16)) 13) 25 2 (.int (nI (si + 1)))) a b m) 15) (a * 6 + b)) (nI_clamp (by omega)) hc24.wt rfl (by decide) rfl (by decide) rfl (fun _ => rfl) hh
      have hh : pm_run PT n fr lo 98 (43, [some (.ref 0), some (.int (nI a)), some (.int (nI b)), some (.int m)], [.int ((Ar (v138 q cc gc (fset (cp73 h (27 + 6 * ((fi + si) % 16)) 13) 25 2 (.int (nI (si + 1)))) a b m) 15) (a * 6 + b))], v138 q cc gc (fset (cp73 h (27 + 6 * ((fi + si) % 16)) 13) 25 2 (.int (nI (si + 1)))) a b m, 198, sl) = some R := hh
      have er28 : R = (some (.int ((Ar (v138 q cc gc (fset (cp73 h (27 + 6 * ((fi + si) % 16)) 13) 25 2 (.int (nI (si + 1)))) a b m) 15) (a * 6 + b))), v138 q cc gc (fset (cp73 h (27 + 6 * ((fi + si) % 16)) 13) 25 2 (.int (nI (si + 1)))) a b m, 198, sl) := (rn_ret rfl (Or.inl rfl) hh).2
      have ed : v98 q cc gc h fi si a b m = ((Ar (v138 q cc gc (fset (cp73 h (27 + 6 * ((fi + si) % 16)) 13) 25 2 (.int (nI (si + 1)))) a b m) 15) (a * 6 + b), v138 q cc gc (fset (cp73 h (27 + 6 * ((fi + si) % 16)) 13) 25 2 (.int (nI (si + 1)))) a b m) := (cf z2).trans ((cf z9).trans rfl)
      refine ⟨?_, ?_, ?_⟩ <;> rw [ed]
      · exact er28
      · exact hc24
      · exact (fr_g rfl rfl hf25 (fr_f rfl rfl (fr_c27 (by omega) hw.wt rfl rfl fr_0)))
def v139 (q : QT) (cc gc : Nat) (d0 : Nat → Int32) (a : Nat) (b : Nat) : Int32 := cond (pP cc (nI a) (nI b)) (cond (pm_cmp .ne ((d0) (a * 6 + b)) 0) (nI 0) (Int32.ofInt (-2))) (Int32.ofInt (-1))
theorem v139_ok {n fr lo sl cc gc : Nat} {q : QT} {h : pm_H} {R : pm_Rs} {a : Nat} {b : Nat} (hw : HC q cc gc h) (h_a : a < 10000) (h_b : b < 10000) (hh : pm_run PT n fr lo 139 (0, pm_l0 [.ref 0, .int (nI a), .int (nI b)] 3, [], h, 198, sl) = some R) : R = (some (.int (v139 q cc gc (Ar h 16) a b)), h, 198, sl) := by
  have hcc := hw.cb
  have hgc := hw.gb
  have hzr := hw.zr
  obtain ⟨n, hh⟩ := rn_i rfl rfl rfl rfl hh
  have hh : pm_run PT n fr lo 139 (1, [some (.ref 0), some (.int (nI a)), some (.int (nI b))], [.ref 0], h, 198, sl) = some R := hh
  obtain ⟨n, hh⟩ := rn_gr hw.wt rfl rfl (by decide) rfl (by decide) (show _ = some (2, ((5 : Nat) : Int), 1) from rfl) rfl hh
  obtain ⟨n, hh⟩ := rn_i rfl rfl rfl rfl hh
  obtain ⟨n, hh⟩ := rn_i rfl rfl rfl rfl hh
  have hh : pm_run PT n fr lo 139 (6, [some (.ref 0), some (.int (nI a)), some (.int (nI b))], [.int (nI b), .int (nI a), .ref 5], h, 198, sl) = some R := hh
  obtain ⟨n, fr1, lo1, r1, hh1, hh⟩ := rn_call (w := 0) (t := 24) rfl rfl hh
  have er1 := xa_run hcc (hc_rC hw) hh1
  subst er1
  have hh : pm_run PT n fr lo 139 (9, [some (.ref 0), some (.int (nI a)), some (.int (nI b))], [.int (cond (pP cc (nI a) (nI b)) 1 0)], h, 198, sl) = some R := hh
  obtain ⟨n, hh⟩ := en_zn (cc := .ne) (off := 5) (t := 14) (b := pP cc (nI a) (nI b)) eb_ne rfl rfl hh
  cases z2 : pP cc (nI a) (nI b) with
  | true =>
    have hh := en_t z2 hh
    have hh : pm_run PT n fr lo 139 (14, [some (.ref 0), some (.int (nI a)), some (.int (nI b))], [], h, 198, sl) = some R := hh
    obtain ⟨n, hh⟩ := rn_i rfl rfl rfl rfl hh
    have hh : pm_run PT n fr lo 139 (15, [some (.ref 0), some (.int (nI a)), some (.int (nI b))], [.ref 0], h, 198, sl) = some R := hh
    obtain ⟨n, hh⟩ := rn_gr hw.wt rfl rfl (by decide) rfl (by decide) (show _ = some (2, ((13 : Nat) : Int), 1) from rfl) rfl hh
    have hh : pm_run PT n fr lo 139 (18, [some (.ref 0), some (.int (nI a)), some (.int (nI b))], [.ref 13], h, 198, sl) = some R := hh
    obtain ⟨n, hh⟩ := rn_gr hw.wt rfl rfl (by decide) rfl (by decide) (show _ = some (2, ((16 : Nat) : Int), 1) from rfl) rfl hh
    obtain ⟨n, hh⟩ := rn_i rfl rfl rfl rfl hh
    obtain ⟨n, hh⟩ := rn_i rfl rfl rfl rfl hh
    have hh : pm_run PT n fr lo 139 (23, [some (.ref 0), some (.int (nI a)), some (.int (nI b))], [.int (nI b), .int (nI a), .ref 16], h, 198, sl) = some R := hh
    obtain ⟨n, fr1, lo1, r1, hh1, hh⟩ := rn_call (w := 2) (t := 160) rfl rfl hh
    have hh1 : pm_run PT n fr1 lo1 160 (0, [some (.int (nI a)), some (.int (nI b))], [], h, 198, sl) = some r1 := hh1
    obtain ⟨n1, hh1⟩ := rn_i rfl rfl rfl rfl hh1
    obtain ⟨n1, hh1⟩ := rn_i rfl rfl rfl rfl hh1
    have hh1 : pm_run PT n1 fr1 lo1 160 (3, [some (.int (nI a)), some (.int (nI b))], [.int (nI 6), .int (nI a)], h, 198, sl) = some r1 := hh1
    obtain ⟨n1, hh1⟩ := en_mul rfl hh1
    have hh1 : pm_run PT n1 fr1 lo1 160 (4, [some (.int (nI a)), some (.int (nI b))], [.int (nI (a * 6))], h, 198, sl) = some r1 := hh1
    obtain ⟨n1, hh1⟩ := rn_i rfl rfl rfl rfl hh1
    have hh1 : pm_run PT n1 fr1 lo1 160 (5, [some (.int (nI a)), some (.int (nI b))], [.int (nI b), .int (nI (a * 6))], h, 198, sl) = some r1 := hh1
    obtain ⟨n1, hh1⟩ := en_add rfl hh1
    have hh1 : pm_run PT n1 fr1 lo1 160 (6, [some (.int (nI a)), some (.int (nI b))], [.int (nI (a * 6 + b))], h, 198, sl) = some r1 := hh1
    have hh1 : pm_run PT n1 fr1 lo1 160 (6, [some (.int (nI a)), some (.int (nI b))], [.int (nI (a * 6 + b))], h, 198, sl) = some r1 := hh1
    have er3 : r1 = (some (.int (nI (a * 6 + b))), h, 198, sl) := (rn_ret rfl (Or.inl rfl) hh1).2
    subst er3
    have hh : pm_run PT n fr lo 139 (26, [some (.ref 0), some (.int (nI a)), some (.int (nI b))], [.int (nI (a * 6 + b)), .ref 16], h, 198, sl) = some R := hh
    obtain ⟨n, hx4, hh⟩ := en_lu (t := a * 6 + b) (f := Ar h 16) (w := (Ar h 16) (a * 6 + b)) (nI_clamp (by omega)) hw.wt rfl (by decide) rfl (by decide) rfl (fun _ => rfl) hh
    have hh : pm_run PT n fr lo 139 (27, [some (.ref 0), some (.int (nI a)), some (.int (nI b))], [.int ((Ar h 16) (a * 6 + b))], h, 198, sl) = some R := hh
    obtain ⟨n, hh⟩ := en_zn (cc := .ne) (off := 8) (t := 35) (b := pm_cmp .ne ((Ar h 16) (a * 6 + b)) 0) rfl rfl rfl hh
    have hj6 : ∃ mJ, pm_run PT mJ fr lo 139 (cond (pm_cmp .ne ((Ar h 16) (a * 6 + b)) 0) (36, [some (.ref 0), some (.int (nI a)), some (.int (nI b))], [.int (nI 0)], h, 198, sl) (36, [some (.ref 0), some (.int (nI a)), some (.int (nI b))], [.int (Int32.ofInt (-2))], h, 198, sl)) = some R := en_J (fun z5 => by
        have hh := en_t z5 hh
        have hh : pm_run PT n fr lo 139 (35, [some (.ref 0), some (.int (nI a)), some (.int (nI b))], [], h, 198, sl) = some R := hh
        obtain ⟨n, hh⟩ := rn_i rfl rfl rfl rfl hh
        exact ⟨n, hh⟩) (fun z5 => by
        have hh := en_f z5 hh
        have hh : pm_run PT n fr lo 139 (30, [some (.ref 0), some (.int (nI a)), some (.int (nI b))], [], h, 198, sl) = some R := hh
        obtain ⟨n, hh⟩ := rn_i rfl rfl rfl rfl hh
        obtain ⟨n, hh⟩ := rn_i rfl rfl rfl rfl hh
        exact ⟨n, hh⟩)
    obtain ⟨n, hh⟩ := hj6
    rw [show (cond (pm_cmp .ne ((Ar h 16) (a * 6 + b)) 0) (36, [some (.ref 0), some (.int (nI a)), some (.int (nI b))], [.int (nI 0)], h, 198, sl) (36, [some (.ref 0), some (.int (nI a)), some (.int (nI b))], [.int (Int32.ofInt (-2))], h, 198, sl) : pm_St) = (36, [some (.ref 0), some (.int (nI a)), some (.int (nI b))], [.int (cond (pm_cmp .ne ((Ar h 16) (a * 6 + b)) 0) (nI 0) (Int32.ofInt (-2)))], h, 198, sl) from by cases (pm_cmp .ne ((Ar h 16) (a * 6 + b)) 0) <;> rfl] at hh
    have hh : pm_run PT n fr lo 139 (36, [some (.ref 0), some (.int (nI a)), some (.int (nI b))], [.int (cond (pm_cmp .ne ((Ar h 16) (a * 6 + b)) 0) (nI 0) (Int32.ofInt (-2)))], h, 198, sl) = some R := hh
    have er7 : R = (some (.int (cond (pm_cmp .ne ((Ar h 16) (a * 6 + b)) 0) (nI 0) (Int32.ofInt (-2)))), h, 198, sl) := (rn_ret rfl (Or.inl rfl) hh).2
    have ed : v139 q cc gc (Ar h 16) a b = cond (pm_cmp .ne ((Ar h 16) (a * 6 + b)) 0) (nI 0) (Int32.ofInt (-2)) := (ct z2).trans rfl
    rw [ed]
    exact er7
  | false =>
    have hh := en_f z2 hh
    have hh : pm_run PT n fr lo 139 (12, [some (.ref 0), some (.int (nI a)), some (.int (nI b))], [], h, 198, sl) = some R := hh
    obtain ⟨n, hh⟩ := rn_i rfl rfl rfl rfl hh
    have hh : pm_run PT n fr lo 139 (13, [some (.ref 0), some (.int (nI a)), some (.int (nI b))], [.int (Int32.ofInt (-1))], h, 198, sl) = some R := hh
    have er8 : R = (some (.int (Int32.ofInt (-1))), h, 198, sl) := (rn_ret rfl (Or.inl rfl) hh).2
    have ed : v139 q cc gc (Ar h 16) a b = (Int32.ofInt (-1)) := (cf z2).trans rfl
    rw [ed]
    exact er8
def v99 (q : QT) (cc gc : Nat) (h : pm_H) (fi : Nat) (si : Nat) (a : Nat) (b : Nat) : Int32 × pm_H := cond (pm_cmp .ge (v139 q cc gc (Ar h 16) a b) 0) (cond (decide (15 ≤ si)) ((Ar h 16) (a * 6 + b), aset (fset (cp73 h (27 + 6 * ((fi + si) % 16)) 13) 25 1 (.int (nI ((fi + 1) % 16)))) 16 36 (upd (Ar h 16) (a * 6 + b) (nI 0))) ((Ar h 16) (a * 6 + b), aset (fset (cp73 h (27 + 6 * ((fi + si) % 16)) 13) 25 2 (.int (nI (si + 1)))) 16 36 (upd (Ar h 16) (a * 6 + b) (nI 0)))) (v139 q cc gc (Ar h 16) a b, h)
theorem v99_ok {n fr lo sl cc gc : Nat} {q : QT} {h : pm_H} {R : pm_Rs} {fi : Nat} {si : Nat} {a : Nat} {b : Nat} (hw : HC q cc gc h) (h_a : a < 10000) (h_b : b < 10000) (hfi : fi < 16) (hsi : si ≤ 15) (e1 : Fi h 25 1 = nI fi) (e2 : Fi h 25 2 = nI si) (hh : pm_run PT n fr lo 99 (0, pm_l0 [.ref 0, .int (nI a), .int (nI b)] 5, [], h, 198, sl) = some R) : R = (some (.int ((v99 q cc gc h fi si a b).1)), (v99 q cc gc h fi si a b).2, 198, sl) ∧ HC q cc gc ((v99 q cc gc h fi si a b).2) ∧ frm [16, 25, 27, 28, 29, 30, 31, 32, 33, 34, 35, 36, 37, 38, 39, 40, 41, 42, 43, 44, 45, 46, 47, 48, 49, 50, 51, 52, 53, 54, 55, 56, 57, 58, 59, 60, 61, 62, 63, 64, 65, 66, 67, 68, 69, 70, 71, 72, 73, 74, 75, 76, 77, 78, 79, 80, 81, 82, 83, 84, 85, 86, 87, 88, 89, 90, 91, 92, 93, 94, 95, 96, 97, 98, 99, 100, 101, 102, 103, 104, 105, 106, 107, 108, 109, 110, 111, 112, 113, 114, 115, 116, 117, 118, 119, 120, 121, 122] [(25, 1), (25, 2), (27, 5), (27, 6), (33, 5), (33, 6), (39, 5), (39, 6), (45, 5), (45, 6), (51, 5), (51, 6), (57, 5), (57, 6), (63, 5), (63, 6), (69, 5), (69, 6), (75, 5), (75, 6), (81, 5), (81, 6), (87, 5), (87, 6), (93, 5), (93, 6), (99, 5), (99, 6), (105, 5), (105, 6), (111, 5), (111, 6), (117, 5), (117, 6)] h ((v99 q cc gc h fi si a b).2) := by
  have hcc := hw.cb
  have hgc := hw.gb
  have hzr := hw.zr
  obtain ⟨n, hh⟩ := rn_i rfl rfl rfl rfl hh
  obtain ⟨n, hh⟩ := rn_i rfl rfl rfl rfl hh
  obtain ⟨n, hh⟩ := rn_i rfl rfl rfl rfl hh
  have hh : pm_run PT n fr lo 99 (3, [some (.ref 0), some (.int (nI a)), some (.int (nI b)), none, none], [.int (nI b), .int (nI a), .ref 0], h, 198, sl) = some R := hh
  obtain ⟨n, fr1, lo1, r1, hh1, hh⟩ := rn_call (w := 0) (t := 139) rfl rfl hh
  have er1 := v139_ok (a := a) (b := b) hw (by omega) (by omega) hh1
  subst er1
  obtain ⟨n, hh⟩ := rn_i rfl rfl rfl rfl hh
  obtain ⟨n, hh⟩ := rn_i rfl rfl rfl rfl hh
  have hh : pm_run PT n fr lo 99 (8, [some (.ref 0), some (.int (nI a)), some (.int (nI b)), some (.int (v139 q cc gc (Ar h 16) a b)), none], [.int (v139 q cc gc (Ar h 16) a b)], h, 198, sl) = some R := hh
  obtain ⟨n, hh⟩ := en_zn (cc := .ge) (off := 5) (t := 13) (b := pm_cmp .ge (v139 q cc gc (Ar h 16) a b) 0) rfl rfl rfl hh
  cases z2 : pm_cmp .ge (v139 q cc gc (Ar h 16) a b) 0 with
  | true =>
    have hh := en_t z2 hh
    have hh : pm_run PT n fr lo 99 (13, [some (.ref 0), some (.int (nI a)), some (.int (nI b)), some (.int (v139 q cc gc (Ar h 16) a b)), none], [], h, 198, sl) = some R := hh
    obtain ⟨n, hh⟩ := rn_i rfl rfl rfl rfl hh
    have hh : pm_run PT n fr lo 99 (14, [some (.ref 0), some (.int (nI a)), some (.int (nI b)), some (.int (v139 q cc gc (Ar h 16) a b)), none], [.ref 0], h, 198, sl) = some R := hh
    obtain ⟨n, hh⟩ := rn_gr hw.wt rfl rfl (by decide) rfl (by decide) (show _ = some (2, ((25 : Nat) : Int), 1) from rfl) rfl hh
    obtain ⟨n, hh⟩ := rn_i rfl rfl rfl rfl hh
    have hh : pm_run PT n fr lo 99 (18, [some (.ref 0), some (.int (nI a)), some (.int (nI b)), some (.int (v139 q cc gc (Ar h 16) a b)), none], [.ref 0, .ref 25], h, 198, sl) = some R := hh
    obtain ⟨n, hh⟩ := rn_gr hw.wt rfl rfl (by decide) rfl (by decide) (show _ = some (2, ((13 : Nat) : Int), 1) from rfl) rfl hh
    have hh : pm_run PT n fr lo 99 (21, [some (.ref 0), some (.int (nI a)), some (.int (nI b)), some (.int (v139 q cc gc (Ar h 16) a b)), none], [.ref 13, .ref 25], h, 198, sl) = some R := hh
    obtain ⟨n, fr1, lo1, r1, hh1, hh⟩ := rn_call (w := 0) (t := 18) rfl rfl hh
    have hh1 : pm_run PT n fr1 lo1 18 (0, [some (.ref 25), some (.ref 13)], [], h, 198, sl) = some r1 := hh1
    obtain ⟨n1, hh1⟩ := rn_i rfl rfl rfl rfl hh1
    obtain ⟨n1, hh1⟩ := rn_i rfl rfl rfl rfl hh1
    have hh1 : pm_run PT n1 fr1 lo1 18 (2, [some (.ref 25), some (.ref 13)], [.ref 13, .ref 25], h, 198, sl) = some r1 := hh1
    obtain ⟨n1, fr2, lo2, r2, hh2, hh1⟩ := rn_call (w := 0) (t := 16) rfl rfl hh1
    have hh2 : pm_run PT n1 fr2 lo2 16 (0, [some (.ref 25), some (.ref 13)], [], h, 198, sl) = some r2 := hh2
    obtain ⟨n2, hh2⟩ := rn_i rfl rfl rfl rfl hh2
    have hh2 : pm_run PT n2 fr2 lo2 16 (1, [some (.ref 25), some (.ref 13)], [.ref 25], h, 198, sl) = some r2 := hh2
    obtain ⟨n2, hh2⟩ := rn_gr hw.wt rfl rfl (by decide) rfl (by decide) (show _ = some (2, ((26 : Nat) : Int), 1) from rfl) rfl hh2
    obtain ⟨n2, hh2⟩ := rn_i rfl rfl rfl rfl hh2
    obtain ⟨n2, hh2⟩ := rn_i rfl rfl rfl rfl hh2
    have hh2 : pm_run PT n2 fr2 lo2 16 (6, [some (.ref 25), some (.ref 13)], [.ref 25, .ref 25, .ref 26], h, 198, sl) = some r2 := hh2
    obtain ⟨n2, hh2⟩ := rn_gi (x := nI si) hw.wt rfl rfl (by decide) rfl (by decide) rfl e2 hh2
    have hh2 : pm_run PT n2 fr2 lo2 16 (9, [some (.ref 25), some (.ref 13)], [.int (nI si), .ref 25, .ref 26], h, 198, sl) = some r2 := hh2
    obtain ⟨n2, fr3, lo3, r3, hh3, hh2⟩ := rn_call (w := 0) (t := 21) rfl rfl hh2
    have hh3 : pm_run PT n2 fr3 lo3 21 (0, [some (.ref 25), some (.int (nI si))], [], h, 198, sl) = some r3 := hh3
    obtain ⟨n3, hh3⟩ := rn_i rfl rfl rfl rfl hh3
    have hh3 : pm_run PT n3 fr3 lo3 21 (1, [some (.ref 25), some (.int (nI si))], [.ref 25], h, 198, sl) = some r3 := hh3
    obtain ⟨n3, hh3⟩ := rn_gi (x := nI fi) hw.wt rfl rfl (by decide) rfl (by decide) rfl e1 hh3
    obtain ⟨n3, hh3⟩ := rn_i rfl rfl rfl rfl hh3
    have hh3 : pm_run PT n3 fr3 lo3 21 (5, [some (.ref 25), some (.int (nI si))], [.int (nI si), .int (nI fi)], h, 198, sl) = some r3 := hh3
    obtain ⟨n3, hh3⟩ := en_add rfl hh3
    have hh3 : pm_run PT n3 fr3 lo3 21 (6, [some (.ref 25), some (.int (nI si))], [.int (nI (fi + si))], h, 198, sl) = some r3 := hh3
    obtain ⟨n3, hh3⟩ := rn_i rfl rfl rfl rfl hh3
    have hh3 : pm_run PT n3 fr3 lo3 21 (8, [some (.ref 25), some (.int (nI si))], [.int (nI 16), .int (nI (fi + si))], h, 198, sl) = some r3 := hh3
    obtain ⟨n3, hh3⟩ := en_r16 (x := fi + si) (by omega) rfl hh3
    have hh3 : pm_run PT n3 fr3 lo3 21 (9, [some (.ref 25), some (.int (nI si))], [.int (nI ((fi + si) % 16))], h, 198, sl) = some r3 := hh3
    have hh3 : pm_run PT n3 fr3 lo3 21 (9, [some (.ref 25), some (.int (nI si))], [.int (nI ((fi + si) % 16))], h, 198, sl) = some r3 := hh3
    have er3 : r3 = (some (.int (nI ((fi + si) % 16))), h, 198, sl) := (rn_ret rfl (Or.inl rfl) hh3).2
    subst er3
    have hh2 : pm_run PT n2 fr2 lo2 16 (12, [some (.ref 25), some (.ref 13)], [.int (nI ((fi + si) % 16)), .ref 26], h, 198, sl) = some r2 := hh2
    obtain ⟨n2, hx4, hh2⟩ := en_q26 (t := (fi + si) % 16) (by omega) hw.wt rfl hh2
    have hh2 : pm_run PT n2 fr2 lo2 16 (13, [some (.ref 25), some (.ref 13)], [.ref (27 + 6 * ((fi + si) % 16))], h, 198, sl) = some r2 := hh2
    obtain ⟨n2, hh2⟩ := rn_i rfl rfl rfl rfl hh2
    have hh2 : pm_run PT n2 fr2 lo2 16 (14, [some (.ref 25), some (.ref 13)], [.ref 13, .ref (27 + 6 * ((fi + si) % 16))], h, 198, sl) = some r2 := hh2
    obtain ⟨n2, fr3, lo3, r3, hh3, hh2⟩ := rn_call (w := 0) (t := 73) rfl rfl hh2
    obtain ⟨er5, hc6⟩ := cp73_ok (xst_27 (by omega)) rfl (by omega) hw hh3
    subst er5
    have er7 : r2 = (none, cp73 h (27 + 6 * ((fi + si) % 16)) 13, 198, sl) := rn_vret rfl rfl hh2
    subst er7
    obtain ⟨n1, hh1⟩ := rn_i rfl rfl rfl rfl hh1
    have hh1 : pm_run PT n1 fr1 lo1 18 (6, [some (.ref 25), some (.ref 13)], [.ref 25], cp73 h (27 + 6 * ((fi + si) % 16)) 13, 198, sl) = some r1 := hh1
    obtain ⟨n1, fr2, lo2, r2, hh2, hh1⟩ := rn_call (w := 0) (t := 17) rfl rfl hh1
    have hh2 : pm_run PT n1 fr2 lo2 17 (0, [some (.ref 25)], [], cp73 h (27 + 6 * ((fi + si) % 16)) 13, 198, sl) = some r2 := hh2
    obtain ⟨n2, hh2⟩ := rn_i rfl rfl rfl rfl hh2
    have hh2 : pm_run PT n2 fr2 lo2 17 (1, [some (.ref 25)], [.ref 25], cp73 h (27 + 6 * ((fi + si) % 16)) 13, 198, sl) = some r2 := hh2
    obtain ⟨n2, hh2⟩ := rn_gi (x := nI si) hc6.wt rfl rfl (by decide) rfl (by decide) rfl ((Fi_e (cp73_ne (by omega))).trans e2) hh2
    obtain ⟨n2, hh2⟩ := rn_i rfl rfl rfl rfl hh2
    have hh2 : pm_run PT n2 fr2 lo2 17 (6, [some (.ref 25)], [.int (nI 15), .int (nI si)], cp73 h (27 + 6 * ((fi + si) % 16)) 13, 198, sl) = some r2 := hh2
    obtain ⟨n2, hh2⟩ := en_cn (cc := .ge) (off := 16) (t := 22) (b := decide (15 ≤ si)) (hI_ge (by omega) (by omega)) rfl rfl hh2
    cases z8 : decide (15 ≤ si) with
    | true =>
      have hh2 := en_t z8 hh2
      have hh2 : pm_run PT n2 fr2 lo2 17 (22, [some (.ref 25)], [], cp73 h (27 + 6 * ((fi + si) % 16)) 13, 198, sl) = some r2 := hh2
      have y9 := of_decide_eq_true z8
      obtain ⟨n2, hh2⟩ := rn_i rfl rfl rfl rfl hh2
      obtain ⟨n2, hh2⟩ := rn_i rfl rfl rfl rfl hh2
      obtain ⟨n2, hh2⟩ := rn_i rfl rfl rfl rfl hh2
      have hh2 : pm_run PT n2 fr2 lo2 17 (25, [some (.ref 25)], [.int (nI 1), .ref 25, .ref 25], cp73 h (27 + 6 * ((fi + si) % 16)) 13, 198, sl) = some r2 := hh2
      obtain ⟨n2, fr3, lo3, r3, hh3, hh2⟩ := rn_call (w := 0) (t := 21) rfl rfl hh2
      have hh3 : pm_run PT n2 fr3 lo3 21 (0, [some (.ref 25), some (.int (nI 1))], [], cp73 h (27 + 6 * ((fi + si) % 16)) 13, 198, sl) = some r3 := hh3
      obtain ⟨n3, hh3⟩ := rn_i rfl rfl rfl rfl hh3
      have hh3 : pm_run PT n3 fr3 lo3 21 (1, [some (.ref 25), some (.int (nI 1))], [.ref 25], cp73 h (27 + 6 * ((fi + si) % 16)) 13, 198, sl) = some r3 := hh3
      obtain ⟨n3, hh3⟩ := rn_gi (x := nI fi) hc6.wt rfl rfl (by decide) rfl (by decide) rfl ((Fi_e (cp73_ne (by omega))).trans e1) hh3
      obtain ⟨n3, hh3⟩ := rn_i rfl rfl rfl rfl hh3
      have hh3 : pm_run PT n3 fr3 lo3 21 (5, [some (.ref 25), some (.int (nI 1))], [.int (nI 1), .int (nI fi)], cp73 h (27 + 6 * ((fi + si) % 16)) 13, 198, sl) = some r3 := hh3
      obtain ⟨n3, hh3⟩ := en_add rfl hh3
      have hh3 : pm_run PT n3 fr3 lo3 21 (6, [some (.ref 25), some (.int (nI 1))], [.int (nI (fi + 1))], cp73 h (27 + 6 * ((fi + si) % 16)) 13, 198, sl) = some r3 := hh3
      obtain ⟨n3, hh3⟩ := rn_i rfl rfl rfl rfl hh3
      have hh3 : pm_run PT n3 fr3 lo3 21 (8, [some (.ref 25), some (.int (nI 1))], [.int (nI 16), .int (nI (fi + 1))], cp73 h (27 + 6 * ((fi + si) % 16)) 13, 198, sl) = some r3 := hh3
      obtain ⟨n3, hh3⟩ := en_r16 (x := fi + 1) (by omega) rfl hh3
      have hh3 : pm_run PT n3 fr3 lo3 21 (9, [some (.ref 25), some (.int (nI 1))], [.int (nI ((fi + 1) % 16))], cp73 h (27 + 6 * ((fi + si) % 16)) 13, 198, sl) = some r3 := hh3
      have hh3 : pm_run PT n3 fr3 lo3 21 (9, [some (.ref 25), some (.int (nI 1))], [.int (nI ((fi + 1) % 16))], cp73 h (27 + 6 * ((fi + si) % 16)) 13, 198, sl) = some r3 := hh3
      have er10 : r3 = (some (.int (nI ((fi + 1) % 16))), cp73 h (27 + 6 * ((fi + si) % 16)) 13, 198, sl) := (rn_ret rfl (Or.inl rfl) hh3).2
      subst er10
      have hh2 : pm_run PT n2 fr2 lo2 17 (28, [some (.ref 25)], [.int (nI ((fi + 1) % 16)), .ref 25], cp73 h (27 + 6 * ((fi + si) % 16)) 13, 198, sl) = some r2 := hh2
      obtain ⟨n2, hh2⟩ := rn_pi hc6.wt rfl rfl (by decide) rfl (by decide) rfl hh2
      have er11 : r2 = (none, fset (cp73 h (27 + 6 * ((fi + si) % 16)) 13) 25 1 (.int (nI ((fi + 1) % 16))), 198, sl) := rn_vret rfl rfl hh2
      subst er11
      have er12 : r1 = (none, fset (cp73 h (27 + 6 * ((fi + si) % 16)) 13) 25 1 (.int (nI ((fi + 1) % 16))), 198, sl) := rn_vret rfl rfl hh1
      subst er12
      obtain ⟨n, hh⟩ := rn_i rfl rfl rfl rfl hh
      have hh : pm_run PT n fr lo 99 (25, [some (.ref 0), some (.int (nI a)), some (.int (nI b)), some (.int (v139 q cc gc (Ar h 16) a b)), none], [.ref 0], fset (cp73 h (27 + 6 * ((fi + si) % 16)) 13) 25 1 (.int (nI ((fi + 1) % 16))), 198, sl) = some R := hh
      obtain ⟨n, hh⟩ := rn_gr (hc_f rfl rfl (by decide) rfl hc6).wt rfl rfl (by decide) rfl (by decide) (show _ = some (2, ((13 : Nat) : Int), 1) from rfl) rfl hh
      have hh : pm_run PT n fr lo 99 (28, [some (.ref 0), some (.int (nI a)), some (.int (nI b)), some (.int (v139 q cc gc (Ar h 16) a b)), none], [.ref 13], fset (cp73 h (27 + 6 * ((fi + si) % 16)) 13) 25 1 (.int (nI ((fi + 1) % 16))), 198, sl) = some R := hh
      obtain ⟨n, hh⟩ := rn_gr (hc_f rfl rfl (by decide) rfl hc6).wt rfl rfl (by decide) rfl (by decide) (show _ = some (2, ((16 : Nat) : Int), 1) from rfl) rfl hh
      obtain ⟨n, hh⟩ := rn_i rfl rfl rfl rfl hh
      obtain ⟨n, hh⟩ := rn_i rfl rfl rfl rfl hh
      have hh : pm_run PT n fr lo 99 (33, [some (.ref 0), some (.int (nI a)), some (.int (nI b)), some (.int (v139 q cc gc (Ar h 16) a b)), none], [.int (nI b), .int (nI a), .ref 16], fset (cp73 h (27 + 6 * ((fi + si) % 16)) 13) 25 1 (.int (nI ((fi + 1) % 16))), 198, sl) = some R := hh
      obtain ⟨n, fr1, lo1, r1, hh1, hh⟩ := rn_call (w := 2) (t := 160) rfl rfl hh
      have hh1 : pm_run PT n fr1 lo1 160 (0, [some (.int (nI a)), some (.int (nI b))], [], fset (cp73 h (27 + 6 * ((fi + si) % 16)) 13) 25 1 (.int (nI ((fi + 1) % 16))), 198, sl) = some r1 := hh1
      obtain ⟨n1, hh1⟩ := rn_i rfl rfl rfl rfl hh1
      obtain ⟨n1, hh1⟩ := rn_i rfl rfl rfl rfl hh1
      have hh1 : pm_run PT n1 fr1 lo1 160 (3, [some (.int (nI a)), some (.int (nI b))], [.int (nI 6), .int (nI a)], fset (cp73 h (27 + 6 * ((fi + si) % 16)) 13) 25 1 (.int (nI ((fi + 1) % 16))), 198, sl) = some r1 := hh1
      obtain ⟨n1, hh1⟩ := en_mul rfl hh1
      have hh1 : pm_run PT n1 fr1 lo1 160 (4, [some (.int (nI a)), some (.int (nI b))], [.int (nI (a * 6))], fset (cp73 h (27 + 6 * ((fi + si) % 16)) 13) 25 1 (.int (nI ((fi + 1) % 16))), 198, sl) = some r1 := hh1
      obtain ⟨n1, hh1⟩ := rn_i rfl rfl rfl rfl hh1
      have hh1 : pm_run PT n1 fr1 lo1 160 (5, [some (.int (nI a)), some (.int (nI b))], [.int (nI b), .int (nI (a * 6))], fset (cp73 h (27 + 6 * ((fi + si) % 16)) 13) 25 1 (.int (nI ((fi + 1) % 16))), 198, sl) = some r1 := hh1
      obtain ⟨n1, hh1⟩ := en_add rfl hh1
      have hh1 : pm_run PT n1 fr1 lo1 160 (6, [some (.int (nI a)), some (.int (nI b))], [.int (nI (a * 6 + b))], fset (cp73 h (27 + 6 * ((fi + si) % 16)) 13) 25 1 (.int (nI ((fi + 1) % 16))), 198, sl) = some r1 := hh1
      have hh1 : pm_run PT n1 fr1 lo1 160 (6, [some (.int (nI a)), some (.int (nI b))], [.int (nI (a * 6 + b))], fset (cp73 h (27 + 6 * ((fi + si) % 16)) 13) 25 1 (.int (nI ((fi + 1) % 16))), 198, sl) = some r1 := hh1
      have er13 : r1 = (some (.int (nI (a * 6 + b))), fset (cp73 h (27 + 6 * ((fi + si) % 16)) 13) 25 1 (.int (nI ((fi + 1) % 16))), 198, sl) := (rn_ret rfl (Or.inl rfl) hh1).2
      subst er13
      have hh : pm_run PT n fr lo 99 (36, [some (.ref 0), some (.int (nI a)), some (.int (nI b)), some (.int (v139 q cc gc (Ar h 16) a b)), none], [.int (nI (a * 6 + b)), .ref 16], fset (cp73 h (27 + 6 * ((fi + si) % 16)) 13) 25 1 (.int (nI ((fi + 1) % 16))), 198, sl) = some R := hh
      obtain ⟨n, hx14, hh⟩ := en_lu (t := a * 6 + b) (f := Ar h 16) (w := (Ar h 16) (a * 6 + b)) (nI_clamp (by omega)) (hc_f rfl rfl (by decide) rfl hc6).wt rfl (by decide) rfl (by decide) (Ar_f.trans ((Ar_e (cp73_ne (by omega))).trans rfl)) (fun _ => rfl) hh
      obtain ⟨n, hh⟩ := rn_i rfl rfl rfl rfl hh
      obtain ⟨n, hh⟩ := rn_i rfl rfl rfl rfl hh
      have hh : pm_run PT n fr lo 99 (40, [some (.ref 0), some (.int (nI a)), some (.int (nI b)), some (.int (v139 q cc gc (Ar h 16) a b)), some (.int ((Ar h 16) (a * 6 + b)))], [.ref 0], fset (cp73 h (27 + 6 * ((fi + si) % 16)) 13) 25 1 (.int (nI ((fi + 1) % 16))), 198, sl) = some R := hh
      obtain ⟨n, hh⟩ := rn_gr (hc_f rfl rfl (by decide) rfl hc6).wt rfl rfl (by decide) rfl (by decide) (show _ = some (2, ((13 : Nat) : Int), 1) from rfl) rfl hh
      have hh : pm_run PT n fr lo 99 (43, [some (.ref 0), some (.int (nI a)), some (.int (nI b)), some (.int (v139 q cc gc (Ar h 16) a b)), some (.int ((Ar h 16) (a * 6 + b)))], [.ref 13], fset (cp73 h (27 + 6 * ((fi + si) % 16)) 13) 25 1 (.int (nI ((fi + 1) % 16))), 198, sl) = some R := hh
      obtain ⟨n, hh⟩ := rn_gr (hc_f rfl rfl (by decide) rfl hc6).wt rfl rfl (by decide) rfl (by decide) (show _ = some (2, ((16 : Nat) : Int), 1) from rfl) rfl hh
      obtain ⟨n, hh⟩ := rn_i rfl rfl rfl rfl hh
      obtain ⟨n, hh⟩ := rn_i rfl rfl rfl rfl hh
      have hh : pm_run PT n fr lo 99 (48, [some (.ref 0), some (.int (nI a)), some (.int (nI b)), some (.int (v139 q cc gc (Ar h 16) a b)), some (.int ((Ar h 16) (a * 6 + b)))], [.int (nI b), .int (nI a), .ref 16], fset (cp73 h (27 + 6 * ((fi + si) % 16)) 13) 25 1 (.int (nI ((fi + 1) % 16))), 198, sl) = some R := hh
      obtain ⟨n, fr1, lo1, r1, hh1, hh⟩ := rn_call (w := 2) (t := 160) rfl rfl hh
      have hh1 : pm_run PT n fr1 lo1 160 (0, [some (.int (nI a)), some (.int (nI b))], [], fset (cp73 h (27 + 6 * ((fi + si) % 16)) 13) 25 1 (.int (nI ((fi + 1) % 16))), 198, sl) = some r1 := hh1
      obtain ⟨n1, hh1⟩ := rn_i rfl rfl rfl rfl hh1
      obtain ⟨n1, hh1⟩ := rn_i rfl rfl rfl rfl hh1
      have hh1 : pm_run PT n1 fr1 lo1 160 (3, [some (.int (nI a)), some (.int (nI b))], [.int (nI 6), .int (nI a)], fset (cp73 h (27 + 6 * ((fi + si) % 16)) 13) 25 1 (.int (nI ((fi + 1) % 16))), 198, sl) = some r1 := hh1
      obtain ⟨n1, hh1⟩ := en_mul rfl hh1
      have hh1 : pm_run PT n1 fr1 lo1 160 (4, [some (.int (nI a)), some (.int (nI b))], [.int (nI (a * 6))], fset (cp73 h (27 + 6 * ((fi + si) % 16)) 13) 25 1 (.int (nI ((fi + 1) % 16))), 198, sl) = some r1 := hh1
      obtain ⟨n1, hh1⟩ := rn_i rfl rfl rfl rfl hh1
      have hh1 : pm_run PT n1 fr1 lo1 160 (5, [some (.int (nI a)), some (.int (nI b))], [.int (nI b), .int (nI (a * 6))], fset (cp73 h (27 + 6 * ((fi + si) % 16)) 13) 25 1 (.int (nI ((fi + 1) % 16))), 198, sl) = some r1 := hh1
      obtain ⟨n1, hh1⟩ := en_add rfl hh1
      have hh1 : pm_run PT n1 fr1 lo1 160 (6, [some (.int (nI a)), some (.int (nI b))], [.int (nI (a * 6 + b))], fset (cp73 h (27 + 6 * ((fi + si) % 16)) 13) 25 1 (.int (nI ((fi + 1) % 16))), 198, sl) = some r1 := hh1
      have hh1 : pm_run PT n1 fr1 lo1 160 (6, [some (.int (nI a)), some (.int (nI b))], [.int (nI (a * 6 + b))], fset (cp73 h (27 + 6 * ((fi + si) % 16)) 13) 25 1 (.int (nI ((fi + 1) % 16))), 198, sl) = some r1 := hh1
      have er15 : r1 = (some (.int (nI (a * 6 + b))), fset (cp73 h (27 + 6 * ((fi + si) % 16)) 13) 25 1 (.int (nI ((fi + 1) % 16))), 198, sl) := (rn_ret rfl (Or.inl rfl) hh1).2
      subst er15
      obtain ⟨n, hh⟩ := rn_i rfl rfl rfl rfl hh
      have hh : pm_run PT n fr lo 99 (52, [some (.ref 0), some (.int (nI a)), some (.int (nI b)), some (.int (v139 q cc gc (Ar h 16) a b)), some (.int ((Ar h 16) (a * 6 + b)))], [.int (nI 0), .int (nI (a * 6 + b)), .ref 16], fset (cp73 h (27 + 6 * ((fi + si) % 16)) 13) 25 1 (.int (nI ((fi + 1) % 16))), 198, sl) = some R := hh
      obtain ⟨n, hx16, hh⟩ := en_st (t := a * 6 + b) (f := Ar h 16) (nI_clamp (by omega)) (hc_f rfl rfl (by decide) rfl hc6).wt rfl (by decide) rfl (by decide) (Ar_f.trans ((Ar_e (cp73_ne (by omega))).trans rfl)) hh
      obtain ⟨n, hh⟩ := rn_i rfl rfl rfl rfl hh
      have hh : pm_run PT n fr lo 99 (55, [some (.ref 0), some (.int (nI a)), some (.int (nI b)), some (.int (v139 q cc gc (Ar h 16) a b)), some (.int ((Ar h 16) (a * 6 + b)))], [.int ((Ar h 16) (a * 6 + b))], aset (fset (cp73 h (27 + 6 * ((fi + si) % 16)) 13) 25 1 (.int (nI ((fi + 1) % 16)))) 16 36 (upd (Ar h 16) (a * 6 + b) (nI 0)), 198, sl) = some R := hh
      have er17 : R = (some (.int ((Ar h 16) (a * 6 + b))), aset (fset (cp73 h (27 + 6 * ((fi + si) % 16)) 13) 25 1 (.int (nI ((fi + 1) % 16)))) 16 36 (upd (Ar h 16) (a * 6 + b) (nI 0)), 198, sl) := (rn_ret rfl (Or.inl rfl) hh).2
      have ed : v99 q cc gc h fi si a b = ((Ar h 16) (a * 6 + b), aset (fset (cp73 h (27 + 6 * ((fi + si) % 16)) 13) 25 1 (.int (nI ((fi + 1) % 16)))) 16 36 (upd (Ar h 16) (a * 6 + b) (nI 0))) := (ct z2).trans ((ct z8).trans rfl)
      refine ⟨?_, ?_, ?_⟩ <;> rw [ed]
      · exact er17
      · exact (hc_a rfl rfl (hc_f rfl rfl (by decide) rfl hc6))
      · exact (fr_a rfl rfl (fr_f rfl rfl (fr_c27 (by omega) hw.wt rfl rfl fr_0)))
    | false =>
      have hh2 := en_f z8 hh2
      have hh2 : pm_run PT n2 fr2 lo2 17 (9, [some (.ref 25)], [], cp73 h (27 + 6 * ((fi + si) % 16)) 13, 198, sl) = some r2 := hh2
      have y18 := of_decide_eq_false z8
      obtain ⟨n2, hh2⟩ := rn_i rfl rfl rfl rfl hh2
      obtain ⟨n2, hh2⟩ := rn_i rfl rfl rfl rfl hh2
      have hh2 : pm_run PT n2 fr2 lo2 17 (11, [some (.ref 25)], [.ref 25, .ref 25], cp73 h (27 + 6 * ((fi + si) % 16)) 13, 198, sl) = some r2 := hh2
      obtain ⟨n2, hh2⟩ := rn_gi (x := nI si) hc6.wt rfl rfl (by decide) rfl (by decide) rfl ((Fi_e (cp73_ne (by omega))).trans e2) hh2
      obtain ⟨n2, hh2⟩ := rn_i rfl rfl rfl rfl hh2
      have hh2 : pm_run PT n2 fr2 lo2 17 (15, [some (.ref 25)], [.int (nI 1), .int (nI si), .ref 25], cp73 h (27 + 6 * ((fi + si) % 16)) 13, 198, sl) = some r2 := hh2
      obtain ⟨n2, hh2⟩ := en_add rfl hh2
      have hh2 : pm_run PT n2 fr2 lo2 17 (16, [some (.ref 25)], [.int (nI (si + 1)), .ref 25], cp73 h (27 + 6 * ((fi + si) % 16)) 13, 198, sl) = some r2 := hh2
      have hh2 : pm_run PT n2 fr2 lo2 17 (16, [some (.ref 25)], [.int (nI (si + 1)), .ref 25], cp73 h (27 + 6 * ((fi + si) % 16)) 13, 198, sl) = some r2 := hh2
      obtain ⟨n2, hh2⟩ := rn_pi hc6.wt rfl rfl (by decide) rfl (by decide) rfl hh2
      obtain ⟨n2, hh2⟩ := rn_i rfl rfl rfl rfl hh2
      have er19 : r2 = (none, fset (cp73 h (27 + 6 * ((fi + si) % 16)) 13) 25 2 (.int (nI (si + 1))), 198, sl) := rn_vret rfl rfl hh2
      subst er19
      have er20 : r1 = (none, fset (cp73 h (27 + 6 * ((fi + si) % 16)) 13) 25 2 (.int (nI (si + 1))), 198, sl) := rn_vret rfl rfl hh1
      subst er20
      obtain ⟨n, hh⟩ := rn_i rfl rfl rfl rfl hh
      have hh : pm_run PT n fr lo 99 (25, [some (.ref 0), some (.int (nI a)), some (.int (nI b)), some (.int (v139 q cc gc (Ar h 16) a b)), none], [.ref 0], fset (cp73 h (27 + 6 * ((fi + si) % 16)) 13) 25 2 (.int (nI (si + 1))), 198, sl) = some R := hh
      obtain ⟨n, hh⟩ := rn_gr (hc_f rfl rfl (by decide) rfl hc6).wt rfl rfl (by decide) rfl (by decide) (show _ = some (2, ((13 : Nat) : Int), 1) from rfl) rfl hh
      have hh : pm_run PT n fr lo 99 (28, [some (.ref 0), some (.int (nI a)), some (.int (nI b)), some (.int (v139 q cc gc (Ar h 16) a b)), none], [.ref 13], fset (cp73 h (27 + 6 * ((fi + si) % 16)) 13) 25 2 (.int (nI (si + 1))), 198, sl) = some R := hh
      obtain ⟨n, hh⟩ := rn_gr (hc_f rfl rfl (by decide) rfl hc6).wt rfl rfl (by decide) rfl (by decide) (show _ = some (2, ((16 : Nat) : Int), 1) from rfl) rfl hh
      obtain ⟨n, hh⟩ := rn_i rfl rfl rfl rfl hh
      obtain ⟨n, hh⟩ := rn_i rfl rfl rfl rfl hh
      have hh : pm_run PT n fr lo 99 (33, [some (.ref 0), some (.int (nI a)), some (.int (nI b)), some (.int (v139 q cc gc (Ar h 16) a b)), none], [.int (nI b), .int (nI a), .ref 16], fset (cp73 h (27 + 6 * ((fi + si) % 16)) 13) 25 2 (.int (nI (si + 1))), 198, sl) = some R := hh
      obtain ⟨n, fr1, lo1, r1, hh1, hh⟩ := rn_call (w := 2) (t := 160) rfl rfl hh
      have hh1 : pm_run PT n fr1 lo1 160 (0, [some (.int (nI a)), some (.int (nI b))], [], fset (cp73 h (27 + 6 * ((fi + si) % 16)) 13) 25 2 (.int (nI (si + 1))), 198, sl) = some r1 := hh1
      obtain ⟨n1, hh1⟩ := rn_i rfl rfl rfl rfl hh1
      obtain ⟨n1, hh1⟩ := rn_i rfl rfl rfl rfl hh1
      have hh1 : pm_run PT n1 fr1 lo1 160 (3, [some (.int (nI a)), some (.int (nI b))], [.int (nI 6), .int (nI a)], fset (cp73 h (27 + 6 * ((fi + si) % 16)) 13) 25 2 (.int (nI (si + 1))), 198, sl) = some r1 := hh1
      obtain ⟨n1, hh1⟩ := en_mul rfl hh1
      have hh1 : pm_run PT n1 fr1 lo1 160 (4, [some (.int (nI a)), some (.int (nI b))], [.int (nI (a * 6))], fset (cp73 h (27 + 6 * ((fi + si) % 16)) 13) 25 2 (.int (nI (si + 1))), 198, sl) = some r1 := hh1
      obtain ⟨n1, hh1⟩ := rn_i rfl rfl rfl rfl hh1
      have hh1 : pm_run PT n1 fr1 lo1 160 (5, [some (.int (nI a)), some (.int (nI b))], [.int (nI b), .int (nI (a * 6))], fset (cp73 h (27 + 6 * ((fi + si) % 16)) 13) 25 2 (.int (nI (si + 1))), 198, sl) = some r1 := hh1
      obtain ⟨n1, hh1⟩ := en_add rfl hh1
      have hh1 : pm_run PT n1 fr1 lo1 160 (6, [some (.int (nI a)), some (.int (nI b))], [.int (nI (a * 6 + b))], fset (cp73 h (27 + 6 * ((fi + si) % 16)) 13) 25 2 (.int (nI (si + 1))), 198, sl) = some r1 := hh1
      have hh1 : pm_run PT n1 fr1 lo1 160 (6, [some (.int (nI a)), some (.int (nI b))], [.int (nI (a * 6 + b))], fset (cp73 h (27 + 6 * ((fi + si) % 16)) 13) 25 2 (.int (nI (si + 1))), 198, sl) = some r1 := hh1
      have er21 : r1 = (some (.int (nI (a * 6 + b))), fset (cp73 h (27 + 6 * ((fi + si) % 16)) 13) 25 2 (.int (nI (si + 1))), 198, sl) := (rn_ret rfl (Or.inl rfl) hh1).2
      subst er21
      have hh : pm_run PT n fr lo 99 (36, [some (.ref 0), some (.int (nI a)), some (.int (nI b)), some (.int (v139 q cc gc (Ar h 16) a b)), none], [.int (nI (a * 6 + b)), .ref 16], fset (cp73 h (27 + 6 * ((fi + si) % 16)) 13) 25 2 (.int (nI (si + 1))), 198, sl) = some R := hh
      obtain ⟨n, hx22, hh⟩ := en_lu (t := a * 6 + b) (f := Ar h 16) (w := (Ar h 16) (a * 6 + b)) (nI_clamp (by omega)) (hc_f rfl rfl (by decide) rfl hc6).wt rfl (by decide) rfl (by decide) (Ar_f.trans ((Ar_e (cp73_ne (by omega))).trans rfl)) (fun _ => rfl) hh
      obtain ⟨n, hh⟩ := rn_i rfl rfl rfl rfl hh
      obtain ⟨n, hh⟩ := rn_i rfl rfl rfl rfl hh
      have hh : pm_run PT n fr lo 99 (40, [some (.ref 0), some (.int (nI a)), some (.int (nI b)), some (.int (v139 q cc gc (Ar h 16) a b)), some (.int ((Ar h 16) (a * 6 + b)))], [.ref 0], fset (cp73 h (27 + 6 * ((fi + si) % 16)) 13) 25 2 (.int (nI (si + 1))), 198, sl) = some R := hh
      obtain ⟨n, hh⟩ := rn_gr (hc_f rfl rfl (by decide) rfl hc6).wt rfl rfl (by decide) rfl (by decide) (show _ = some (2, ((13 : Nat) : Int), 1) from rfl) rfl hh
      have hh : pm_run PT n fr lo 99 (43, [some (.ref 0), some (.int (nI a)), some (.int (nI b)), some (.int (v139 q cc gc (Ar h 16) a b)), some (.int ((Ar h 16) (a * 6 + b)))], [.ref 13], fset (cp73 h (27 + 6 * ((fi + si) % 16)) 13) 25 2 (.int (nI (si + 1))), 198, sl) = some R := hh
      obtain ⟨n, hh⟩ := rn_gr (hc_f rfl rfl (by decide) rfl hc6).wt rfl rfl (by decide) rfl (by decide) (show _ = some (2, ((16 : Nat) : Int), 1) from rfl) rfl hh
      obtain ⟨n, hh⟩ := rn_i rfl rfl rfl rfl hh
      obtain ⟨n, hh⟩ := rn_i rfl rfl rfl rfl hh
      have hh : pm_run PT n fr lo 99 (48, [some (.ref 0), some (.int (nI a)), some (.int (nI b)), some (.int (v139 q cc gc (Ar h 16) a b)), some (.int ((Ar h 16) (a * 6 + b)))], [.int (nI b), .int (nI a), .ref 16], fset (cp73 h (27 + 6 * ((fi + si) % 16)) 13) 25 2 (.int (nI (si + 1))), 198, sl) = some R := hh
      obtain ⟨n, fr1, lo1, r1, hh1, hh⟩ := rn_call (w := 2) (t := 160) rfl rfl hh
      have hh1 : pm_run PT n fr1 lo1 160 (0, [some (.int (nI a)), some (.int (nI b))], [], fset (cp73 h (27 + 6 * ((fi + si) % 16)) 13) 25 2 (.int (nI (si + 1))), 198, sl) = some r1 := hh1
      obtain ⟨n1, hh1⟩ := rn_i rfl rfl rfl rfl hh1
      obtain ⟨n1, hh1⟩ := rn_i rfl rfl rfl rfl hh1
      have hh1 : pm_run PT n1 fr1 lo1 160 (3, [some (.int (nI a)), some (.int (nI b))], [.int (nI 6), .int (nI a)], fset (cp73 h (27 + 6 * ((fi + si) % 16)) 13) 25 2 (.int (nI (si + 1))), 198, sl) = some r1 := hh1
      obtain ⟨n1, hh1⟩ := en_mul rfl hh1
      have hh1 : pm_run PT n1 fr1 lo1 160 (4, [some (.int (nI a)), some (.int (nI b))], [.int (nI (a * 6))], fset (cp73 h (27 + 6 * ((fi + si) % 16)) 13) 25 2 (.int (nI (si + 1))), 198, sl) = some r1 := hh1
      obtain ⟨n1, hh1⟩ := rn_i rfl rfl rfl rfl hh1
      have hh1 : pm_run PT n1 fr1 lo1 160 (5, [some (.int (nI a)), some (.int (nI b))], [.int (nI b), .int (nI (a * 6))], fset (cp73 h (27 + 6 * ((fi + si) % 16)) 13) 25 2 (.int (nI (si + 1))), 198, sl) = some r1 := hh1
      obtain ⟨n1, hh1⟩ := en_add rfl hh1
      have hh1 : pm_run PT n1 fr1 lo1 160 (6, [some (.int (nI a)), some (.int (nI b))], [.int (nI (a * 6 + b))], fset (cp73 h (27 + 6 * ((fi + si) % 16)) 13) 25 2 (.int (nI (si + 1))), 198, sl) = some r1 := hh1
      have hh1 : pm_run PT n1 fr1 lo1 160 (6, [some (.int (nI a)), some (.int (nI b))], [.int (nI (a * 6 + b))], fset (cp73 h (27 + 6 * ((fi + si) % 16)) 13) 25 2 (.int (nI (si + 1))), 198, sl) = some r1 := hh1
      have er23 : r1 = (some (.int (nI (a * 6 + b))), fset (cp73 h (27 + 6 * ((fi + si) % 16)) 13) 25 2 (.int (nI (si + 1))), 198, sl) := (rn_ret rfl (Or.inl rfl) hh1).2
      subst er23
      obtain ⟨n, hh⟩ := rn_i rfl rfl rfl rfl hh
      have hh : pm_run PT n fr lo 99 (52, [some (.ref 0), some (.int (nI a)), some (.int (nI b)), some (.int (v139 q cc gc (Ar h 16) a b)), some (.int ((Ar h 16) (a * 6 + b)))], [.int (nI 0), .int (nI (a * 6 + b)), .ref 16], fset (cp73 h (27 + 6 * ((fi + si) % 16)) 13) 25 2 (.int (nI (si + 1))), 198, sl) = some R := hh
      obtain ⟨n, hx24, hh⟩ := en_st (t := a * 6 + b) (f := Ar h 16) (nI_clamp (by omega)) (hc_f rfl rfl (by decide) rfl hc6).wt rfl (by decide) rfl (by decide) (Ar_f.trans ((Ar_e (cp73_ne (by omega))).trans rfl)) hh
      obtain ⟨n, hh⟩ := rn_i rfl rfl rfl rfl hh
      have hh : pm_run PT n fr lo 99 (55, [some (.ref 0), some (.int (nI a)), some (.int (nI b)), some (.int (v139 q cc gc (Ar h 16) a b)), some (.int ((Ar h 16) (a * 6 + b)))], [.int ((Ar h 16) (a * 6 + b))], aset (fset (cp73 h (27 + 6 * ((fi + si) % 16)) 13) 25 2 (.int (nI (si + 1)))) 16 36 (upd (Ar h 16) (a * 6 + b) (nI 0)), 198, sl) = some R := hh
      have er25 : R = (some (.int ((Ar h 16) (a * 6 + b))), aset (fset (cp73 h (27 + 6 * ((fi + si) % 16)) 13) 25 2 (.int (nI (si + 1)))) 16 36 (upd (Ar h 16) (a * 6 + b) (nI 0)), 198, sl) := (rn_ret rfl (Or.inl rfl) hh).2
      have ed : v99 q cc gc h fi si a b = ((Ar h 16) (a * 6 + b), aset (fset (cp73 h (27 + 6 * ((fi + si) % 16)) 13) 25 2 (.int (nI (si + 1)))) 16 36 (upd (Ar h 16) (a * 6 + b) (nI 0))) := (ct z2).trans ((cf z8).trans rfl)
      refine ⟨?_, ?_, ?_⟩ <;> rw [ed]
      · exact er25
      · exact (hc_a rfl rfl (hc_f rfl rfl (by decide) rfl hc6))
      · exact (fr_a rfl rfl (fr_f rfl rfl (fr_c27 (by omega) hw.wt rfl rfl fr_0)))
  | false =>
    have hh := en_f z2 hh
    have hh : pm_run PT n fr lo 99 (11, [some (.ref 0), some (.int (nI a)), some (.int (nI b)), some (.int (v139 q cc gc (Ar h 16) a b)), none], [], h, 198, sl) = some R := hh
    obtain ⟨n, hh⟩ := rn_i rfl rfl rfl rfl hh
    have hh : pm_run PT n fr lo 99 (12, [some (.ref 0), some (.int (nI a)), some (.int (nI b)), some (.int (v139 q cc gc (Ar h 16) a b)), none], [.int (v139 q cc gc (Ar h 16) a b)], h, 198, sl) = some R := hh
    have er26 : R = (some (.int (v139 q cc gc (Ar h 16) a b)), h, 198, sl) := (rn_ret rfl (Or.inl rfl) hh).2
    have ed : v99 q cc gc h fi si a b = (v139 q cc gc (Ar h 16) a b, h) := (cf z2).trans rfl
    refine ⟨?_, ?_, ?_⟩ <;> rw [ed]
    · exact er26
    · exact hw
    · exact fr_0
def v101 (q : QT) (cc gc : Nat) (h : pm_H) (fi : Nat) (si : Nat) : Int32 × pm_H := cond (decide (¬ si = 0)) (nI (si - 1), cp73 (fset h 25 2 (.int (nI (si - 1)))) 13 (27 + 6 * ((fi + (si - 1)) % 16))) ((Int32.ofInt (-1)), h)
theorem v101_ok {n fr lo sl cc gc : Nat} {q : QT} {h : pm_H} {R : pm_Rs} {fi : Nat} {si : Nat} (hw : HC q cc gc h) (hfi : fi < 16) (hsi : si ≤ 15) (e1 : Fi h 25 1 = nI fi) (e2 : Fi h 25 2 = nI si) (hh : pm_run PT n fr lo 101 (0, pm_l0 [.ref 0] 1, [], h, 198, sl) = some R) : R = (some (.int ((v101 q cc gc h fi si).1)), (v101 q cc gc h fi si).2, 198, sl) ∧ HC q cc gc ((v101 q cc gc h fi si).2) ∧ frm [13, 14, 15, 16, 17, 18, 25] [(13, 5), (13, 6), (25, 2)] h ((v101 q cc gc h fi si).2) := by
  have hcc := hw.cb
  have hgc := hw.gb
  have hzr := hw.zr
  obtain ⟨n, hh⟩ := rn_i rfl rfl rfl rfl hh
  have hh : pm_run PT n fr lo 101 (1, [some (.ref 0)], [.ref 0], h, 198, sl) = some R := hh
  obtain ⟨n, hh⟩ := rn_gr hw.wt rfl rfl (by decide) rfl (by decide) (show _ = some (2, ((25 : Nat) : Int), 1) from rfl) rfl hh
  obtain ⟨n, hh⟩ := rn_i rfl rfl rfl rfl hh
  have hh : pm_run PT n fr lo 101 (5, [some (.ref 0)], [.ref 0, .ref 25], h, 198, sl) = some R := hh
  obtain ⟨n, hh⟩ := rn_gr hw.wt rfl rfl (by decide) rfl (by decide) (show _ = some (2, ((13 : Nat) : Int), 1) from rfl) rfl hh
  have hh : pm_run PT n fr lo 101 (8, [some (.ref 0)], [.ref 13, .ref 25], h, 198, sl) = some R := hh
  obtain ⟨n, fr1, lo1, r1, hh1, hh⟩ := rn_call (w := 0) (t := 19) rfl rfl hh
  have hh1 : pm_run PT n fr1 lo1 19 (0, [some (.ref 25), some (.ref 13)], [], h, 198, sl) = some r1 := hh1
  obtain ⟨n1, hh1⟩ := rn_i rfl rfl rfl rfl hh1
  have hh1 : pm_run PT n1 fr1 lo1 19 (1, [some (.ref 25), some (.ref 13)], [.ref 25], h, 198, sl) = some r1 := hh1
  obtain ⟨n1, hh1⟩ := rn_gi (x := nI si) hw.wt rfl rfl (by decide) rfl (by decide) rfl e2 hh1
  have hh1 : pm_run PT n1 fr1 lo1 19 (4, [some (.ref 25), some (.ref 13)], [.int (nI si)], h, 198, sl) = some r1 := hh1
  obtain ⟨n1, hh1⟩ := en_zn (cc := .ne) (off := 5) (t := 9) (b := decide (¬ si = 0)) (hI_ne (b := 0) (by omega) (by omega)) rfl rfl hh1
  cases z1 : decide (¬ si = 0) with
  | true =>
    have hh1 := en_t z1 hh1
    have hh1 : pm_run PT n1 fr1 lo1 19 (9, [some (.ref 25), some (.ref 13)], [], h, 198, sl) = some r1 := hh1
    have y2 := of_decide_eq_true z1
    obtain ⟨n1, hh1⟩ := rn_i rfl rfl rfl rfl hh1
    obtain ⟨n1, hh1⟩ := rn_i rfl rfl rfl rfl hh1
    have hh1 : pm_run PT n1 fr1 lo1 19 (11, [some (.ref 25), some (.ref 13)], [.ref 25, .ref 25], h, 198, sl) = some r1 := hh1
    obtain ⟨n1, hh1⟩ := rn_gi (x := nI si) hw.wt rfl rfl (by decide) rfl (by decide) rfl e2 hh1
    obtain ⟨n1, hh1⟩ := rn_i rfl rfl rfl rfl hh1
    have hh1 : pm_run PT n1 fr1 lo1 19 (15, [some (.ref 25), some (.ref 13)], [.int (nI 1), .int (nI si), .ref 25], h, 198, sl) = some r1 := hh1
    obtain ⟨n1, hh1⟩ := en_sub (x := si) (y := 1) (by omega) rfl hh1
    have hh1 : pm_run PT n1 fr1 lo1 19 (16, [some (.ref 25), some (.ref 13)], [.int (nI (si - 1)), .ref 25], h, 198, sl) = some r1 := hh1
    have hh1 : pm_run PT n1 fr1 lo1 19 (16, [some (.ref 25), some (.ref 13)], [.int (nI (si - 1)), .ref 25], h, 198, sl) = some r1 := hh1
    obtain ⟨n1, hh1⟩ := rn_pi hw.wt rfl rfl (by decide) rfl (by decide) rfl hh1
    obtain ⟨n1, hh1⟩ := rn_i rfl rfl rfl rfl hh1
    obtain ⟨n1, hh1⟩ := rn_i rfl rfl rfl rfl hh1
    have hh1 : pm_run PT n1 fr1 lo1 19 (21, [some (.ref 25), some (.ref 13)], [.ref 25, .ref 13], fset h 25 2 (.int (nI (si - 1))), 198, sl) = some r1 := hh1
    obtain ⟨n1, hh1⟩ := rn_gr (hc_f rfl rfl (by decide) rfl hw).wt rfl rfl (by decide) rfl (by decide) (show _ = some (2, ((26 : Nat) : Int), 1) from rfl) rfl hh1
    obtain ⟨n1, hh1⟩ := rn_i rfl rfl rfl rfl hh1
    obtain ⟨n1, hh1⟩ := rn_i rfl rfl rfl rfl hh1
    have hh1 : pm_run PT n1 fr1 lo1 19 (26, [some (.ref 25), some (.ref 13)], [.ref 25, .ref 25, .ref 26, .ref 13], fset h 25 2 (.int (nI (si - 1))), 198, sl) = some r1 := hh1
    obtain ⟨n1, hh1⟩ := rn_gi (x := nI (si - 1)) (hc_f rfl rfl (by decide) rfl hw).wt rfl rfl (by decide) rfl (by decide) rfl (Fi_s hw.wt (by decide) rfl (by decide) rfl) hh1
    have hh1 : pm_run PT n1 fr1 lo1 19 (29, [some (.ref 25), some (.ref 13)], [.int (nI (si - 1)), .ref 25, .ref 26, .ref 13], fset h 25 2 (.int (nI (si - 1))), 198, sl) = some r1 := hh1
    obtain ⟨n1, fr2, lo2, r2, hh2, hh1⟩ := rn_call (w := 0) (t := 21) rfl rfl hh1
    have hh2 : pm_run PT n1 fr2 lo2 21 (0, [some (.ref 25), some (.int (nI (si - 1)))], [], fset h 25 2 (.int (nI (si - 1))), 198, sl) = some r2 := hh2
    obtain ⟨n2, hh2⟩ := rn_i rfl rfl rfl rfl hh2
    have hh2 : pm_run PT n2 fr2 lo2 21 (1, [some (.ref 25), some (.int (nI (si - 1)))], [.ref 25], fset h 25 2 (.int (nI (si - 1))), 198, sl) = some r2 := hh2
    obtain ⟨n2, hh2⟩ := rn_gi (x := nI fi) (hc_f rfl rfl (by decide) rfl hw).wt rfl rfl (by decide) rfl (by decide) rfl ((Fi_n (Or.inr (by decide))).trans e1) hh2
    obtain ⟨n2, hh2⟩ := rn_i rfl rfl rfl rfl hh2
    have hh2 : pm_run PT n2 fr2 lo2 21 (5, [some (.ref 25), some (.int (nI (si - 1)))], [.int (nI (si - 1)), .int (nI fi)], fset h 25 2 (.int (nI (si - 1))), 198, sl) = some r2 := hh2
    obtain ⟨n2, hh2⟩ := en_add rfl hh2
    have hh2 : pm_run PT n2 fr2 lo2 21 (6, [some (.ref 25), some (.int (nI (si - 1)))], [.int (nI (fi + (si - 1)))], fset h 25 2 (.int (nI (si - 1))), 198, sl) = some r2 := hh2
    obtain ⟨n2, hh2⟩ := rn_i rfl rfl rfl rfl hh2
    have hh2 : pm_run PT n2 fr2 lo2 21 (8, [some (.ref 25), some (.int (nI (si - 1)))], [.int (nI 16), .int (nI (fi + (si - 1)))], fset h 25 2 (.int (nI (si - 1))), 198, sl) = some r2 := hh2
    obtain ⟨n2, hh2⟩ := en_r16 (x := fi + (si - 1)) (by omega) rfl hh2
    have hh2 : pm_run PT n2 fr2 lo2 21 (9, [some (.ref 25), some (.int (nI (si - 1)))], [.int (nI ((fi + (si - 1)) % 16))], fset h 25 2 (.int (nI (si - 1))), 198, sl) = some r2 := hh2
    have hh2 : pm_run PT n2 fr2 lo2 21 (9, [some (.ref 25), some (.int (nI (si - 1)))], [.int (nI ((fi + (si - 1)) % 16))], fset h 25 2 (.int (nI (si - 1))), 198, sl) = some r2 := hh2
    have er3 : r2 = (some (.int (nI ((fi + (si - 1)) % 16))), fset h 25 2 (.int (nI (si - 1))), 198, sl) := (rn_ret rfl (Or.inl rfl) hh2).2
    subst er3
    have hh1 : pm_run PT n1 fr1 lo1 19 (32, [some (.ref 25), some (.ref 13)], [.int (nI ((fi + (si - 1)) % 16)), .ref 26, .ref 13], fset h 25 2 (.int (nI (si - 1))), 198, sl) = some r1 := hh1
    obtain ⟨n1, hx4, hh1⟩ := en_q26 (t := (fi + (si - 1)) % 16) (by omega) (hc_f rfl rfl (by decide) rfl hw).wt rfl hh1
    have hh1 : pm_run PT n1 fr1 lo1 19 (33, [some (.ref 25), some (.ref 13)], [.ref (27 + 6 * ((fi + (si - 1)) % 16)), .ref 13], fset h 25 2 (.int (nI (si - 1))), 198, sl) = some r1 := hh1
    have hh1 : pm_run PT n1 fr1 lo1 19 (33, [some (.ref 25), some (.ref 13)], [.ref (27 + 6 * ((fi + (si - 1)) % 16)), .ref 13], fset h 25 2 (.int (nI (si - 1))), 198, sl) = some r1 := hh1
    obtain ⟨n1, fr2, lo2, r2, hh2, hh1⟩ := rn_call (w := 0) (t := 73) rfl rfl hh1
    obtain ⟨er5, hc6⟩ := cp73_ok rfl (xst_27 (by omega)) (by omega) (hc_f rfl rfl (by decide) rfl hw) hh2
    subst er5
    obtain ⟨n1, hh1⟩ := rn_i rfl rfl rfl rfl hh1
    have hh1 : pm_run PT n1 fr1 lo1 19 (37, [some (.ref 25), some (.ref 13)], [.int (nI 1)], cp73 (fset h 25 2 (.int (nI (si - 1)))) 13 (27 + 6 * ((fi + (si - 1)) % 16)), 198, sl) = some r1 := hh1
    have er7 : r1 = (some (.int (nI 1)), cp73 (fset h 25 2 (.int (nI (si - 1)))) 13 (27 + 6 * ((fi + (si - 1)) % 16)), 198, sl) := (rn_ret rfl (Or.inr rfl) hh1).2
    subst er7
    have hh : pm_run PT n fr lo 101 (11, [some (.ref 0)], [.int (nI 1)], cp73 (fset h 25 2 (.int (nI (si - 1)))) 13 (27 + 6 * ((fi + (si - 1)) % 16)), 198, sl) = some R := hh
    obtain ⟨n, hh⟩ := en_zn (cc := .eq) (off := 13) (t := 24) (b := false) (by decide) rfl rfl hh
    have hh : pm_run PT n fr lo 101 (14, [some (.ref 0)], [], cp73 (fset h 25 2 (.int (nI (si - 1)))) 13 (27 + 6 * ((fi + (si - 1)) % 16)), 198, sl) = some R := hh
    obtain ⟨n, hh⟩ := rn_i rfl rfl rfl rfl hh
    have hh : pm_run PT n fr lo 101 (15, [some (.ref 0)], [.ref 0], cp73 (fset h 25 2 (.int (nI (si - 1)))) 13 (27 + 6 * ((fi + (si - 1)) % 16)), 198, sl) = some R := hh
    obtain ⟨n, hh⟩ := rn_gr hc6.wt rfl rfl (by decide) rfl (by decide) (show _ = some (2, ((25 : Nat) : Int), 1) from rfl) rfl hh
    have hh : pm_run PT n fr lo 101 (18, [some (.ref 0)], [.ref 25], cp73 (fset h 25 2 (.int (nI (si - 1)))) 13 (27 + 6 * ((fi + (si - 1)) % 16)), 198, sl) = some R := hh
    obtain ⟨n, hh⟩ := rn_gi (x := nI (si - 1)) hc6.wt rfl rfl (by decide) rfl (by decide) rfl ((Fi_e (cp73_ne (by omega))).trans (Fi_s hw.wt (by decide) rfl (by decide) rfl)) hh
    obtain ⟨n, hh⟩ := rn_i rfl rfl rfl rfl hh
    have hh : pm_run PT n fr lo 101 (25, [some (.ref 0)], [.int (nI (si - 1))], cp73 (fset h 25 2 (.int (nI (si - 1)))) 13 (27 + 6 * ((fi + (si - 1)) % 16)), 198, sl) = some R := hh
    have er8 : R = (some (.int (nI (si - 1))), cp73 (fset h 25 2 (.int (nI (si - 1)))) 13 (27 + 6 * ((fi + (si - 1)) % 16)), 198, sl) := (rn_ret rfl (Or.inl rfl) hh).2
    have ed : v101 q cc gc h fi si = (nI (si - 1), cp73 (fset h 25 2 (.int (nI (si - 1)))) 13 (27 + 6 * ((fi + (si - 1)) % 16))) := (ct z1).trans rfl
    refine ⟨?_, ?_, ?_⟩ <;> rw [ed]
    · exact er8
    · exact hc6
    · exact (fr_cs rfl (hc_f rfl rfl (by decide) rfl hw).wt rfl rfl (fr_f rfl rfl fr_0))
  | false =>
    have hh1 := en_f z1 hh1
    have hh1 : pm_run PT n1 fr1 lo1 19 (7, [some (.ref 25), some (.ref 13)], [], h, 198, sl) = some r1 := hh1
    have y9 := of_decide_eq_false z1
    obtain ⟨n1, hh1⟩ := rn_i rfl rfl rfl rfl hh1
    have hh1 : pm_run PT n1 fr1 lo1 19 (8, [some (.ref 25), some (.ref 13)], [.int (nI 0)], h, 198, sl) = some r1 := hh1
    have er10 : r1 = (some (.int (nI 0)), h, 198, sl) := (rn_ret rfl (Or.inr rfl) hh1).2
    subst er10
    have hh : pm_run PT n fr lo 101 (11, [some (.ref 0)], [.int (nI 0)], h, 198, sl) = some R := hh
    obtain ⟨n, hh⟩ := en_zn (cc := .eq) (off := 13) (t := 24) (b := true) (by decide) rfl rfl hh
    have hh : pm_run PT n fr lo 101 (24, [some (.ref 0)], [], h, 198, sl) = some R := hh
    obtain ⟨n, hh⟩ := rn_i rfl rfl rfl rfl hh
    have hh : pm_run PT n fr lo 101 (25, [some (.ref 0)], [.int (Int32.ofInt (-1))], h, 198, sl) = some R := hh
    have er11 : R = (some (.int (Int32.ofInt (-1))), h, 198, sl) := (rn_ret rfl (Or.inl rfl) hh).2
    have ed : v101 q cc gc h fi si = ((Int32.ofInt (-1)), h) := (cf z1).trans rfl
    refine ⟨?_, ?_, ?_⟩ <;> rw [ed]
    · exact er11
    · exact hw
    · exact fr_0
def v142 (q : QT) (cc gc : Nat) (h : pm_H) (g : Nat) (c : Nat) : Bool × pm_H := cond (pm_cmp .ge (v136 q cc gc (Ar h 17) g c) 0) (true, v40 q cc gc ((v39 q cc gc h g c).2) g c ((v39 q cc gc h g c).1)) (false, h)
theorem v142_ok {n fr lo sl cc gc : Nat} {q : QT} {h : pm_H} {R : pm_Rs} {g : Nat} {c : Nat} (hw : HC q cc gc h) (h_g : g < 10000) (h_c : c < 10000) (hol : NA h 17 0 8 6) (hh : pm_run PT n fr lo 142 (0, pm_l0 [.ref 0, .int (nI g), .int (nI c)] 3, [], h, 198, sl) = some R) : R = (some (.int (cond (v142 q cc gc h g c).1 1 0)), (v142 q cc gc h g c).2, 198, sl) ∧ HC q cc gc ((v142 q cc gc h g c).2) ∧ frm [12, 15, 16, 17, 18, 142, 144, 145, 147] [(142, 3), (145, 3)] h ((v142 q cc gc h g c).2) := by
  have hcc := hw.cb
  have hgc := hw.gb
  have hzr := hw.zr
  obtain ⟨n, hh⟩ := rn_i rfl rfl rfl rfl hh
  obtain ⟨n, hh⟩ := rn_i rfl rfl rfl rfl hh
  obtain ⟨n, hh⟩ := rn_i rfl rfl rfl rfl hh
  have hh : pm_run PT n fr lo 142 (3, [some (.ref 0), some (.int (nI g)), some (.int (nI c))], [.int (nI c), .int (nI g), .ref 0], h, 198, sl) = some R := hh
  obtain ⟨n, fr1, lo1, r1, hh1, hh⟩ := rn_call (w := 0) (t := 136) rfl rfl hh
  have er1 := v136_ok (g := g) (c := c) hw (by omega) (by omega) hh1
  subst er1
  have hh : pm_run PT n fr lo 142 (6, [some (.ref 0), some (.int (nI g)), some (.int (nI c))], [.int (v136 q cc gc (Ar h 17) g c)], h, 198, sl) = some R := hh
  obtain ⟨n, hh⟩ := en_zn (cc := .ge) (off := 5) (t := 11) (b := pm_cmp .ge (v136 q cc gc (Ar h 17) g c) 0) rfl rfl rfl hh
  cases z2 : pm_cmp .ge (v136 q cc gc (Ar h 17) g c) 0 with
  | true =>
    have hh := en_t z2 hh
    have hh : pm_run PT n fr lo 142 (11, [some (.ref 0), some (.int (nI g)), some (.int (nI c))], [], h, 198, sl) = some R := hh
    obtain ⟨n, hh⟩ := rn_i rfl rfl rfl rfl hh
    have hh : pm_run PT n fr lo 142 (12, [some (.ref 0), some (.int (nI g)), some (.int (nI c))], [.ref 0], h, 198, sl) = some R := hh
    obtain ⟨n, hh⟩ := rn_gr hw.wt rfl rfl (by decide) rfl (by decide) (show _ = some (2, ((5 : Nat) : Int), 1) from rfl) rfl hh
    obtain ⟨n, hh⟩ := rn_i rfl rfl rfl rfl hh
    have hh : pm_run PT n fr lo 142 (16, [some (.ref 0), some (.int (nI g)), some (.int (nI c))], [.ref 0, .ref 5], h, 198, sl) = some R := hh
    obtain ⟨n, hh⟩ := rn_gr hw.wt rfl rfl (by decide) rfl (by decide) (show _ = some (2, ((13 : Nat) : Int), 1) from rfl) rfl hh
    obtain ⟨n, hh⟩ := rn_i rfl rfl rfl rfl hh
    obtain ⟨n, hh⟩ := rn_i rfl rfl rfl rfl hh
    obtain ⟨n, hh⟩ := rn_i rfl rfl rfl rfl hh
    have hh : pm_run PT n fr lo 142 (22, [some (.ref 0), some (.int (nI g)), some (.int (nI c))], [.ref 0, .int (nI c), .int (nI g), .ref 13, .ref 5], h, 198, sl) = some R := hh
    obtain ⟨n, hh⟩ := rn_gr hw.wt rfl rfl (by decide) rfl (by decide) (show _ = some (2, ((5 : Nat) : Int), 1) from rfl) rfl hh
    obtain ⟨n, hh⟩ := rn_i rfl rfl rfl rfl hh
    have hh : pm_run PT n fr lo 142 (26, [some (.ref 0), some (.int (nI g)), some (.int (nI c))], [.ref 0, .ref 5, .int (nI c), .int (nI g), .ref 13, .ref 5], h, 198, sl) = some R := hh
    obtain ⟨n, hh⟩ := en_q hw rfl rfl hh
    obtain ⟨n, hh⟩ := rn_i rfl rfl rfl rfl hh
    have hh : pm_run PT n fr lo 142 (30, [some (.ref 0), some (.int (nI g)), some (.int (nI c))], [.ref 0, .ref q.1, .ref 5, .int (nI c), .int (nI g), .ref 13, .ref 5], h, 198, sl) = some R := hh
    obtain ⟨n, hh⟩ := rn_gr hw.wt rfl rfl (by decide) rfl (by decide) (show _ = some (2, ((13 : Nat) : Int), 1) from rfl) rfl hh
    obtain ⟨n, hh⟩ := rn_i rfl rfl rfl rfl hh
    obtain ⟨n, hh⟩ := rn_i rfl rfl rfl rfl hh
    have hh : pm_run PT n fr lo 142 (35, [some (.ref 0), some (.int (nI g)), some (.int (nI c))], [.int (nI c), .int (nI g), .ref 13, .ref q.1, .ref 5, .int (nI c), .int (nI g), .ref 13, .ref 5], h, 198, sl) = some R := hh
    obtain ⟨n, fr1, lo1, r1, hh1, hh⟩ := rn_call (w := 0) (t := 39) rfl rfl hh
    obtain ⟨er3, hc4, hf5⟩ := v39_ok (g := g) (c := c) hw (by omega) (by omega) hh1
    subst er3
    have hh : pm_run PT n fr lo 142 (38, [some (.ref 0), some (.int (nI g)), some (.int (nI c))], [.int ((v39 q cc gc h g c).1), .int (nI c), .int (nI g), .ref 13, .ref 5], (v39 q cc gc h g c).2, 198, sl) = some R := hh
    obtain ⟨n, fr1, lo1, r1, hh1, hh⟩ := rn_call (w := 0) (t := 40) rfl rfl hh
    obtain ⟨er6, hc7, hf8⟩ := v40_ok (g := g) (c := c) (v := ((v39 q cc gc h g c).1)) hc4 (by omega) (by omega) (NA_e ((Ar_e (hf5.1 17 rfl)).trans rfl) hol) hh1
    subst er6
    obtain ⟨n, hh⟩ := rn_i rfl rfl rfl rfl hh
    have hh : pm_run PT n fr lo 142 (42, [some (.ref 0), some (.int (nI g)), some (.int (nI c))], [.int (nI 1)], v40 q cc gc ((v39 q cc gc h g c).2) g c ((v39 q cc gc h g c).1), 198, sl) = some R := hh
    have er9 : R = (some (.int (nI 1)), v40 q cc gc ((v39 q cc gc h g c).2) g c ((v39 q cc gc h g c).1), 198, sl) := (rn_ret rfl (Or.inr rfl) hh).2
    have ed : v142 q cc gc h g c = (true, v40 q cc gc ((v39 q cc gc h g c).2) g c ((v39 q cc gc h g c).1)) := (ct z2).trans rfl
    refine ⟨?_, ?_, ?_⟩ <;> rw [ed]
    · exact er9
    · exact hc7
    · exact (fr_g rfl rfl hf8 (fr_g rfl rfl hf5 fr_0))
  | false =>
    have hh := en_f z2 hh
    have hh : pm_run PT n fr lo 142 (9, [some (.ref 0), some (.int (nI g)), some (.int (nI c))], [], h, 198, sl) = some R := hh
    obtain ⟨n, hh⟩ := rn_i rfl rfl rfl rfl hh
    have hh : pm_run PT n fr lo 142 (10, [some (.ref 0), some (.int (nI g)), some (.int (nI c))], [.int (nI 0)], h, 198, sl) = some R := hh
    have er10 : R = (some (.int (nI 0)), h, 198, sl) := (rn_ret rfl (Or.inr rfl) hh).2
    have ed : v142 q cc gc h g c = (false, h) := (cf z2).trans rfl
    refine ⟨?_, ?_, ?_⟩ <;> rw [ed]
    · exact er10
    · exact hw
    · exact fr_0
theorem v142_fr {cc gc : Nat} {q : QT} {h : pm_H} {g : Nat} {c : Nat} (hw : HC q cc gc h) : HC q cc gc ((v142 q cc gc h g c).2) ∧ frm [12, 15, 16, 17, 18, 142, 144, 145, 147] [(142, 3), (145, 3)] h ((v142 q cc gc h g c).2) := by
  unfold v142
  refine cd_s (P := fun (p : Bool × pm_H) => HC q cc gc ((p).2) ∧ frm [12, 15, 16, 17, 18, 142, 144, 145, 147] [(142, 3), (145, 3)] h ((p).2)) (b := pm_cmp .ge (v136 q cc gc (Ar h 17) g c) 0) (fun _ => ?_) (fun _ => ?_)
  · show HC q cc gc (v40 q cc gc ((v39 q cc gc h g c).2) g c ((v39 q cc gc h g c).1)) ∧ frm [12, 15, 16, 17, 18, 142, 144, 145, 147] [(142, 3), (145, 3)] h (v40 q cc gc ((v39 q cc gc h g c).2) g c ((v39 q cc gc h g c).1))
    exact ⟨(v40_fr (g := g) (c := c) (v := ((v39 q cc gc h g c).1)) (v39_fr (g := g) (c := c) hw).1).1, (fr_g rfl rfl (v40_fr (g := g) (c := c) (v := ((v39 q cc gc h g c).1)) (v39_fr (g := g) (c := c) hw).1).2 (fr_g rfl rfl (v39_fr (g := g) (c := c) hw).2 fr_0))⟩
  · show HC q cc gc (h) ∧ frm [12, 15, 16, 17, 18, 142, 144, 145, 147] [(142, 3), (145, 3)] h (h)
    exact ⟨hw, fr_0⟩
def v143 (q : QT) (cc gc : Nat) (h : pm_H) (a : Nat) (b : Nat) : Bool × pm_H := cond (pm_cmp .ge (v139 q cc gc (Ar h 16) a b) 0) (true, aset h 16 36 (upd (Ar h 16) (a * 6 + b) (nI 0))) (false, h)
theorem v143_ok {n fr lo sl cc gc : Nat} {q : QT} {h : pm_H} {R : pm_Rs} {a : Nat} {b : Nat} (hw : HC q cc gc h) (h_a : a < 10000) (h_b : b < 10000) (hh : pm_run PT n fr lo 143 (0, pm_l0 [.ref 0, .int (nI a), .int (nI b)] 3, [], h, 198, sl) = some R) : R = (some (.int (cond (v143 q cc gc h a b).1 1 0)), (v143 q cc gc h a b).2, 198, sl) ∧ HC q cc gc ((v143 q cc gc h a b).2) ∧ frm [16] [] h ((v143 q cc gc h a b).2) := by
  have hcc := hw.cb
  have hgc := hw.gb
  have hzr := hw.zr
  obtain ⟨n, hh⟩ := rn_i rfl rfl rfl rfl hh
  obtain ⟨n, hh⟩ := rn_i rfl rfl rfl rfl hh
  obtain ⟨n, hh⟩ := rn_i rfl rfl rfl rfl hh
  have hh : pm_run PT n fr lo 143 (3, [some (.ref 0), some (.int (nI a)), some (.int (nI b))], [.int (nI b), .int (nI a), .ref 0], h, 198, sl) = some R := hh
  obtain ⟨n, fr1, lo1, r1, hh1, hh⟩ := rn_call (w := 0) (t := 139) rfl rfl hh
  have er1 := v139_ok (a := a) (b := b) hw (by omega) (by omega) hh1
  subst er1
  have hh : pm_run PT n fr lo 143 (6, [some (.ref 0), some (.int (nI a)), some (.int (nI b))], [.int (v139 q cc gc (Ar h 16) a b)], h, 198, sl) = some R := hh
  obtain ⟨n, hh⟩ := en_zn (cc := .ge) (off := 5) (t := 11) (b := pm_cmp .ge (v139 q cc gc (Ar h 16) a b) 0) rfl rfl rfl hh
  cases z2 : pm_cmp .ge (v139 q cc gc (Ar h 16) a b) 0 with
  | true =>
    have hh := en_t z2 hh
    have hh : pm_run PT n fr lo 143 (11, [some (.ref 0), some (.int (nI a)), some (.int (nI b))], [], h, 198, sl) = some R := hh
    obtain ⟨n, hh⟩ := rn_i rfl rfl rfl rfl hh
    have hh : pm_run PT n fr lo 143 (12, [some (.ref 0), some (.int (nI a)), some (.int (nI b))], [.ref 0], h, 198, sl) = some R := hh
    obtain ⟨n, hh⟩ := rn_gr hw.wt rfl rfl (by decide) rfl (by decide) (show _ = some (2, ((13 : Nat) : Int), 1) from rfl) rfl hh
    have hh : pm_run PT n fr lo 143 (15, [some (.ref 0), some (.int (nI a)), some (.int (nI b))], [.ref 13], h, 198, sl) = some R := hh
    obtain ⟨n, hh⟩ := rn_gr hw.wt rfl rfl (by decide) rfl (by decide) (show _ = some (2, ((16 : Nat) : Int), 1) from rfl) rfl hh
    obtain ⟨n, hh⟩ := rn_i rfl rfl rfl rfl hh
    obtain ⟨n, hh⟩ := rn_i rfl rfl rfl rfl hh
    have hh : pm_run PT n fr lo 143 (20, [some (.ref 0), some (.int (nI a)), some (.int (nI b))], [.int (nI b), .int (nI a), .ref 16], h, 198, sl) = some R := hh
    obtain ⟨n, fr1, lo1, r1, hh1, hh⟩ := rn_call (w := 2) (t := 160) rfl rfl hh
    have hh1 : pm_run PT n fr1 lo1 160 (0, [some (.int (nI a)), some (.int (nI b))], [], h, 198, sl) = some r1 := hh1
    obtain ⟨n1, hh1⟩ := rn_i rfl rfl rfl rfl hh1
    obtain ⟨n1, hh1⟩ := rn_i rfl rfl rfl rfl hh1
    have hh1 : pm_run PT n1 fr1 lo1 160 (3, [some (.int (nI a)), some (.int (nI b))], [.int (nI 6), .int (nI a)], h, 198, sl) = some r1 := hh1
    obtain ⟨n1, hh1⟩ := en_mul rfl hh1
    have hh1 : pm_run PT n1 fr1 lo1 160 (4, [some (.int (nI a)), some (.int (nI b))], [.int (nI (a * 6))], h, 198, sl) = some r1 := hh1
    obtain ⟨n1, hh1⟩ := rn_i rfl rfl rfl rfl hh1
    have hh1 : pm_run PT n1 fr1 lo1 160 (5, [some (.int (nI a)), some (.int (nI b))], [.int (nI b), .int (nI (a * 6))], h, 198, sl) = some r1 := hh1
    obtain ⟨n1, hh1⟩ := en_add rfl hh1
    have hh1 : pm_run PT n1 fr1 lo1 160 (6, [some (.int (nI a)), some (.int (nI b))], [.int (nI (a * 6 + b))], h, 198, sl) = some r1 := hh1
    have hh1 : pm_run PT n1 fr1 lo1 160 (6, [some (.int (nI a)), some (.int (nI b))], [.int (nI (a * 6 + b))], h, 198, sl) = some r1 := hh1
    have er3 : r1 = (some (.int (nI (a * 6 + b))), h, 198, sl) := (rn_ret rfl (Or.inl rfl) hh1).2
    subst er3
    obtain ⟨n, hh⟩ := rn_i rfl rfl rfl rfl hh
    have hh : pm_run PT n fr lo 143 (24, [some (.ref 0), some (.int (nI a)), some (.int (nI b))], [.int (nI 0), .int (nI (a * 6 + b)), .ref 16], h, 198, sl) = some R := hh
    obtain ⟨n, hx4, hh⟩ := en_st (t := a * 6 + b) (f := Ar h 16) (nI_clamp (by omega)) hw.wt rfl (by decide) rfl (by decide) rfl hh
    obtain ⟨n, hh⟩ := rn_i rfl rfl rfl rfl hh
    have hh : pm_run PT n fr lo 143 (26, [some (.ref 0), some (.int (nI a)), some (.int (nI b))], [.int (nI 1)], aset h 16 36 (upd (Ar h 16) (a * 6 + b) (nI 0)), 198, sl) = some R := hh
    have er5 : R = (some (.int (nI 1)), aset h 16 36 (upd (Ar h 16) (a * 6 + b) (nI 0)), 198, sl) := (rn_ret rfl (Or.inr rfl) hh).2
    have ed : v143 q cc gc h a b = (true, aset h 16 36 (upd (Ar h 16) (a * 6 + b) (nI 0))) := (ct z2).trans rfl
    refine ⟨?_, ?_, ?_⟩ <;> rw [ed]
    · exact er5
    · exact (hc_a rfl rfl hw)
    · exact (fr_a rfl rfl fr_0)
  | false =>
    have hh := en_f z2 hh
    have hh : pm_run PT n fr lo 143 (9, [some (.ref 0), some (.int (nI a)), some (.int (nI b))], [], h, 198, sl) = some R := hh
    obtain ⟨n, hh⟩ := rn_i rfl rfl rfl rfl hh
    have hh : pm_run PT n fr lo 143 (10, [some (.ref 0), some (.int (nI a)), some (.int (nI b))], [.int (nI 0)], h, 198, sl) = some R := hh
    have er6 : R = (some (.int (nI 0)), h, 198, sl) := (rn_ret rfl (Or.inr rfl) hh).2
    have ed : v143 q cc gc h a b = (false, h) := (cf z2).trans rfl
    refine ⟨?_, ?_, ?_⟩ <;> rw [ed]
    · exact er6
    · exact hw
    · exact fr_0
theorem v143_fr {cc gc : Nat} {q : QT} {h : pm_H} {a : Nat} {b : Nat} (hw : HC q cc gc h) : HC q cc gc ((v143 q cc gc h a b).2) ∧ frm [16] [] h ((v143 q cc gc h a b).2) := by
  unfold v143
  refine cd_s (P := fun (p : Bool × pm_H) => HC q cc gc ((p).2) ∧ frm [16] [] h ((p).2)) (b := pm_cmp .ge (v139 q cc gc (Ar h 16) a b) 0) (fun _ => ?_) (fun _ => ?_)
  · show HC q cc gc (aset h 16 36 (upd (Ar h 16) (a * 6 + b) (nI 0))) ∧ frm [16] [] h (aset h 16 36 (upd (Ar h 16) (a * 6 + b) (nI 0)))
    exact ⟨(hc_a rfl rfl hw), (fr_a rfl rfl fr_0)⟩
  · show HC q cc gc (h) ∧ frm [16] [] h (h)
    exact ⟨hw, fr_0⟩
def v144 (q : QT) (cc gc : Nat) (h : pm_H) (a : Nat) (b : Nat) (m : Int32) : Bool × pm_H := cond (v137 q cc gc a b m) (false, h) (true, v138 q cc gc h a b m)
theorem v144_ok {n fr lo sl cc gc : Nat} {q : QT} {h : pm_H} {R : pm_Rs} {a : Nat} {b : Nat} {m : Int32} (hw : HC q cc gc h) (h_a : a < 10000) (h_b : b < 10000) (hh : pm_run PT n fr lo 144 (0, pm_l0 [.ref 0, .int (nI a), .int (nI b), .int m] 4, [], h, 198, sl) = some R) : R = (some (.int (cond (v144 q cc gc h a b m).1 1 0)), (v144 q cc gc h a b m).2, 198, sl) ∧ HC q cc gc ((v144 q cc gc h a b m).2) ∧ frm [15] [] h ((v144 q cc gc h a b m).2) := by
  have hcc := hw.cb
  have hgc := hw.gb
  have hzr := hw.zr
  obtain ⟨n, hh⟩ := rn_i rfl rfl rfl rfl hh
  obtain ⟨n, hh⟩ := rn_i rfl rfl rfl rfl hh
  obtain ⟨n, hh⟩ := rn_i rfl rfl rfl rfl hh
  obtain ⟨n, hh⟩ := rn_i rfl rfl rfl rfl hh
  have hh : pm_run PT n fr lo 144 (4, [some (.ref 0), some (.int (nI a)), some (.int (nI b)), some (.int m)], [.int m, .int (nI b), .int (nI a), .ref 0], h, 198, sl) = some R := hh
  obtain ⟨n, fr1, lo1, r1, hh1, hh⟩ := rn_call (w := 0) (t := 137) rfl rfl hh
  have er1 := v137_ok (a := a) (b := b) (m := m) hw (by omega) (by omega) hh1
  subst er1
  have hh : pm_run PT n fr lo 144 (7, [some (.ref 0), some (.int (nI a)), some (.int (nI b)), some (.int m)], [.int (cond (v137 q cc gc a b m) 1 0)], h, 198, sl) = some R := hh
  obtain ⟨n, hh⟩ := en_zn (cc := .eq) (off := 5) (t := 12) (b := !(v137 q cc gc a b m)) eb_eq rfl rfl hh
  cases z2 : v137 q cc gc a b m with
  | true =>
    have hh := en_nt z2 hh
    have hh : pm_run PT n fr lo 144 (10, [some (.ref 0), some (.int (nI a)), some (.int (nI b)), some (.int m)], [], h, 198, sl) = some R := hh
    obtain ⟨n, hh⟩ := rn_i rfl rfl rfl rfl hh
    have hh : pm_run PT n fr lo 144 (11, [some (.ref 0), some (.int (nI a)), some (.int (nI b)), some (.int m)], [.int (nI 0)], h, 198, sl) = some R := hh
    have er3 : R = (some (.int (nI 0)), h, 198, sl) := (rn_ret rfl (Or.inr rfl) hh).2
    have ed : v144 q cc gc h a b m = (false, h) := (ct z2).trans rfl
    refine ⟨?_, ?_, ?_⟩ <;> rw [ed]
    · exact er3
    · exact hw
    · exact fr_0
  | false =>
    have hh := en_nf z2 hh
    have hh : pm_run PT n fr lo 144 (12, [some (.ref 0), some (.int (nI a)), some (.int (nI b)), some (.int m)], [], h, 198, sl) = some R := hh
    obtain ⟨n, hh⟩ := rn_i rfl rfl rfl rfl hh
    obtain ⟨n, hh⟩ := rn_i rfl rfl rfl rfl hh
    obtain ⟨n, hh⟩ := rn_i rfl rfl rfl rfl hh
    obtain ⟨n, hh⟩ := rn_i rfl rfl rfl rfl hh
    have hh : pm_run PT n fr lo 144 (16, [some (.ref 0), some (.int (nI a)), some (.int (nI b)), some (.int m)], [.int m, .int (nI b), .int (nI a), .ref 0], h, 198, sl) = some R := hh
    obtain ⟨n, fr1, lo1, r1, hh1, hh⟩ := rn_call (w := 0) (t := 138) rfl rfl hh
    obtain ⟨er4, hc5, hf6⟩ := v138_ok (a := a) (b := b) (m := m) hw (by omega) (by omega) hh1
    subst er4
    obtain ⟨n, hh⟩ := rn_i rfl rfl rfl rfl hh
    have hh : pm_run PT n fr lo 144 (20, [some (.ref 0), some (.int (nI a)), some (.int (nI b)), some (.int m)], [.int (nI 1)], v138 q cc gc h a b m, 198, sl) = some R := hh
    have er7 : R = (some (.int (nI 1)), v138 q cc gc h a b m, 198, sl) := (rn_ret rfl (Or.inr rfl) hh).2
    have ed : v144 q cc gc h a b m = (true, v138 q cc gc h a b m) := (cf z2).trans rfl
    refine ⟨?_, ?_, ?_⟩ <;> rw [ed]
    · exact er7
    · exact hc5
    · exact (fr_g rfl rfl hf6 fr_0)
theorem v144_fr {cc gc : Nat} {q : QT} {h : pm_H} {a : Nat} {b : Nat} {m : Int32} (hw : HC q cc gc h) : HC q cc gc ((v144 q cc gc h a b m).2) ∧ frm [15] [] h ((v144 q cc gc h a b m).2) := by
  unfold v144
  refine cd_s (P := fun (p : Bool × pm_H) => HC q cc gc ((p).2) ∧ frm [15] [] h ((p).2)) (b := v137 q cc gc a b m) (fun _ => ?_) (fun _ => ?_)
  · show HC q cc gc (h) ∧ frm [15] [] h (h)
    exact ⟨hw, fr_0⟩
  · show HC q cc gc (v138 q cc gc h a b m) ∧ frm [15] [] h (v138 q cc gc h a b m)
    exact ⟨(v138_fr (a := a) (b := b) (m := m) hw).1, (fr_g rfl rfl (v138_fr (a := a) (b := b) (m := m) hw).2 fr_0)⟩
def v145 (q : QT) (cc gc : Nat) (h : pm_H) (g : Nat) (c : Nat) : Bool × pm_H := cond (decide (¬ (((Ar h 23) g).toNatClampNeg) = c)) (true, v40t q cc gc ((v39t q cc gc h g c).2) g c ((v39t q cc gc h g c).1)) (false, h)
theorem v145_ok {n fr lo sl cc gc : Nat} {q : QT} {h : pm_H} {R : pm_Rs} {g : Nat} {c : Nat} (hw : HC q cc gc h) (h_g : g < 10000) (h_c : c < 10000) (hol : NA h 23 0 8 6) (hh : pm_run PT n fr lo 145 (0, pm_l0 [.ref 0, .int (nI g), .int (nI c)] 3, [], h, 198, sl) = some R) : R = (some (.int (cond (v145 q cc gc h g c).1 1 0)), (v145 q cc gc h g c).2, 198, sl) ∧ HC q cc gc ((v145 q cc gc h g c).2) ∧ frm [12, 21, 22, 23, 24, 142, 144, 145, 147] [(142, 3), (145, 3)] h ((v145 q cc gc h g c).2) := by
  have hcc := hw.cb
  have hgc := hw.gb
  have hzr := hw.zr
  obtain ⟨n, hh⟩ := rn_i rfl rfl rfl rfl hh
  have hh : pm_run PT n fr lo 145 (1, [some (.ref 0), some (.int (nI g)), some (.int (nI c))], [.ref 0], h, 198, sl) = some R := hh
  obtain ⟨n, hh⟩ := rn_gr hw.wt rfl rfl (by decide) rfl (by decide) (show _ = some (2, ((19 : Nat) : Int), 1) from rfl) rfl hh
  have hh : pm_run PT n fr lo 145 (4, [some (.ref 0), some (.int (nI g)), some (.int (nI c))], [.ref 19], h, 198, sl) = some R := hh
  obtain ⟨n, hh⟩ := rn_gr hw.wt rfl rfl (by decide) rfl (by decide) (show _ = some (2, ((23 : Nat) : Int), 1) from rfl) rfl hh
  obtain ⟨n, hh⟩ := rn_i rfl rfl rfl rfl hh
  have hh : pm_run PT n fr lo 145 (8, [some (.ref 0), some (.int (nI g)), some (.int (nI c))], [.int (nI g), .ref 23], h, 198, sl) = some R := hh
  obtain ⟨n, hx1, hh⟩ := en_lu (t := g) (f := Ar h 23) (w := nI (((Ar h 23) g).toNatClampNeg)) (nI_clamp (by omega)) hw.wt rfl (by decide) rfl (by decide) rfl (fun z => (hol _ (by omega) (by omega)).1) hh
  have hb2 := (hol g (by omega) (by omega)).2
  obtain ⟨n, hh⟩ := rn_i rfl rfl rfl rfl hh
  have hh : pm_run PT n fr lo 145 (10, [some (.ref 0), some (.int (nI g)), some (.int (nI c))], [.int (nI c), .int (nI (((Ar h 23) g).toNatClampNeg))], h, 198, sl) = some R := hh
  obtain ⟨n, hh⟩ := en_cn (cc := .ne) (off := 5) (t := 15) (b := decide (¬ (((Ar h 23) g).toNatClampNeg) = c)) (hI_ne (by omega) (by omega)) rfl rfl hh
  cases z3 : decide (¬ (((Ar h 23) g).toNatClampNeg) = c) with
  | true =>
    have hh := en_t z3 hh
    have hh : pm_run PT n fr lo 145 (15, [some (.ref 0), some (.int (nI g)), some (.int (nI c))], [], h, 198, sl) = some R := hh
    have y4 := of_decide_eq_true z3
    obtain ⟨n, hh⟩ := rn_i rfl rfl rfl rfl hh
    have hh : pm_run PT n fr lo 145 (16, [some (.ref 0), some (.int (nI g)), some (.int (nI c))], [.ref 0], h, 198, sl) = some R := hh
    obtain ⟨n, hh⟩ := rn_gr hw.wt rfl rfl (by decide) rfl (by decide) (show _ = some (2, ((5 : Nat) : Int), 1) from rfl) rfl hh
    obtain ⟨n, hh⟩ := rn_i rfl rfl rfl rfl hh
    have hh : pm_run PT n fr lo 145 (20, [some (.ref 0), some (.int (nI g)), some (.int (nI c))], [.ref 0, .ref 5], h, 198, sl) = some R := hh
    obtain ⟨n, hh⟩ := rn_gr hw.wt rfl rfl (by decide) rfl (by decide) (show _ = some (2, ((19 : Nat) : Int), 1) from rfl) rfl hh
    obtain ⟨n, hh⟩ := rn_i rfl rfl rfl rfl hh
    obtain ⟨n, hh⟩ := rn_i rfl rfl rfl rfl hh
    obtain ⟨n, hh⟩ := rn_i rfl rfl rfl rfl hh
    have hh : pm_run PT n fr lo 145 (26, [some (.ref 0), some (.int (nI g)), some (.int (nI c))], [.ref 0, .int (nI c), .int (nI g), .ref 19, .ref 5], h, 198, sl) = some R := hh
    obtain ⟨n, hh⟩ := rn_gr hw.wt rfl rfl (by decide) rfl (by decide) (show _ = some (2, ((5 : Nat) : Int), 1) from rfl) rfl hh
    obtain ⟨n, hh⟩ := rn_i rfl rfl rfl rfl hh
    have hh : pm_run PT n fr lo 145 (30, [some (.ref 0), some (.int (nI g)), some (.int (nI c))], [.ref 0, .ref 5, .int (nI c), .int (nI g), .ref 19, .ref 5], h, 198, sl) = some R := hh
    obtain ⟨n, hh⟩ := en_q hw rfl rfl hh
    obtain ⟨n, hh⟩ := rn_i rfl rfl rfl rfl hh
    have hh : pm_run PT n fr lo 145 (34, [some (.ref 0), some (.int (nI g)), some (.int (nI c))], [.ref 0, .ref q.1, .ref 5, .int (nI c), .int (nI g), .ref 19, .ref 5], h, 198, sl) = some R := hh
    obtain ⟨n, hh⟩ := rn_gr hw.wt rfl rfl (by decide) rfl (by decide) (show _ = some (2, ((19 : Nat) : Int), 1) from rfl) rfl hh
    obtain ⟨n, hh⟩ := rn_i rfl rfl rfl rfl hh
    obtain ⟨n, hh⟩ := rn_i rfl rfl rfl rfl hh
    have hh : pm_run PT n fr lo 145 (39, [some (.ref 0), some (.int (nI g)), some (.int (nI c))], [.int (nI c), .int (nI g), .ref 19, .ref q.1, .ref 5, .int (nI c), .int (nI g), .ref 19, .ref 5], h, 198, sl) = some R := hh
    obtain ⟨n, fr1, lo1, r1, hh1, hh⟩ := rn_call (w := 0) (t := 39) rfl rfl hh
    obtain ⟨er5, hc6, hf7⟩ := v39t_ok (g := g) (c := c) hw (by omega) (by omega) hh1
    subst er5
    have hh : pm_run PT n fr lo 145 (42, [some (.ref 0), some (.int (nI g)), some (.int (nI c))], [.int ((v39t q cc gc h g c).1), .int (nI c), .int (nI g), .ref 19, .ref 5], (v39t q cc gc h g c).2, 198, sl) = some R := hh
    obtain ⟨n, fr1, lo1, r1, hh1, hh⟩ := rn_call (w := 0) (t := 40) rfl rfl hh
    obtain ⟨er8, hc9, hf10⟩ := v40t_ok (g := g) (c := c) (v := ((v39t q cc gc h g c).1)) hc6 (by omega) (by omega) (NA_e ((Ar_e (hf7.1 23 rfl)).trans rfl) hol) hh1
    subst er8
    obtain ⟨n, hh⟩ := rn_i rfl rfl rfl rfl hh
    have hh : pm_run PT n fr lo 145 (46, [some (.ref 0), some (.int (nI g)), some (.int (nI c))], [.int (nI 1)], v40t q cc gc ((v39t q cc gc h g c).2) g c ((v39t q cc gc h g c).1), 198, sl) = some R := hh
    have er11 : R = (some (.int (nI 1)), v40t q cc gc ((v39t q cc gc h g c).2) g c ((v39t q cc gc h g c).1), 198, sl) := (rn_ret rfl (Or.inr rfl) hh).2
    have ed : v145 q cc gc h g c = (true, v40t q cc gc ((v39t q cc gc h g c).2) g c ((v39t q cc gc h g c).1)) := (ct z3).trans rfl
    refine ⟨?_, ?_, ?_⟩ <;> rw [ed]
    · exact er11
    · exact hc9
    · exact (fr_g rfl rfl hf10 (fr_g rfl rfl hf7 fr_0))
  | false =>
    have hh := en_f z3 hh
    have hh : pm_run PT n fr lo 145 (13, [some (.ref 0), some (.int (nI g)), some (.int (nI c))], [], h, 198, sl) = some R := hh
    have y12 := of_decide_eq_false z3
    obtain ⟨n, hh⟩ := rn_i rfl rfl rfl rfl hh
    have hh : pm_run PT n fr lo 145 (14, [some (.ref 0), some (.int (nI g)), some (.int (nI c))], [.int (nI 0)], h, 198, sl) = some R := hh
    have er13 : R = (some (.int (nI 0)), h, 198, sl) := (rn_ret rfl (Or.inr rfl) hh).2
    have ed : v145 q cc gc h g c = (false, h) := (cf z3).trans rfl
    refine ⟨?_, ?_, ?_⟩ <;> rw [ed]
    · exact er13
    · exact hw
    · exact fr_0
def v157t (q : QT) (cc gc : Nat) (k : Int32) (e : Int32) : Int32 := cond (pm_cmp .eq k (nI 0)) ((e).toInt8.toInt32) (cond (pm_cmp .eq k (nI 1)) ((e).toInt16.toInt32) e)
theorem v157t_ok {n fr lo sl cc gc : Nat} {q : QT} {h : pm_H} {R : pm_Rs} {k : Int32} {e : Int32} (hw : HC q cc gc h) (hh : pm_run PT n fr lo 157 (0, pm_l0 [.int k, .int e] 2, [], h, 198, sl) = some R) : R = (some (.int (v157t q cc gc k e)), h, 198, sl) := by
  have hcc := hw.cb
  have hgc := hw.gb
  have hzr := hw.zr
  obtain ⟨n, hh⟩ := rn_i rfl rfl rfl rfl hh
  have hh : pm_run PT n fr lo 157 (1, [some (.int k), some (.int e)], [.int k], h, 198, sl) = some R := hh
  cases z1 : pm_cmp .eq k (nI 0) with
  | true =>
    obtain ⟨n, hh⟩ := en_lsc (c := 0) (t := 28) (off := 27) rfl (by decide) (en_xc (c := 0) (by decide) z1) (by decide) rfl hh
    have hh : pm_run PT n fr lo 157 (28, [some (.int k), some (.int e)], [], h, 198, sl) = some R := hh
    obtain ⟨n, hh⟩ := rn_i rfl rfl rfl rfl hh
    obtain ⟨n, hh⟩ := rn_i rfl rfl rfl rfl hh
    have hh : pm_run PT n fr lo 157 (30, [some (.int k), some (.int e)], [.int ((e).toInt8.toInt32)], h, 198, sl) = some R := hh
    have er2 : R = (some (.int ((e).toInt8.toInt32)), h, 198, sl) := (rn_ret rfl (Or.inl rfl) hh).2
    have ed : v157t q cc gc k e = (e).toInt8.toInt32 := (ct z1).trans rfl
    rw [ed]
    exact er2
  | false =>
    cases z3 : pm_cmp .eq k (nI 1) with
    | true =>
      obtain ⟨n, hh⟩ := en_lsc (c := 1) (t := 31) (off := 30) rfl (by decide) (en_xc (c := 1) (by decide) z3) (by decide) rfl hh
      have hh : pm_run PT n fr lo 157 (31, [some (.int k), some (.int e)], [], h, 198, sl) = some R := hh
      obtain ⟨n, hh⟩ := rn_i rfl rfl rfl rfl hh
      obtain ⟨n, hh⟩ := rn_i rfl rfl rfl rfl hh
      have hh : pm_run PT n fr lo 157 (33, [some (.int k), some (.int e)], [.int ((e).toInt16.toInt32)], h, 198, sl) = some R := hh
      have er4 : R = (some (.int ((e).toInt16.toInt32)), h, 198, sl) := (rn_ret rfl (Or.inl rfl) hh).2
      have ed : v157t q cc gc k e = (e).toInt16.toInt32 := (cf z1).trans ((ct z3).trans rfl)
      rw [ed]
      exact er4
    | false =>
      obtain ⟨n, hh⟩ := en_lsd (t := 34) [0, 1] rfl (by decide) (by decide) (en_l1 (en_xn (c := 0) (by decide) z1) (en_l1 (en_xn (c := 1) (by decide) z3) en_l0)) rfl hh
      have hh : pm_run PT n fr lo 157 (34, [some (.int k), some (.int e)], [], h, 198, sl) = some R := hh
      obtain ⟨n, hh⟩ := rn_i rfl rfl rfl rfl hh
      have hh : pm_run PT n fr lo 157 (35, [some (.int k), some (.int e)], [.int e], h, 198, sl) = some R := hh
      have er5 : R = (some (.int e), h, 198, sl) := (rn_ret rfl (Or.inl rfl) hh).2
      have ed : v157t q cc gc k e = e := (cf z1).trans ((cf z3).trans rfl)
      rw [ed]
      exact er5
def v95_44b (q : QT) (cc gc : Nat) (h : pm_H) (t1 : Int32) (t2 : Int32) (t3 : Int32) (t4 : Int32) (b5 : Bool) (i : Nat) : pm_H := aset h 14 6 (upd (Ar h 14) i (cond (cond b5 false (cond (pm_cmp .ge (nI i) t2) false true)) (imax (nI 0) (imin (nI 999) (v157t q cc gc t1 (t3 + ((nI i) * t4))))) (nI 0)))
def v95_44 (q : QT) (cc gc : Nat) (t1 : Int32) (t2 : Int32) (t3 : Int32) (t4 : Int32) (b5 : Bool) (j i : Nat) (a : pm_H) : pm_H := lp (fun i a => v95_44b q cc gc a t1 t2 t3 t4 b5 i) j i a
theorem v95_44_e {n fr lo sl cc gc : Nat} {q : QT} {h : pm_H} {R : pm_Rs} {t1 : Int32} {t2 : Int32} {t3 : Int32} {t4 : Int32} {b5 : Bool} {i : Nat} {o7 : Option Value} (hw : HC q cc gc h) (hi : cc ≤ i) (hI : i < 1000000) (hh : pm_run PT n fr lo 95 (44, [some (.ref 0), some (.int t1), some (.int t2), some (.int t3), some (.int t4), some (.int (cond b5 1 0)), some (.int (nI i)), o7], [], h, 198, sl) = some R) : ∃ m, pm_run PT m fr lo 95 (116, [some (.ref 0), some (.int t1), some (.int t2), some (.int t3), some (.int t4), some (.int (cond b5 1 0)), some (.int (nI i)), o7], [], h, 198, sl) = some R := by
  have hcc := hw.cb
  have hgc := hw.gb
  have hzr := hw.zr
  obtain ⟨n, hh⟩ := rn_i rfl rfl rfl rfl hh
  obtain ⟨n, hh⟩ := rn_i rfl rfl rfl rfl hh
  have hh : pm_run PT n fr lo 95 (47, [some (.ref 0), some (.int t1), some (.int t2), some (.int t3), some (.int t4), some (.int (cond b5 1 0)), some (.int (nI i)), o7], [.ref 0, .int (nI i)], h, 198, sl) = some R := hh
  obtain ⟨n, hh⟩ := rn_gr hw.wt rfl rfl (by decide) rfl (by decide) (show _ = some (2, ((5 : Nat) : Int), 1) from rfl) rfl hh
  have hh : pm_run PT n fr lo 95 (50, [some (.ref 0), some (.int t1), some (.int t2), some (.int t3), some (.int t4), some (.int (cond b5 1 0)), some (.int (nI i)), o7], [.ref 5, .int (nI i)], h, 198, sl) = some R := hh
  obtain ⟨n, hh⟩ := rn_gi (x := nI cc) hw.wt rfl rfl (by decide) rfl (by decide) rfl hw.x0 hh
  have hh : pm_run PT n fr lo 95 (53, [some (.ref 0), some (.int t1), some (.int t2), some (.int t3), some (.int t4), some (.int (cond b5 1 0)), some (.int (nI i)), o7], [.int (nI cc), .int (nI i)], h, 198, sl) = some R := hh
  obtain ⟨n, hh⟩ := en_cn (cc := .ge) (off := 63) (t := 116) (b := decide (cc ≤ i)) (hI_ge (by omega) (by omega)) rfl rfl hh
  have hh := en_t (show decide (cc ≤ i) = true from decide_eq_true (by omega)) hh
  have hh : pm_run PT n fr lo 95 (116, [some (.ref 0), some (.int t1), some (.int t2), some (.int t3), some (.int t4), some (.int (cond b5 1 0)), some (.int (nI i)), o7], [], h, 198, sl) = some R := hh
  exact ⟨n, hh⟩
theorem v95_44_s {n fr lo sl cc gc : Nat} {q : QT} {h : pm_H} {R : pm_Rs} {t1 : Int32} {t2 : Int32} {t3 : Int32} {t4 : Int32} {b5 : Bool} {i : Nat} {o7 : Option Value} (hw : HC q cc gc h) (hi : i < cc) (hI : i < 1000000) (hh : pm_run PT n fr lo 95 (44, [some (.ref 0), some (.int t1), some (.int t2), some (.int t3), some (.int t4), some (.int (cond b5 1 0)), some (.int (nI i)), o7], [], h, 198, sl) = some R) : ∃ m w7, HC q cc gc ((v95_44b q cc gc h t1 t2 t3 t4 b5 i)) ∧ frm [14] [] h ((v95_44b q cc gc h t1 t2 t3 t4 b5 i)) ∧ pm_run PT m fr lo 95 (44, [some (.ref 0), some (.int t1), some (.int t2), some (.int t3), some (.int t4), some (.int (cond b5 1 0)), some (.int (nI (i + 1))), w7], [], (v95_44b q cc gc h t1 t2 t3 t4 b5 i), 198, sl) = some R := by
  have hcc := hw.cb
  have hgc := hw.gb
  have hzr := hw.zr
  obtain ⟨n, hh⟩ := rn_i rfl rfl rfl rfl hh
  obtain ⟨n, hh⟩ := rn_i rfl rfl rfl rfl hh
  have hh : pm_run PT n fr lo 95 (47, [some (.ref 0), some (.int t1), some (.int t2), some (.int t3), some (.int t4), some (.int (cond b5 1 0)), some (.int (nI i)), o7], [.ref 0, .int (nI i)], h, 198, sl) = some R := hh
  obtain ⟨n, hh⟩ := rn_gr hw.wt rfl rfl (by decide) rfl (by decide) (show _ = some (2, ((5 : Nat) : Int), 1) from rfl) rfl hh
  have hh : pm_run PT n fr lo 95 (50, [some (.ref 0), some (.int t1), some (.int t2), some (.int t3), some (.int t4), some (.int (cond b5 1 0)), some (.int (nI i)), o7], [.ref 5, .int (nI i)], h, 198, sl) = some R := hh
  obtain ⟨n, hh⟩ := rn_gi (x := nI cc) hw.wt rfl rfl (by decide) rfl (by decide) rfl hw.x0 hh
  have hh : pm_run PT n fr lo 95 (53, [some (.ref 0), some (.int t1), some (.int t2), some (.int t3), some (.int t4), some (.int (cond b5 1 0)), some (.int (nI i)), o7], [.int (nI cc), .int (nI i)], h, 198, sl) = some R := hh
  obtain ⟨n, hh⟩ := en_cn (cc := .ge) (off := 63) (t := 116) (b := decide (cc ≤ i)) (hI_ge (by omega) (by omega)) rfl rfl hh
  have hh := en_f (show decide (cc ≤ i) = false from decide_eq_false (by omega)) hh
  have hh : pm_run PT n fr lo 95 (56, [some (.ref 0), some (.int t1), some (.int t2), some (.int t3), some (.int t4), some (.int (cond b5 1 0)), some (.int (nI i)), o7], [], h, 198, sl) = some R := hh
  obtain ⟨n, hh⟩ := rn_i rfl rfl rfl rfl hh
  have hh : pm_run PT n fr lo 95 (58, [some (.ref 0), some (.int t1), some (.int t2), some (.int t3), some (.int t4), some (.int (cond b5 1 0)), some (.int (nI i)), o7], [.int (cond b5 1 0)], h, 198, sl) = some R := hh
  obtain ⟨n, hh⟩ := en_zn (cc := .ne) (off := 13) (t := 71) (b := b5) eb_ne rfl rfl hh
  have hj12 : ∃ mJ, pm_run PT mJ fr lo 95 (cond b5 (72, [some (.ref 0), some (.int t1), some (.int t2), some (.int t3), some (.int t4), some (.int (cond b5 1 0)), some (.int (nI i)), o7], [.int (nI 0)], h, 198, sl) (72, [some (.ref 0), some (.int t1), some (.int t2), some (.int t3), some (.int t4), some (.int (cond b5 1 0)), some (.int (nI i)), o7], [.int (cond (cond (pm_cmp .ge (nI i) t2) false true) 1 0)], h, 198, sl)) = some R := en_J (fun z9 => by
      have hh := en_t z9 hh
      have hh : pm_run PT n fr lo 95 (71, [some (.ref 0), some (.int t1), some (.int t2), some (.int t3), some (.int t4), some (.int (cond b5 1 0)), some (.int (nI i)), o7], [], h, 198, sl) = some R := hh
      obtain ⟨n, hh⟩ := rn_i rfl rfl rfl rfl hh
      exact ⟨n, hh⟩) (fun z9 => by
      have hh := en_f z9 hh
      have hh : pm_run PT n fr lo 95 (61, [some (.ref 0), some (.int t1), some (.int t2), some (.int t3), some (.int t4), some (.int (cond b5 1 0)), some (.int (nI i)), o7], [], h, 198, sl) = some R := hh
      obtain ⟨n, hh⟩ := rn_i rfl rfl rfl rfl hh
      obtain ⟨n, hh⟩ := rn_i rfl rfl rfl rfl hh
      have hh : pm_run PT n fr lo 95 (64, [some (.ref 0), some (.int t1), some (.int t2), some (.int t3), some (.int t4), some (.int (cond b5 1 0)), some (.int (nI i)), o7], [.int t2, .int (nI i)], h, 198, sl) = some R := hh
      obtain ⟨n, hh⟩ := en_cn (cc := .ge) (off := 7) (t := 71) (b := pm_cmp .ge (nI i) t2) rfl rfl rfl hh
      have hj11 : ∃ mJ, pm_run PT mJ fr lo 95 (cond (pm_cmp .ge (nI i) t2) (72, [some (.ref 0), some (.int t1), some (.int t2), some (.int t3), some (.int t4), some (.int (cond b5 1 0)), some (.int (nI i)), o7], [.int (nI 0)], h, 198, sl) (72, [some (.ref 0), some (.int t1), some (.int t2), some (.int t3), some (.int t4), some (.int (cond b5 1 0)), some (.int (nI i)), o7], [.int (nI 1)], h, 198, sl)) = some R := en_J (fun z10 => by
          have hh := en_t z10 hh
          have hh : pm_run PT n fr lo 95 (71, [some (.ref 0), some (.int t1), some (.int t2), some (.int t3), some (.int t4), some (.int (cond b5 1 0)), some (.int (nI i)), o7], [], h, 198, sl) = some R := hh
          obtain ⟨n, hh⟩ := rn_i rfl rfl rfl rfl hh
          exact ⟨n, hh⟩) (fun z10 => by
          have hh := en_f z10 hh
          have hh : pm_run PT n fr lo 95 (67, [some (.ref 0), some (.int t1), some (.int t2), some (.int t3), some (.int t4), some (.int (cond b5 1 0)), some (.int (nI i)), o7], [], h, 198, sl) = some R := hh
          obtain ⟨n, hh⟩ := rn_i rfl rfl rfl rfl hh
          obtain ⟨n, hh⟩ := rn_i rfl rfl rfl rfl hh
          exact ⟨n, hh⟩)
      obtain ⟨n, hh⟩ := hj11
      rw [show (cond (pm_cmp .ge (nI i) t2) (72, [some (.ref 0), some (.int t1), some (.int t2), some (.int t3), some (.int t4), some (.int (cond b5 1 0)), some (.int (nI i)), o7], [.int (nI 0)], h, 198, sl) (72, [some (.ref 0), some (.int t1), some (.int t2), some (.int t3), some (.int t4), some (.int (cond b5 1 0)), some (.int (nI i)), o7], [.int (nI 1)], h, 198, sl) : pm_St) = (72, [some (.ref 0), some (.int t1), some (.int t2), some (.int t3), some (.int t4), some (.int (cond b5 1 0)), some (.int (nI i)), o7], [.int (cond (cond (pm_cmp .ge (nI i) t2) false true) 1 0)], h, 198, sl) from by cases (pm_cmp .ge (nI i) t2) <;> rfl] at hh
      exact ⟨n, hh⟩)
  obtain ⟨n, hh⟩ := hj12
  rw [show (cond b5 (72, [some (.ref 0), some (.int t1), some (.int t2), some (.int t3), some (.int t4), some (.int (cond b5 1 0)), some (.int (nI i)), o7], [.int (nI 0)], h, 198, sl) (72, [some (.ref 0), some (.int t1), some (.int t2), some (.int t3), some (.int t4), some (.int (cond b5 1 0)), some (.int (nI i)), o7], [.int (cond (cond (pm_cmp .ge (nI i) t2) false true) 1 0)], h, 198, sl) : pm_St) = (72, [some (.ref 0), some (.int t1), some (.int t2), some (.int t3), some (.int t4), some (.int (cond b5 1 0)), some (.int (nI i)), o7], [.int (cond (cond b5 false (cond (pm_cmp .ge (nI i) t2) false true)) 1 0)], h, 198, sl) from by cases b5 <;> rfl] at hh
  obtain ⟨n, hh⟩ := rn_i rfl rfl rfl rfl hh
  obtain ⟨n, hh⟩ := rn_i rfl rfl rfl rfl hh
  have hh : pm_run PT n fr lo 95 (75, [some (.ref 0), some (.int t1), some (.int t2), some (.int t3), some (.int t4), some (.int (cond b5 1 0)), some (.int (nI i)), some (.int (cond (cond b5 false (cond (pm_cmp .ge (nI i) t2) false true)) 1 0))], [.ref 0], h, 198, sl) = some R := hh
  obtain ⟨n, hh⟩ := rn_gr hw.wt rfl rfl (by decide) rfl (by decide) (show _ = some (2, ((13 : Nat) : Int), 1) from rfl) rfl hh
  have hh : pm_run PT n fr lo 95 (78, [some (.ref 0), some (.int t1), some (.int t2), some (.int t3), some (.int t4), some (.int (cond b5 1 0)), some (.int (nI i)), some (.int (cond (cond b5 false (cond (pm_cmp .ge (nI i) t2) false true)) 1 0))], [.ref 13], h, 198, sl) = some R := hh
  obtain ⟨n, hh⟩ := rn_gr hw.wt rfl rfl (by decide) rfl (by decide) (show _ = some (2, ((14 : Nat) : Int), 1) from rfl) rfl hh
  obtain ⟨n, hh⟩ := rn_i rfl rfl rfl rfl hh
  obtain ⟨n, hh⟩ := rn_i rfl rfl rfl rfl hh
  have hh : pm_run PT n fr lo 95 (85, [some (.ref 0), some (.int t1), some (.int t2), some (.int t3), some (.int t4), some (.int (cond b5 1 0)), some (.int (nI i)), some (.int (cond (cond b5 false (cond (pm_cmp .ge (nI i) t2) false true)) 1 0))], [.int (cond (cond b5 false (cond (pm_cmp .ge (nI i) t2) false true)) 1 0), .int (nI i), .ref 14], h, 198, sl) = some R := hh
  obtain ⟨n, hh⟩ := en_zn (cc := .eq) (off := 23) (t := 108) (b := !(cond b5 false (cond (pm_cmp .ge (nI i) t2) false true))) eb_eq rfl rfl hh
  have hj16 : ∃ mJ, pm_run PT mJ fr lo 95 (cond (cond b5 false (cond (pm_cmp .ge (nI i) t2) false true)) (109, [some (.ref 0), some (.int t1), some (.int t2), some (.int t3), some (.int t4), some (.int (cond b5 1 0)), some (.int (nI i)), some (.int (cond (cond b5 false (cond (pm_cmp .ge (nI i) t2) false true)) 1 0))], [.int (imax (nI 0) (imin (nI 999) (v157t q cc gc t1 (t3 + ((nI i) * t4))))), .int (nI i), .ref 14], h, 198, sl) (109, [some (.ref 0), some (.int t1), some (.int t2), some (.int t3), some (.int t4), some (.int (cond b5 1 0)), some (.int (nI i)), some (.int (cond (cond b5 false (cond (pm_cmp .ge (nI i) t2) false true)) 1 0))], [.int (nI 0), .int (nI i), .ref 14], h, 198, sl)) = some R := en_J (fun z13 => by
      have hh := en_nt z13 hh
      have hh : pm_run PT n fr lo 95 (88, [some (.ref 0), some (.int t1), some (.int t2), some (.int t3), some (.int t4), some (.int (cond b5 1 0)), some (.int (nI i)), some (.int (cond (cond b5 false (cond (pm_cmp .ge (nI i) t2) false true)) 1 0))], [.int (nI i), .ref 14], h, 198, sl) = some R := hh
      obtain ⟨n, hh⟩ := rn_i rfl rfl rfl rfl hh
      obtain ⟨n, hh⟩ := rn_i rfl rfl rfl rfl hh
      obtain ⟨n, hh⟩ := rn_i rfl rfl rfl rfl hh
      obtain ⟨n, hh⟩ := rn_i rfl rfl rfl rfl hh
      obtain ⟨n, hh⟩ := rn_i rfl rfl rfl rfl hh
      obtain ⟨n, hh⟩ := rn_i rfl rfl rfl rfl hh
      have hh : pm_run PT n fr lo 95 (96, [some (.ref 0), some (.int t1), some (.int t2), some (.int t3), some (.int t4), some (.int (cond b5 1 0)), some (.int (nI i)), some (.int (cond (cond b5 false (cond (pm_cmp .ge (nI i) t2) false true)) 1 0))], [.int (t3 + ((nI i) * t4)), .int t1, .int (nI i), .ref 14], h, 198, sl) = some R := hh
      obtain ⟨n, fr1, lo1, r1, hh1, hh⟩ := rn_call (w := 2) (t := 157) rfl rfl hh
      have er14 := v157t_ok (k := t1) (e := (t3 + ((nI i) * t4))) hw hh1
      subst er14
      obtain ⟨n, hh⟩ := rn_i rfl rfl rfl rfl hh
      have hh : pm_run PT n fr lo 95 (102, [some (.ref 0), some (.int t1), some (.int t2), some (.int t3), some (.int t4), some (.int (cond b5 1 0)), some (.int (nI i)), some (.int (cond (cond b5 false (cond (pm_cmp .ge (nI i) t2) false true)) 1 0))], [.int (nI 999), .int (v157t q cc gc t1 (t3 + ((nI i) * t4))), .int (nI i), .ref 14], h, 198, sl) = some R := hh
      obtain ⟨n, fr1, lo1, r1, hh1, hh⟩ := rn_call (w := 2) (t := 159) rfl rfl hh
      have hh1 : pm_run PT n fr1 lo1 159 (0, [some (.int (v157t q cc gc t1 (t3 + ((nI i) * t4)))), some (.int (nI 999))], [], h, 198, sl) = some r1 := hh1
      obtain ⟨n1, hh1⟩ := rn_i rfl rfl rfl rfl hh1
      obtain ⟨n1, hh1⟩ := rn_i rfl rfl rfl rfl hh1
      obtain ⟨n1, hh1⟩ := rn_i rfl rfl rfl rfl hh1
      have hh1 : pm_run PT n1 fr1 lo1 159 (3, [some (.int (v157t q cc gc t1 (t3 + ((nI i) * t4)))), some (.int (nI 999))], [.int (v157t q cc gc t1 (t3 + ((nI i) * t4))), .int (nI 999), .int (nI 0)], h, 198, sl) = some r1 := hh1
      obtain ⟨n1, hh1⟩ := en_min rfl rfl rfl hh1
      have hh1 : pm_run PT n1 fr1 lo1 159 (6, [some (.int (v157t q cc gc t1 (t3 + ((nI i) * t4)))), some (.int (nI 999))], [.int (imin (nI 999) (v157t q cc gc t1 (t3 + ((nI i) * t4)))), .int (nI 0)], h, 198, sl) = some r1 := hh1
      obtain ⟨n1, hh1⟩ := en_max rfl rfl rfl hh1
      have hh1 : pm_run PT n1 fr1 lo1 159 (9, [some (.int (v157t q cc gc t1 (t3 + ((nI i) * t4)))), some (.int (nI 999))], [.int (imax (nI 0) (imin (nI 999) (v157t q cc gc t1 (t3 + ((nI i) * t4)))))], h, 198, sl) = some r1 := hh1
      have er15 : r1 = (some (.int (imax (nI 0) (imin (nI 999) (v157t q cc gc t1 (t3 + ((nI i) * t4)))))), h, 198, sl) := (rn_ret rfl (Or.inl rfl) hh1).2
      subst er15
      obtain ⟨n, hh⟩ := rn_i rfl rfl rfl rfl hh
      exact ⟨n, hh⟩) (fun z13 => by
      have hh := en_nf z13 hh
      have hh : pm_run PT n fr lo 95 (108, [some (.ref 0), some (.int t1), some (.int t2), some (.int t3), some (.int t4), some (.int (cond b5 1 0)), some (.int (nI i)), some (.int (cond (cond b5 false (cond (pm_cmp .ge (nI i) t2) false true)) 1 0))], [.int (nI i), .ref 14], h, 198, sl) = some R := hh
      obtain ⟨n, hh⟩ := rn_i rfl rfl rfl rfl hh
      exact ⟨n, hh⟩)
  obtain ⟨n, hh⟩ := hj16
  rw [show (cond (cond b5 false (cond (pm_cmp .ge (nI i) t2) false true)) (109, [some (.ref 0), some (.int t1), some (.int t2), some (.int t3), some (.int t4), some (.int (cond b5 1 0)), some (.int (nI i)), some (.int (cond (cond b5 false (cond (pm_cmp .ge (nI i) t2) false true)) 1 0))], [.int (imax (nI 0) (imin (nI 999) (v157t q cc gc t1 (t3 + ((nI i) * t4))))), .int (nI i), .ref 14], h, 198, sl) (109, [some (.ref 0), some (.int t1), some (.int t2), some (.int t3), some (.int t4), some (.int (cond b5 1 0)), some (.int (nI i)), some (.int (cond (cond b5 false (cond (pm_cmp .ge (nI i) t2) false true)) 1 0))], [.int (nI 0), .int (nI i), .ref 14], h, 198, sl) : pm_St) = (109, [some (.ref 0), some (.int t1), some (.int t2), some (.int t3), some (.int t4), some (.int (cond b5 1 0)), some (.int (nI i)), some (.int (cond (cond b5 false (cond (pm_cmp .ge (nI i) t2) false true)) 1 0))], [.int (cond (cond b5 false (cond (pm_cmp .ge (nI i) t2) false true)) (imax (nI 0) (imin (nI 999) (v157t q cc gc t1 (t3 + ((nI i) * t4))))) (nI 0)), .int (nI i), .ref 14], h, 198, sl) from by cases (cond b5 false (cond (pm_cmp .ge (nI i) t2) false true)) <;> rfl] at hh
  have hh : pm_run PT n fr lo 95 (109, [some (.ref 0), some (.int t1), some (.int t2), some (.int t3), some (.int t4), some (.int (cond b5 1 0)), some (.int (nI i)), some (.int (cond (cond b5 false (cond (pm_cmp .ge (nI i) t2) false true)) 1 0))], [.int (cond (cond b5 false (cond (pm_cmp .ge (nI i) t2) false true)) (imax (nI 0) (imin (nI 999) (v157t q cc gc t1 (t3 + ((nI i) * t4))))) (nI 0)), .int (nI i), .ref 14], h, 198, sl) = some R := hh
  obtain ⟨n, hx17, hh⟩ := en_st (t := i) (f := Ar h 14) (nI_clamp (by omega)) hw.wt rfl (by decide) rfl (by decide) rfl hh
  have hh : pm_run PT n fr lo 95 (110, [some (.ref 0), some (.int t1), some (.int t2), some (.int t3), some (.int t4), some (.int (cond b5 1 0)), some (.int (nI i)), some (.int (cond (cond b5 false (cond (pm_cmp .ge (nI i) t2) false true)) 1 0))], [], aset h 14 6 (upd (Ar h 14) i (cond (cond b5 false (cond (pm_cmp .ge (nI i) t2) false true)) (imax (nI 0) (imin (nI 999) (v157t q cc gc t1 (t3 + ((nI i) * t4))))) (nI 0))), 198, sl) = some R := hh
  obtain ⟨n, hh⟩ := en_inc (x := i) (c := 1) (j := 6) rfl rfl (by decide) hh
  have hh : pm_run PT n fr lo 95 (113, [some (.ref 0), some (.int t1), some (.int t2), some (.int t3), some (.int t4), some (.int (cond b5 1 0)), some (.int (nI (i + 1))), some (.int (cond (cond b5 false (cond (pm_cmp .ge (nI i) t2) false true)) 1 0))], [], aset h 14 6 (upd (Ar h 14) i (cond (cond b5 false (cond (pm_cmp .ge (nI i) t2) false true)) (imax (nI 0) (imin (nI 999) (v157t q cc gc t1 (t3 + ((nI i) * t4))))) (nI 0))), 198, sl) = some R := hh
  obtain ⟨n, hh⟩ := rn_i rfl rfl rfl rfl hh
  have ed : v95_44b q cc gc h t1 t2 t3 t4 b5 i = aset h 14 6 (upd (Ar h 14) i (cond (cond b5 false (cond (pm_cmp .ge (nI i) t2) false true)) (imax (nI 0) (imin (nI 999) (v157t q cc gc t1 (t3 + ((nI i) * t4))))) (nI 0))) := rfl
  rw [ed]
  exact ⟨n, some (.int (cond (cond b5 false (cond (pm_cmp .ge (nI i) t2) false true)) 1 0)), (hc_a rfl rfl hw), (fr_a rfl rfl fr_0), hh⟩
theorem v95_44_ok {fr lo sl cc gc : Nat} {q : QT} {R : pm_Rs} {t1 : Int32} {t2 : Int32} {t3 : Int32} {t4 : Int32} {b5 : Bool} : ∀ {j i : Nat} {o7 : Option Value} {h : pm_H} {n : Nat}, cc - i = j → i + j < 1000000 → HC q cc gc h → pm_run PT n fr lo 95 (44, [some (.ref 0), some (.int t1), some (.int t2), some (.int t3), some (.int t4), some (.int (cond b5 1 0)), some (.int (nI i)), o7], [], h, 198, sl) = some R → ∃ m wc w7, HC q cc gc ((v95_44 q cc gc t1 t2 t3 t4 b5 j i h)) ∧ frm [14] [] h ((v95_44 q cc gc t1 t2 t3 t4 b5 j i h)) ∧ pm_run PT m fr lo 95 (116, [some (.ref 0), some (.int t1), some (.int t2), some (.int t3), some (.int t4), some (.int (cond b5 1 0)), wc, w7], [], (v95_44 q cc gc t1 t2 t3 t4 b5 j i h), 198, sl) = some R := by
  intro j
  induction j with
  | zero =>
    intro i o7 h n e eI hw hh
    obtain ⟨n, hh⟩ := v95_44_e hw (by omega) (by omega) hh
    exact ⟨n, _, o7, hw, fr_0, hh⟩
  | succ j ih =>
    intro i o7 h n e eI hw hh
    obtain ⟨n, w7, hc, hf, hh⟩ := v95_44_s hw (by omega) (by omega) hh
    obtain ⟨n, wc, v7, hc2, hf2, hh⟩ := ih (by omega) (by omega) hc hh
    exact ⟨n, wc, v7, hc2, fr_t hf2 hf, hh⟩
def v95 (q : QT) (cc gc : Nat) (h : pm_H) (k : Int32) (m : Int32) (e : Int32) (s : Int32) : Int32 × pm_H := cond (pm_cmp .lt k 0) ((Int32.ofInt (-1)), h) (cond (pm_cmp .gt k (nI 3)) ((Int32.ofInt (-1)), h) (cond (pm_cmp .le m (nI 6)) (cond (cond (pm_cmp .ne k (nI 3)) false true) (cond (cond (pm_cmp .ne k (nI 3)) false true) (Int32.ofInt (-3)) (v36 q cc gc (Ar (v95_44 q cc gc k m e s (cond (pm_cmp .ne k (nI 3)) false true) cc 0 h) 14)), (v95_44 q cc gc k m e s (cond (pm_cmp .ne k (nI 3)) false true) cc 0 h)) (cond (pm_cmp .ge m 0) (cond (cond (pm_cmp .ne k (nI 3)) false true) (Int32.ofInt (-3)) (v36 q cc gc (Ar (v95_44 q cc gc k m e s (cond (pm_cmp .ne k (nI 3)) false true) cc 0 h) 14)), (v95_44 q cc gc k m e s (cond (pm_cmp .ne k (nI 3)) false true) cc 0 h)) ((Int32.ofInt (-2)), h))) ((Int32.ofInt (-1)), h)))
theorem v95_ok {n fr lo sl cc gc : Nat} {q : QT} {h : pm_H} {R : pm_Rs} {k : Int32} {m : Int32} {e : Int32} {s : Int32} (hw : HC q cc gc h) (hh : pm_run PT n fr lo 95 (0, pm_l0 [.ref 0, .int k, .int m, .int e, .int s] 8, [], h, 198, sl) = some R) : R = (some (.int ((v95 q cc gc h k m e s).1)), (v95 q cc gc h k m e s).2, 198, sl) ∧ HC q cc gc ((v95 q cc gc h k m e s).2) ∧ frm [14] [] h ((v95 q cc gc h k m e s).2) := by
  have hcc := hw.cb
  have hgc := hw.gb
  have hzr := hw.zr
  obtain ⟨n, hh⟩ := rn_i rfl rfl rfl rfl hh
  have hh : pm_run PT n fr lo 95 (1, [some (.ref 0), some (.int k), some (.int m), some (.int e), some (.int s), none, none, none], [.int k], h, 198, sl) = some R := hh
  obtain ⟨n, hh⟩ := en_zn (cc := .lt) (off := 14) (t := 15) (b := pm_cmp .lt k 0) rfl rfl rfl hh
  cases z1 : pm_cmp .lt k 0 with
  | true =>
    have hh := en_t z1 hh
    have hh : pm_run PT n fr lo 95 (15, [some (.ref 0), some (.int k), some (.int m), some (.int e), some (.int s), none, none, none], [], h, 198, sl) = some R := hh
    obtain ⟨n, hh⟩ := rn_i rfl rfl rfl rfl hh
    have hh : pm_run PT n fr lo 95 (16, [some (.ref 0), some (.int k), some (.int m), some (.int e), some (.int s), none, none, none], [.int (Int32.ofInt (-1))], h, 198, sl) = some R := hh
    have er2 : R = (some (.int (Int32.ofInt (-1))), h, 198, sl) := (rn_ret rfl (Or.inl rfl) hh).2
    have ed : v95 q cc gc h k m e s = ((Int32.ofInt (-1)), h) := (ct z1).trans rfl
    refine ⟨?_, ?_, ?_⟩ <;> rw [ed]
    · exact er2
    · exact hw
    · exact fr_0
  | false =>
    have hh := en_f z1 hh
    have hh : pm_run PT n fr lo 95 (4, [some (.ref 0), some (.int k), some (.int m), some (.int e), some (.int s), none, none, none], [], h, 198, sl) = some R := hh
    obtain ⟨n, hh⟩ := rn_i rfl rfl rfl rfl hh
    obtain ⟨n, hh⟩ := rn_i rfl rfl rfl rfl hh
    have hh : pm_run PT n fr lo 95 (6, [some (.ref 0), some (.int k), some (.int m), some (.int e), some (.int s), none, none, none], [.int (nI 3), .int k], h, 198, sl) = some R := hh
    obtain ⟨n, hh⟩ := en_cn (cc := .gt) (off := 9) (t := 15) (b := pm_cmp .gt k (nI 3)) rfl rfl rfl hh
    cases z3 : pm_cmp .gt k (nI 3) with
    | true =>
      have hh := en_t z3 hh
      have hh : pm_run PT n fr lo 95 (15, [some (.ref 0), some (.int k), some (.int m), some (.int e), some (.int s), none, none, none], [], h, 198, sl) = some R := hh
      obtain ⟨n, hh⟩ := rn_i rfl rfl rfl rfl hh
      have hh : pm_run PT n fr lo 95 (16, [some (.ref 0), some (.int k), some (.int m), some (.int e), some (.int s), none, none, none], [.int (Int32.ofInt (-1))], h, 198, sl) = some R := hh
      have er4 : R = (some (.int (Int32.ofInt (-1))), h, 198, sl) := (rn_ret rfl (Or.inl rfl) hh).2
      have ed : v95 q cc gc h k m e s = ((Int32.ofInt (-1)), h) := (cf z1).trans ((ct z3).trans rfl)
      refine ⟨?_, ?_, ?_⟩ <;> rw [ed]
      · exact er4
      · exact hw
      · exact fr_0
    | false =>
      have hh := en_f z3 hh
      have hh : pm_run PT n fr lo 95 (9, [some (.ref 0), some (.int k), some (.int m), some (.int e), some (.int s), none, none, none], [], h, 198, sl) = some R := hh
      obtain ⟨n, hh⟩ := rn_i rfl rfl rfl rfl hh
      obtain ⟨n, hh⟩ := rn_i rfl rfl rfl rfl hh
      have hh : pm_run PT n fr lo 95 (12, [some (.ref 0), some (.int k), some (.int m), some (.int e), some (.int s), none, none, none], [.int (nI 6), .int m], h, 198, sl) = some R := hh
      obtain ⟨n, hh⟩ := en_cn (cc := .le) (off := 5) (t := 17) (b := pm_cmp .le m (nI 6)) rfl rfl rfl hh
      cases z5 : pm_cmp .le m (nI 6) with
      | true =>
        have hh := en_t z5 hh
        have hh : pm_run PT n fr lo 95 (17, [some (.ref 0), some (.int k), some (.int m), some (.int e), some (.int s), none, none, none], [], h, 198, sl) = some R := hh
        obtain ⟨n, hh⟩ := rn_i rfl rfl rfl rfl hh
        obtain ⟨n, hh⟩ := rn_i rfl rfl rfl rfl hh
        have hh : pm_run PT n fr lo 95 (19, [some (.ref 0), some (.int k), some (.int m), some (.int e), some (.int s), none, none, none], [.int (nI 3), .int k], h, 198, sl) = some R := hh
        obtain ⟨n, hh⟩ := en_cn (cc := .ne) (off := 7) (t := 26) (b := pm_cmp .ne k (nI 3)) rfl rfl rfl hh
        have hj7 : ∃ mJ, pm_run PT mJ fr lo 95 (cond (pm_cmp .ne k (nI 3)) (27, [some (.ref 0), some (.int k), some (.int m), some (.int e), some (.int s), none, none, none], [.int (nI 0)], h, 198, sl) (27, [some (.ref 0), some (.int k), some (.int m), some (.int e), some (.int s), none, none, none], [.int (nI 1)], h, 198, sl)) = some R := en_J (fun z6 => by
            have hh := en_t z6 hh
            have hh : pm_run PT n fr lo 95 (26, [some (.ref 0), some (.int k), some (.int m), some (.int e), some (.int s), none, none, none], [], h, 198, sl) = some R := hh
            obtain ⟨n, hh⟩ := rn_i rfl rfl rfl rfl hh
            exact ⟨n, hh⟩) (fun z6 => by
            have hh := en_f z6 hh
            have hh : pm_run PT n fr lo 95 (22, [some (.ref 0), some (.int k), some (.int m), some (.int e), some (.int s), none, none, none], [], h, 198, sl) = some R := hh
            obtain ⟨n, hh⟩ := rn_i rfl rfl rfl rfl hh
            obtain ⟨n, hh⟩ := rn_i rfl rfl rfl rfl hh
            exact ⟨n, hh⟩)
        obtain ⟨n, hh⟩ := hj7
        rw [show (cond (pm_cmp .ne k (nI 3)) (27, [some (.ref 0), some (.int k), some (.int m), some (.int e), some (.int s), none, none, none], [.int (nI 0)], h, 198, sl) (27, [some (.ref 0), some (.int k), some (.int m), some (.int e), some (.int s), none, none, none], [.int (nI 1)], h, 198, sl) : pm_St) = (27, [some (.ref 0), some (.int k), some (.int m), some (.int e), some (.int s), none, none, none], [.int (cond (cond (pm_cmp .ne k (nI 3)) false true) 1 0)], h, 198, sl) from by cases (pm_cmp .ne k (nI 3)) <;> rfl] at hh
        obtain ⟨n, hh⟩ := rn_i rfl rfl rfl rfl hh
        obtain ⟨n, hh⟩ := rn_i rfl rfl rfl rfl hh
        have hh : pm_run PT n fr lo 95 (31, [some (.ref 0), some (.int k), some (.int m), some (.int e), some (.int s), some (.int (cond (cond (pm_cmp .ne k (nI 3)) false true) 1 0)), none, none], [.int (cond (cond (pm_cmp .ne k (nI 3)) false true) 1 0)], h, 198, sl) = some R := hh
        obtain ⟨n, hh⟩ := en_zn (cc := .ne) (off := 10) (t := 41) (b := cond (pm_cmp .ne k (nI 3)) false true) eb_ne rfl rfl hh
        cases z8 : cond (pm_cmp .ne k (nI 3)) false true with
        | true =>
          have hh := en_t z8 hh
          have hh : pm_run PT n fr lo 95 (41, [some (.ref 0), some (.int k), some (.int m), some (.int e), some (.int s), some (.int (cond (cond (pm_cmp .ne k (nI 3)) false true) 1 0)), none, none], [], h, 198, sl) = some R := hh
          obtain ⟨n, hh⟩ := rn_i rfl rfl rfl rfl hh
          obtain ⟨n, hh⟩ := rn_i rfl rfl rfl rfl hh
          have hh : pm_run PT n fr lo 95 (44, [some (.ref 0), some (.int k), some (.int m), some (.int e), some (.int s), some (.int (cond (cond (pm_cmp .ne k (nI 3)) false true) 1 0)), some (.int (nI 0)), none], [], h, 198, sl) = some R := hh
          obtain ⟨n, u10, u9, hc11, hf12, hh⟩ := v95_44_ok (t1 := k) (t2 := m) (t3 := e) (t4 := s) (b5 := (cond (pm_cmp .ne k (nI 3)) false true))  (i := 0) (o7 := none) (j := cc) (by omega) (by omega) hw hh
          have hh : pm_run PT n fr lo 95 (116, [some (.ref 0), some (.int k), some (.int m), some (.int e), some (.int s), some (.int (cond (cond (pm_cmp .ne k (nI 3)) false true) 1 0)), u10, u9], [], (v95_44 q cc gc k m e s (cond (pm_cmp .ne k (nI 3)) false true) cc 0 h), 198, sl) = some R := hh
          obtain ⟨n, hh⟩ := rn_i rfl rfl rfl rfl hh
          have hh : pm_run PT n fr lo 95 (118, [some (.ref 0), some (.int k), some (.int m), some (.int e), some (.int s), some (.int (cond (cond (pm_cmp .ne k (nI 3)) false true) 1 0)), u10, u9], [.int (cond (cond (pm_cmp .ne k (nI 3)) false true) 1 0)], (v95_44 q cc gc k m e s (cond (pm_cmp .ne k (nI 3)) false true) cc 0 h), 198, sl) = some R := hh
          obtain ⟨n, hh⟩ := en_zn (cc := .eq) (off := 8) (t := 126) (b := !(cond (pm_cmp .ne k (nI 3)) false true)) eb_eq rfl rfl hh
          have hj15 : ∃ mJ, pm_run PT mJ fr lo 95 (cond (cond (pm_cmp .ne k (nI 3)) false true) (137, [some (.ref 0), some (.int k), some (.int m), some (.int e), some (.int s), some (.int (cond (cond (pm_cmp .ne k (nI 3)) false true) 1 0)), u10, u9], [.int (Int32.ofInt (-3))], (v95_44 q cc gc k m e s (cond (pm_cmp .ne k (nI 3)) false true) cc 0 h), 198, sl) (137, [some (.ref 0), some (.int k), some (.int m), some (.int e), some (.int s), some (.int (cond (cond (pm_cmp .ne k (nI 3)) false true) 1 0)), u10, u9], [.int (v36 q cc gc (Ar (v95_44 q cc gc k m e s (cond (pm_cmp .ne k (nI 3)) false true) cc 0 h) 14))], (v95_44 q cc gc k m e s (cond (pm_cmp .ne k (nI 3)) false true) cc 0 h), 198, sl)) = some R := en_J (fun z13 => by
              have hh := en_nt z13 hh
              have hh : pm_run PT n fr lo 95 (121, [some (.ref 0), some (.int k), some (.int m), some (.int e), some (.int s), some (.int (cond (cond (pm_cmp .ne k (nI 3)) false true) 1 0)), u10, u9], [], (v95_44 q cc gc k m e s (cond (pm_cmp .ne k (nI 3)) false true) cc 0 h), 198, sl) = some R := hh
              obtain ⟨n, hh⟩ := rn_i rfl rfl rfl rfl hh
              obtain ⟨n, hh⟩ := rn_i rfl rfl rfl rfl hh
              exact ⟨n, hh⟩) (fun z13 => by
              have hh := en_nf z13 hh
              have hh : pm_run PT n fr lo 95 (126, [some (.ref 0), some (.int k), some (.int m), some (.int e), some (.int s), some (.int (cond (cond (pm_cmp .ne k (nI 3)) false true) 1 0)), u10, u9], [], (v95_44 q cc gc k m e s (cond (pm_cmp .ne k (nI 3)) false true) cc 0 h), 198, sl) = some R := hh
              obtain ⟨n, hh⟩ := rn_i rfl rfl rfl rfl hh
              have hh : pm_run PT n fr lo 95 (127, [some (.ref 0), some (.int k), some (.int m), some (.int e), some (.int s), some (.int (cond (cond (pm_cmp .ne k (nI 3)) false true) 1 0)), u10, u9], [.ref 0], (v95_44 q cc gc k m e s (cond (pm_cmp .ne k (nI 3)) false true) cc 0 h), 198, sl) = some R := hh
              obtain ⟨n, hh⟩ := rn_gr hc11.wt rfl rfl (by decide) rfl (by decide) (show _ = some (2, ((5 : Nat) : Int), 1) from rfl) rfl hh
              obtain ⟨n, hh⟩ := rn_i rfl rfl rfl rfl hh
              have hh : pm_run PT n fr lo 95 (131, [some (.ref 0), some (.int k), some (.int m), some (.int e), some (.int s), some (.int (cond (cond (pm_cmp .ne k (nI 3)) false true) 1 0)), u10, u9], [.ref 0, .ref 5], (v95_44 q cc gc k m e s (cond (pm_cmp .ne k (nI 3)) false true) cc 0 h), 198, sl) = some R := hh
              obtain ⟨n, hh⟩ := rn_gr hc11.wt rfl rfl (by decide) rfl (by decide) (show _ = some (2, ((13 : Nat) : Int), 1) from rfl) rfl hh
              have hh : pm_run PT n fr lo 95 (134, [some (.ref 0), some (.int k), some (.int m), some (.int e), some (.int s), some (.int (cond (cond (pm_cmp .ne k (nI 3)) false true) 1 0)), u10, u9], [.ref 13, .ref 5], (v95_44 q cc gc k m e s (cond (pm_cmp .ne k (nI 3)) false true) cc 0 h), 198, sl) = some R := hh
              obtain ⟨n, fr1, lo1, r1, hh1, hh⟩ := rn_call (w := 0) (t := 36) rfl rfl hh
              have er14 := v36_ok hc11 hh1
              subst er14
              exact ⟨n, hh⟩)
          obtain ⟨n, hh⟩ := hj15
          rw [show (cond (cond (pm_cmp .ne k (nI 3)) false true) (137, [some (.ref 0), some (.int k), some (.int m), some (.int e), some (.int s), some (.int (cond (cond (pm_cmp .ne k (nI 3)) false true) 1 0)), u10, u9], [.int (Int32.ofInt (-3))], (v95_44 q cc gc k m e s (cond (pm_cmp .ne k (nI 3)) false true) cc 0 h), 198, sl) (137, [some (.ref 0), some (.int k), some (.int m), some (.int e), some (.int s), some (.int (cond (cond (pm_cmp .ne k (nI 3)) false true) 1 0)), u10, u9], [.int (v36 q cc gc (Ar (v95_44 q cc gc k m e s (cond (pm_cmp .ne k (nI 3)) false true) cc 0 h) 14))], (v95_44 q cc gc k m e s (cond (pm_cmp .ne k (nI 3)) false true) cc 0 h), 198, sl) : pm_St) = (137, [some (.ref 0), some (.int k), some (.int m), some (.int e), some (.int s), some (.int (cond (cond (pm_cmp .ne k (nI 3)) false true) 1 0)), u10, u9], [.int (cond (cond (pm_cmp .ne k (nI 3)) false true) (Int32.ofInt (-3)) (v36 q cc gc (Ar (v95_44 q cc gc k m e s (cond (pm_cmp .ne k (nI 3)) false true) cc 0 h) 14)))], (v95_44 q cc gc k m e s (cond (pm_cmp .ne k (nI 3)) false true) cc 0 h), 198, sl) from by cases (cond (pm_cmp .ne k (nI 3)) false true) <;> rfl] at hh
          have hh : pm_run PT n fr lo 95 (137, [some (.ref 0), some (.int k), some (.int m), some (.int e), some (.int s), some (.int (cond (cond (pm_cmp .ne k (nI 3)) false true) 1 0)), u10, u9], [.int (cond (cond (pm_cmp .ne k (nI 3)) false true) (Int32.ofInt (-3)) (v36 q cc gc (Ar (v95_44 q cc gc k m e s (cond (pm_cmp .ne k (nI 3)) false true) cc 0 h) 14)))], (v95_44 q cc gc k m e s (cond (pm_cmp .ne k (nI 3)) false true) cc 0 h), 198, sl) = some R := hh
          have er16 : R = (some (.int (cond (cond (pm_cmp .ne k (nI 3)) false true) (Int32.ofInt (-3)) (v36 q cc gc (Ar (v95_44 q cc gc k m e s (cond (pm_cmp .ne k (nI 3)) false true) cc 0 h) 14)))), (v95_44 q cc gc k m e s (cond (pm_cmp .ne k (nI 3)) false true) cc 0 h), 198, sl) := (rn_ret rfl (Or.inl rfl) hh).2
          have ed : v95 q cc gc h k m e s = (cond (cond (pm_cmp .ne k (nI 3)) false true) (Int32.ofInt (-3)) (v36 q cc gc (Ar (v95_44 q cc gc k m e s (cond (pm_cmp .ne k (nI 3)) false true) cc 0 h) 14)), (v95_44 q cc gc k m e s (cond (pm_cmp .ne k (nI 3)) false true) cc 0 h)) := (cf z1).trans ((cf z3).trans ((ct z5).trans ((ct z8).trans rfl)))
          refine ⟨?_, ?_, ?_⟩ <;> rw [ed]
          · exact er16
          · exact hc11
          · exact (fr_g rfl rfl hf12 fr_0)
        | false =>
          have hh := en_f z8 hh
          have hh : pm_run PT n fr lo 95 (34, [some (.ref 0), some (.int k), some (.int m), some (.int e), some (.int s), some (.int (cond (cond (pm_cmp .ne k (nI 3)) false true) 1 0)), none, none], [], h, 198, sl) = some R := hh
          obtain ⟨n, hh⟩ := rn_i rfl rfl rfl rfl hh
          have hh : pm_run PT n fr lo 95 (35, [some (.ref 0), some (.int k), some (.int m), some (.int e), some (.int s), some (.int (cond (cond (pm_cmp .ne k (nI 3)) false true) 1 0)), none, none], [.int m], h, 198, sl) = some R := hh
          obtain ⟨n, hh⟩ := en_zn (cc := .ge) (off := 6) (t := 41) (b := pm_cmp .ge m 0) rfl rfl rfl hh
          cases z17 : pm_cmp .ge m 0 with
          | true =>
            have hh := en_t z17 hh
            have hh : pm_run PT n fr lo 95 (41, [some (.ref 0), some (.int k), some (.int m), some (.int e), some (.int s), some (.int (cond (cond (pm_cmp .ne k (nI 3)) false true) 1 0)), none, none], [], h, 198, sl) = some R := hh
            obtain ⟨n, hh⟩ := rn_i rfl rfl rfl rfl hh
            obtain ⟨n, hh⟩ := rn_i rfl rfl rfl rfl hh
            have hh : pm_run PT n fr lo 95 (44, [some (.ref 0), some (.int k), some (.int m), some (.int e), some (.int s), some (.int (cond (cond (pm_cmp .ne k (nI 3)) false true) 1 0)), some (.int (nI 0)), none], [], h, 198, sl) = some R := hh
            obtain ⟨n, u19, u18, hc20, hf21, hh⟩ := v95_44_ok (t1 := k) (t2 := m) (t3 := e) (t4 := s) (b5 := (cond (pm_cmp .ne k (nI 3)) false true))  (i := 0) (o7 := none) (j := cc) (by omega) (by omega) hw hh
            have hh : pm_run PT n fr lo 95 (116, [some (.ref 0), some (.int k), some (.int m), some (.int e), some (.int s), some (.int (cond (cond (pm_cmp .ne k (nI 3)) false true) 1 0)), u19, u18], [], (v95_44 q cc gc k m e s (cond (pm_cmp .ne k (nI 3)) false true) cc 0 h), 198, sl) = some R := hh
            obtain ⟨n, hh⟩ := rn_i rfl rfl rfl rfl hh
            have hh : pm_run PT n fr lo 95 (118, [some (.ref 0), some (.int k), some (.int m), some (.int e), some (.int s), some (.int (cond (cond (pm_cmp .ne k (nI 3)) false true) 1 0)), u19, u18], [.int (cond (cond (pm_cmp .ne k (nI 3)) false true) 1 0)], (v95_44 q cc gc k m e s (cond (pm_cmp .ne k (nI 3)) false true) cc 0 h), 198, sl) = some R := hh
            obtain ⟨n, hh⟩ := en_zn (cc := .eq) (off := 8) (t := 126) (b := !(cond (pm_cmp .ne k (nI 3)) false true)) eb_eq rfl rfl hh
            have hj24 : ∃ mJ, pm_run PT mJ fr lo 95 (cond (cond (pm_cmp .ne k (nI 3)) false true) (137, [some (.ref 0), some (.int k), some (.int m), some (.int e), some (.int s), some (.int (cond (cond (pm_cmp .ne k (nI 3)) false true) 1 0)), u19, u18], [.int (Int32.ofInt (-3))], (v95_44 q cc gc k m e s (cond (pm_cmp .ne k (nI 3)) false true) cc 0 h), 198, sl) (137, [some (.ref 0), some (.int k), some (.int m), some (.int e), some (.int s), some (.int (cond (cond (pm_cmp .ne k (nI 3)) false true) 1 0)), u19, u18], [.int (v36 q cc gc (Ar (v95_44 q cc gc k m e s (cond (pm_cmp .ne k (nI 3)) false true) cc 0 h) 14))], (v95_44 q cc gc k m e s (cond (pm_cmp .ne k (nI 3)) false true) cc 0 h), 198, sl)) = some R := en_J (fun z22 => by
                have hh := en_nt z22 hh
                have hh : pm_run PT n fr lo 95 (121, [some (.ref 0), some (.int k), some (.int m), some (.int e), some (.int s), some (.int (cond (cond (pm_cmp .ne k (nI 3)) false true) 1 0)), u19, u18], [], (v95_44 q cc gc k m e s (cond (pm_cmp .ne k (nI 3)) false true) cc 0 h), 198, sl) = some R := hh
                obtain ⟨n, hh⟩ := rn_i rfl rfl rfl rfl hh
                obtain ⟨n, hh⟩ := rn_i rfl rfl rfl rfl hh
                exact ⟨n, hh⟩) (fun z22 => by
                have hh := en_nf z22 hh
                have hh : pm_run PT n fr lo 95 (126, [some (.ref 0), some (.int k), some (.int m), some (.int e), some (.int s), some (.int (cond (cond (pm_cmp .ne k (nI 3)) false true) 1 0)), u19, u18], [], (v95_44 q cc gc k m e s (cond (pm_cmp .ne k (nI 3)) false true) cc 0 h), 198, sl) = some R := hh
                obtain ⟨n, hh⟩ := rn_i rfl rfl rfl rfl hh
                have hh : pm_run PT n fr lo 95 (127, [some (.ref 0), some (.int k), some (.int m), some (.int e), some (.int s), some (.int (cond (cond (pm_cmp .ne k (nI 3)) false true) 1 0)), u19, u18], [.ref 0], (v95_44 q cc gc k m e s (cond (pm_cmp .ne k (nI 3)) false true) cc 0 h), 198, sl) = some R := hh
                obtain ⟨n, hh⟩ := rn_gr hc20.wt rfl rfl (by decide) rfl (by decide) (show _ = some (2, ((5 : Nat) : Int), 1) from rfl) rfl hh
                obtain ⟨n, hh⟩ := rn_i rfl rfl rfl rfl hh
                have hh : pm_run PT n fr lo 95 (131, [some (.ref 0), some (.int k), some (.int m), some (.int e), some (.int s), some (.int (cond (cond (pm_cmp .ne k (nI 3)) false true) 1 0)), u19, u18], [.ref 0, .ref 5], (v95_44 q cc gc k m e s (cond (pm_cmp .ne k (nI 3)) false true) cc 0 h), 198, sl) = some R := hh
                obtain ⟨n, hh⟩ := rn_gr hc20.wt rfl rfl (by decide) rfl (by decide) (show _ = some (2, ((13 : Nat) : Int), 1) from rfl) rfl hh
                have hh : pm_run PT n fr lo 95 (134, [some (.ref 0), some (.int k), some (.int m), some (.int e), some (.int s), some (.int (cond (cond (pm_cmp .ne k (nI 3)) false true) 1 0)), u19, u18], [.ref 13, .ref 5], (v95_44 q cc gc k m e s (cond (pm_cmp .ne k (nI 3)) false true) cc 0 h), 198, sl) = some R := hh
                obtain ⟨n, fr1, lo1, r1, hh1, hh⟩ := rn_call (w := 0) (t := 36) rfl rfl hh
                have er23 := v36_ok hc20 hh1
                subst er23
                exact ⟨n, hh⟩)
            obtain ⟨n, hh⟩ := hj24
            rw [show (cond (cond (pm_cmp .ne k (nI 3)) false true) (137, [some (.ref 0), some (.int k), some (.int m), some (.int e), some (.int s), some (.int (cond (cond (pm_cmp .ne k (nI 3)) false true) 1 0)), u19, u18], [.int (Int32.ofInt (-3))], (v95_44 q cc gc k m e s (cond (pm_cmp .ne k (nI 3)) false true) cc 0 h), 198, sl) (137, [some (.ref 0), some (.int k), some (.int m), some (.int e), some (.int s), some (.int (cond (cond (pm_cmp .ne k (nI 3)) false true) 1 0)), u19, u18], [.int (v36 q cc gc (Ar (v95_44 q cc gc k m e s (cond (pm_cmp .ne k (nI 3)) false true) cc 0 h) 14))], (v95_44 q cc gc k m e s (cond (pm_cmp .ne k (nI 3)) false true) cc 0 h), 198, sl) : pm_St) = (137, [some (.ref 0), some (.int k), some (.int m), some (.int e), some (.int s), some (.int (cond (cond (pm_cmp .ne k (nI 3)) false true) 1 0)), u19, u18], [.int (cond (cond (pm_cmp .ne k (nI 3)) false true) (Int32.ofInt (-3)) (v36 q cc gc (Ar (v95_44 q cc gc k m e s (cond (pm_cmp .ne k (nI 3)) false true) cc 0 h) 14)))], (v95_44 q cc gc k m e s (cond (pm_cmp .ne k (nI 3)) false true) cc 0 h), 198, sl) from by cases (cond (pm_cmp .ne k (nI 3)) false true) <;> rfl] at hh
            have hh : pm_run PT n fr lo 95 (137, [some (.ref 0), some (.int k), some (.int m), some (.int e), some (.int s), some (.int (cond (cond (pm_cmp .ne k (nI 3)) false true) 1 0)), u19, u18], [.int (cond (cond (pm_cmp .ne k (nI 3)) false true) (Int32.ofInt (-3)) (v36 q cc gc (Ar (v95_44 q cc gc k m e s (cond (pm_cmp .ne k (nI 3)) false true) cc 0 h) 14)))], (v95_44 q cc gc k m e s (cond (pm_cmp .ne k (nI 3)) false true) cc 0 h), 198, sl) = some R := hh
            have er25 : R = (some (.int (cond (cond (pm_cmp .ne k (nI 3)) false true) (Int32.ofInt (-3)) (v36 q cc gc (Ar (v95_44 q cc gc k m e s (cond (pm_cmp .ne k (nI 3)) false true) cc 0 h) 14)))), (v95_44 q cc gc k m e s (cond (pm_cmp .ne k (nI 3)) false true) cc 0 h), 198, sl) := (rn_ret rfl (Or.inl rfl) hh).2
            have ed : v95 q cc gc h k m e s = (cond (cond (pm_cmp .ne k (nI 3)) false true) (Int32.ofInt (-3)) (v36 q cc gc (Ar (v95_44 q cc gc k m e s (cond (pm_cmp .ne k (nI 3)) false true) cc 0 h) 14)), (v95_44 q cc gc k m e s (cond (pm_cmp .ne k (nI 3)) false true) cc 0 h)) := (cf z1).trans ((cf z3).trans ((ct z5).trans ((cf z8).trans ((ct z17).trans rfl))))
            refine ⟨?_, ?_, ?_⟩ <;> rw [ed]
            · exact er25
            · exact hc20
            · exact (fr_g rfl rfl hf21 fr_0)
          | false =>
            have hh := en_f z17 hh
            have hh : pm_run PT n fr lo 95 (38, [some (.ref 0), some (.int k), some (.int m), some (.int e), some (.int s), some (.int (cond (cond (pm_cmp .ne k (nI 3)) false true) 1 0)), none, none], [], h, 198, sl) = some R := hh
            obtain ⟨n, hh⟩ := rn_i rfl rfl rfl rfl hh
            have hh : pm_run PT n fr lo 95 (40, [some (.ref 0), some (.int k), some (.int m), some (.int e), some (.int s), some (.int (cond (cond (pm_cmp .ne k (nI 3)) false true) 1 0)), none, none], [.int (Int32.ofInt (-2))], h, 198, sl) = some R := hh
            have er26 : R = (some (.int (Int32.ofInt (-2))), h, 198, sl) := (rn_ret rfl (Or.inl rfl) hh).2
            have ed : v95 q cc gc h k m e s = ((Int32.ofInt (-2)), h) := (cf z1).trans ((cf z3).trans ((ct z5).trans ((cf z8).trans ((cf z17).trans rfl))))
            refine ⟨?_, ?_, ?_⟩ <;> rw [ed]
            · exact er26
            · exact hw
            · exact fr_0
      | false =>
        have hh := en_f z5 hh
        have hh : pm_run PT n fr lo 95 (15, [some (.ref 0), some (.int k), some (.int m), some (.int e), some (.int s), none, none, none], [], h, 198, sl) = some R := hh
        obtain ⟨n, hh⟩ := rn_i rfl rfl rfl rfl hh
        have hh : pm_run PT n fr lo 95 (16, [some (.ref 0), some (.int k), some (.int m), some (.int e), some (.int s), none, none, none], [.int (Int32.ofInt (-1))], h, 198, sl) = some R := hh
        have er27 : R = (some (.int (Int32.ofInt (-1))), h, 198, sl) := (rn_ret rfl (Or.inl rfl) hh).2
        have ed : v95 q cc gc h k m e s = ((Int32.ofInt (-1)), h) := (cf z1).trans ((cf z3).trans ((cf z5).trans rfl))
        refine ⟨?_, ?_, ?_⟩ <;> rw [ed]
        · exact er27
        · exact hw
        · exact fr_0
def v102 (q : QT) (cc gc : Nat) (h : pm_H) (g : Nat) (c : Nat) : Int32 × pm_H := cond (decide (g < gc)) (cond (decide (c < cc)) ((v39 q cc gc h g c).1, (v39 q cc gc h g c).2) ((Int32.ofInt (-1)), h)) ((Int32.ofInt (-1)), h)
theorem v102_ok {n fr lo sl cc gc : Nat} {q : QT} {h : pm_H} {R : pm_Rs} {g : Nat} {c : Nat} (hw : HC q cc gc h) (h_g : g < 10000) (h_c : c < 10000) (hh : pm_run PT n fr lo 102 (0, pm_l0 [.ref 0, .int (nI g), .int (nI c)] 3, [], h, 198, sl) = some R) : R = (some (.int ((v102 q cc gc h g c).1)), (v102 q cc gc h g c).2, 198, sl) ∧ HC q cc gc ((v102 q cc gc h g c).2) ∧ frm [12, 142, 144, 145, 147] [(142, 3), (145, 3)] h ((v102 q cc gc h g c).2) := by
  have hcc := hw.cb
  have hgc := hw.gb
  have hzr := hw.zr
  obtain ⟨n, hh⟩ := rn_i rfl rfl rfl rfl hh
  have hh : pm_run PT n fr lo 102 (1, [some (.ref 0), some (.int (nI g)), some (.int (nI c))], [.ref 0], h, 198, sl) = some R := hh
  obtain ⟨n, hh⟩ := rn_gr hw.wt rfl rfl (by decide) rfl (by decide) (show _ = some (2, ((5 : Nat) : Int), 1) from rfl) rfl hh
  obtain ⟨n, hh⟩ := rn_i rfl rfl rfl rfl hh
  have hh : pm_run PT n fr lo 102 (5, [some (.ref 0), some (.int (nI g)), some (.int (nI c))], [.int (nI g), .ref 5], h, 198, sl) = some R := hh
  obtain ⟨n, fr1, lo1, r1, hh1, hh⟩ := rn_call (w := 0) (t := 25) rfl rfl hh
  have er1 := en_xg hgc (hc_rG hw) hh1
  rw [cB_n (by omega)] at er1
  subst er1
  have hh : pm_run PT n fr lo 102 (8, [some (.ref 0), some (.int (nI g)), some (.int (nI c))], [.int (cond (decide (g < gc)) 1 0)], h, 198, sl) = some R := hh
  obtain ⟨n, hh⟩ := en_zn (cc := .eq) (off := 14) (t := 22) (b := !(decide (g < gc))) eb_eq rfl rfl hh
  cases z2 : decide (g < gc) with
  | true =>
    have hh := en_nt z2 hh
    have hh : pm_run PT n fr lo 102 (11, [some (.ref 0), some (.int (nI g)), some (.int (nI c))], [], h, 198, sl) = some R := hh
    have y3 := of_decide_eq_true z2
    obtain ⟨n, hh⟩ := rn_i rfl rfl rfl rfl hh
    have hh : pm_run PT n fr lo 102 (12, [some (.ref 0), some (.int (nI g)), some (.int (nI c))], [.ref 0], h, 198, sl) = some R := hh
    obtain ⟨n, hh⟩ := rn_gr hw.wt rfl rfl (by decide) rfl (by decide) (show _ = some (2, ((5 : Nat) : Int), 1) from rfl) rfl hh
    obtain ⟨n, hh⟩ := rn_i rfl rfl rfl rfl hh
    have hh : pm_run PT n fr lo 102 (16, [some (.ref 0), some (.int (nI g)), some (.int (nI c))], [.int (nI c), .ref 5], h, 198, sl) = some R := hh
    obtain ⟨n, fr1, lo1, r1, hh1, hh⟩ := rn_call (w := 0) (t := 23) rfl rfl hh
    have er4 := xi_run hcc (hc_rC hw) hh1
    rw [cB_n (by omega)] at er4
    subst er4
    have hh : pm_run PT n fr lo 102 (19, [some (.ref 0), some (.int (nI g)), some (.int (nI c))], [.int (cond (decide (c < cc)) 1 0)], h, 198, sl) = some R := hh
    obtain ⟨n, hh⟩ := en_zn (cc := .ne) (off := 5) (t := 24) (b := decide (c < cc)) eb_ne rfl rfl hh
    cases z5 : decide (c < cc) with
    | true =>
      have hh := en_t z5 hh
      have hh : pm_run PT n fr lo 102 (24, [some (.ref 0), some (.int (nI g)), some (.int (nI c))], [], h, 198, sl) = some R := hh
      have y6 := of_decide_eq_true z5
      obtain ⟨n, hh⟩ := rn_i rfl rfl rfl rfl hh
      have hh : pm_run PT n fr lo 102 (25, [some (.ref 0), some (.int (nI g)), some (.int (nI c))], [.ref 0], h, 198, sl) = some R := hh
      obtain ⟨n, hh⟩ := rn_gr hw.wt rfl rfl (by decide) rfl (by decide) (show _ = some (2, ((5 : Nat) : Int), 1) from rfl) rfl hh
      obtain ⟨n, hh⟩ := rn_i rfl rfl rfl rfl hh
      have hh : pm_run PT n fr lo 102 (29, [some (.ref 0), some (.int (nI g)), some (.int (nI c))], [.ref 0, .ref 5], h, 198, sl) = some R := hh
      obtain ⟨n, hh⟩ := en_q hw rfl rfl hh
      obtain ⟨n, hh⟩ := rn_i rfl rfl rfl rfl hh
      have hh : pm_run PT n fr lo 102 (33, [some (.ref 0), some (.int (nI g)), some (.int (nI c))], [.ref 0, .ref q.1, .ref 5], h, 198, sl) = some R := hh
      obtain ⟨n, hh⟩ := rn_gr hw.wt rfl rfl (by decide) rfl (by decide) (show _ = some (2, ((13 : Nat) : Int), 1) from rfl) rfl hh
      obtain ⟨n, hh⟩ := rn_i rfl rfl rfl rfl hh
      obtain ⟨n, hh⟩ := rn_i rfl rfl rfl rfl hh
      have hh : pm_run PT n fr lo 102 (38, [some (.ref 0), some (.int (nI g)), some (.int (nI c))], [.int (nI c), .int (nI g), .ref 13, .ref q.1, .ref 5], h, 198, sl) = some R := hh
      obtain ⟨n, fr1, lo1, r1, hh1, hh⟩ := rn_call (w := 0) (t := 39) rfl rfl hh
      obtain ⟨er7, hc8, hf9⟩ := v39_ok (g := g) (c := c) hw (by omega) (by omega) hh1
      subst er7
      have hh : pm_run PT n fr lo 102 (41, [some (.ref 0), some (.int (nI g)), some (.int (nI c))], [.int ((v39 q cc gc h g c).1)], (v39 q cc gc h g c).2, 198, sl) = some R := hh
      have er10 : R = (some (.int ((v39 q cc gc h g c).1)), (v39 q cc gc h g c).2, 198, sl) := (rn_ret rfl (Or.inl rfl) hh).2
      have ed : v102 q cc gc h g c = ((v39 q cc gc h g c).1, (v39 q cc gc h g c).2) := (ct z2).trans ((ct z5).trans rfl)
      refine ⟨?_, ?_, ?_⟩ <;> rw [ed]
      · exact er10
      · exact hc8
      · exact (fr_g rfl rfl hf9 fr_0)
    | false =>
      have hh := en_f z5 hh
      have hh : pm_run PT n fr lo 102 (22, [some (.ref 0), some (.int (nI g)), some (.int (nI c))], [], h, 198, sl) = some R := hh
      have y11 := of_decide_eq_false z5
      obtain ⟨n, hh⟩ := rn_i rfl rfl rfl rfl hh
      have hh : pm_run PT n fr lo 102 (23, [some (.ref 0), some (.int (nI g)), some (.int (nI c))], [.int (Int32.ofInt (-1))], h, 198, sl) = some R := hh
      have er12 : R = (some (.int (Int32.ofInt (-1))), h, 198, sl) := (rn_ret rfl (Or.inl rfl) hh).2
      have ed : v102 q cc gc h g c = ((Int32.ofInt (-1)), h) := (ct z2).trans ((cf z5).trans rfl)
      refine ⟨?_, ?_, ?_⟩ <;> rw [ed]
      · exact er12
      · exact hw
      · exact fr_0
  | false =>
    have hh := en_nf z2 hh
    have hh : pm_run PT n fr lo 102 (22, [some (.ref 0), some (.int (nI g)), some (.int (nI c))], [], h, 198, sl) = some R := hh
    have y13 := of_decide_eq_false z2
    obtain ⟨n, hh⟩ := rn_i rfl rfl rfl rfl hh
    have hh : pm_run PT n fr lo 102 (23, [some (.ref 0), some (.int (nI g)), some (.int (nI c))], [.int (Int32.ofInt (-1))], h, 198, sl) = some R := hh
    have er14 : R = (some (.int (Int32.ofInt (-1))), h, 198, sl) := (rn_ret rfl (Or.inl rfl) hh).2
    have ed : v102 q cc gc h g c = ((Int32.ofInt (-1)), h) := (cf z2).trans rfl
    refine ⟨?_, ?_, ?_⟩ <;> rw [ed]
    · exact er14
    · exact hw
    · exact fr_0
def v103_26b (q : QT) (cc gc : Nat) (h : pm_H) (m1 : Nat) (i : Nat) (x2 : Int32) (x3 : Int32) (x4 : Int32) : Int32 × Int32 × Int32 × pm_H := cond (pm_cmp .eq (nI i) ((Ar h 17) m1)) (x2, x3, x4, h) (cond (pm_cmp .le ((v39 q cc gc h m1 i).1) x3) x2 (nI i), cond (pm_cmp .le ((v39 q cc gc h m1 i).1) x3) x3 ((v39 q cc gc h m1 i).1), imin x4 ((v39 q cc gc h m1 i).1), (v39 q cc gc h m1 i).2)
def v103_26 (q : QT) (cc gc : Nat) (m1 : Nat) (j i : Nat) (a : Int32 × Int32 × Int32 × pm_H) : Int32 × Int32 × Int32 × pm_H := lp (fun i a => v103_26b q cc gc a.2.2.2 m1 i a.1 a.2.1 a.2.2.1) j i a
theorem v103_26_e {n fr lo sl cc gc : Nat} {q : QT} {h : pm_H} {R : pm_Rs} {m1 : Nat} {i : Nat} {x2 : Int32} {x3 : Int32} {x4 : Int32} {o6 : Option Value} (hw : HC q cc gc h) (h_m1 : m1 < 10000) (hi : cc ≤ i) (hI : i < 1000000) (hh : pm_run PT n fr lo 103 (26, [some (.ref 0), some (.int (nI m1)), some (.int x2), some (.int x3), some (.int x4), some (.int (nI i)), o6], [], h, 198, sl) = some R) : ∃ m, pm_run PT m fr lo 103 (99, [some (.ref 0), some (.int (nI m1)), some (.int x2), some (.int x3), some (.int x4), some (.int (nI i)), o6], [], h, 198, sl) = some R := by
  have hcc := hw.cb
  have hgc := hw.gb
  have hzr := hw.zr
  obtain ⟨n, hh⟩ := rn_i rfl rfl rfl rfl hh
  obtain ⟨n, hh⟩ := rn_i rfl rfl rfl rfl hh
  have hh : pm_run PT n fr lo 103 (29, [some (.ref 0), some (.int (nI m1)), some (.int x2), some (.int x3), some (.int x4), some (.int (nI i)), o6], [.ref 0, .int (nI i)], h, 198, sl) = some R := hh
  obtain ⟨n, hh⟩ := rn_gr hw.wt rfl rfl (by decide) rfl (by decide) (show _ = some (2, ((5 : Nat) : Int), 1) from rfl) rfl hh
  have hh : pm_run PT n fr lo 103 (32, [some (.ref 0), some (.int (nI m1)), some (.int x2), some (.int x3), some (.int x4), some (.int (nI i)), o6], [.ref 5, .int (nI i)], h, 198, sl) = some R := hh
  obtain ⟨n, hh⟩ := rn_gi (x := nI cc) hw.wt rfl rfl (by decide) rfl (by decide) rfl hw.x0 hh
  have hh : pm_run PT n fr lo 103 (35, [some (.ref 0), some (.int (nI m1)), some (.int x2), some (.int x3), some (.int x4), some (.int (nI i)), o6], [.int (nI cc), .int (nI i)], h, 198, sl) = some R := hh
  obtain ⟨n, hh⟩ := en_cn (cc := .ge) (off := 64) (t := 99) (b := decide (cc ≤ i)) (hI_ge (by omega) (by omega)) rfl rfl hh
  have hh := en_t (show decide (cc ≤ i) = true from decide_eq_true (by omega)) hh
  have hh : pm_run PT n fr lo 103 (99, [some (.ref 0), some (.int (nI m1)), some (.int x2), some (.int x3), some (.int x4), some (.int (nI i)), o6], [], h, 198, sl) = some R := hh
  exact ⟨n, hh⟩
theorem v103_26_s {n fr lo sl cc gc : Nat} {q : QT} {h : pm_H} {R : pm_Rs} {m1 : Nat} {i : Nat} {x2 : Int32} {x3 : Int32} {x4 : Int32} {o6 : Option Value} (hw : HC q cc gc h) (h_m1 : m1 < 10000) (hi : i < cc) (hI : i < 1000000) (hh : pm_run PT n fr lo 103 (26, [some (.ref 0), some (.int (nI m1)), some (.int x2), some (.int x3), some (.int x4), some (.int (nI i)), o6], [], h, 198, sl) = some R) : ∃ m w6, HC q cc gc ((v103_26b q cc gc h m1 i x2 x3 x4).2.2.2) ∧ frm [12, 142, 144, 145, 147] [(142, 3), (145, 3)] h ((v103_26b q cc gc h m1 i x2 x3 x4).2.2.2) ∧ pm_run PT m fr lo 103 (26, [some (.ref 0), some (.int (nI m1)), some (.int ((v103_26b q cc gc h m1 i x2 x3 x4).1)), some (.int ((v103_26b q cc gc h m1 i x2 x3 x4).2.1)), some (.int ((v103_26b q cc gc h m1 i x2 x3 x4).2.2.1)), some (.int (nI (i + 1))), w6], [], (v103_26b q cc gc h m1 i x2 x3 x4).2.2.2, 198, sl) = some R := by
  have hcc := hw.cb
  have hgc := hw.gb
  have hzr := hw.zr
  obtain ⟨n, hh⟩ := rn_i rfl rfl rfl rfl hh
  obtain ⟨n, hh⟩ := rn_i rfl rfl rfl rfl hh
  have hh : pm_run PT n fr lo 103 (29, [some (.ref 0), some (.int (nI m1)), some (.int x2), some (.int x3), some (.int x4), some (.int (nI i)), o6], [.ref 0, .int (nI i)], h, 198, sl) = some R := hh
  obtain ⟨n, hh⟩ := rn_gr hw.wt rfl rfl (by decide) rfl (by decide) (show _ = some (2, ((5 : Nat) : Int), 1) from rfl) rfl hh
  have hh : pm_run PT n fr lo 103 (32, [some (.ref 0), some (.int (nI m1)), some (.int x2), some (.int x3), some (.int x4), some (.int (nI i)), o6], [.ref 5, .int (nI i)], h, 198, sl) = some R := hh
  obtain ⟨n, hh⟩ := rn_gi (x := nI cc) hw.wt rfl rfl (by decide) rfl (by decide) rfl hw.x0 hh
  have hh : pm_run PT n fr lo 103 (35, [some (.ref 0), some (.int (nI m1)), some (.int x2), some (.int x3), some (.int x4), some (.int (nI i)), o6], [.int (nI cc), .int (nI i)], h, 198, sl) = some R := hh
  obtain ⟨n, hh⟩ := en_cn (cc := .ge) (off := 64) (t := 99) (b := decide (cc ≤ i)) (hI_ge (by omega) (by omega)) rfl rfl hh
  have hh := en_f (show decide (cc ≤ i) = false from decide_eq_false (by omega)) hh
  have hh : pm_run PT n fr lo 103 (38, [some (.ref 0), some (.int (nI m1)), some (.int x2), some (.int x3), some (.int x4), some (.int (nI i)), o6], [], h, 198, sl) = some R := hh
  obtain ⟨n, hh⟩ := rn_i rfl rfl rfl rfl hh
  obtain ⟨n, hh⟩ := rn_i rfl rfl rfl rfl hh
  have hh : pm_run PT n fr lo 103 (41, [some (.ref 0), some (.int (nI m1)), some (.int x2), some (.int x3), some (.int x4), some (.int (nI i)), o6], [.ref 0, .int (nI i)], h, 198, sl) = some R := hh
  obtain ⟨n, hh⟩ := rn_gr hw.wt rfl rfl (by decide) rfl (by decide) (show _ = some (2, ((13 : Nat) : Int), 1) from rfl) rfl hh
  have hh : pm_run PT n fr lo 103 (44, [some (.ref 0), some (.int (nI m1)), some (.int x2), some (.int x3), some (.int x4), some (.int (nI i)), o6], [.ref 13, .int (nI i)], h, 198, sl) = some R := hh
  obtain ⟨n, hh⟩ := rn_gr hw.wt rfl rfl (by decide) rfl (by decide) (show _ = some (2, ((17 : Nat) : Int), 1) from rfl) rfl hh
  obtain ⟨n, hh⟩ := rn_i rfl rfl rfl rfl hh
  have hh : pm_run PT n fr lo 103 (48, [some (.ref 0), some (.int (nI m1)), some (.int x2), some (.int x3), some (.int x4), some (.int (nI i)), o6], [.int (nI m1), .ref 17, .int (nI i)], h, 198, sl) = some R := hh
  obtain ⟨n, hx4, hh⟩ := en_lu (t := m1) (f := Ar h 17) (w := (Ar h 17) m1) (nI_clamp (by omega)) hw.wt rfl (by decide) rfl (by decide) rfl (fun _ => rfl) hh
  have hh : pm_run PT n fr lo 103 (49, [some (.ref 0), some (.int (nI m1)), some (.int x2), some (.int x3), some (.int x4), some (.int (nI i)), o6], [.int ((Ar h 17) m1), .int (nI i)], h, 198, sl) = some R := hh
  obtain ⟨n, hh⟩ := en_cn (cc := .eq) (off := 44) (t := 93) (b := pm_cmp .eq (nI i) ((Ar h 17) m1)) rfl rfl rfl hh
  cases z5 : pm_cmp .eq (nI i) ((Ar h 17) m1) with
  | true =>
    have hh := en_t z5 hh
    have hh : pm_run PT n fr lo 103 (93, [some (.ref 0), some (.int (nI m1)), some (.int x2), some (.int x3), some (.int x4), some (.int (nI i)), o6], [], h, 198, sl) = some R := hh
    have hh : pm_run PT n fr lo 103 (93, [some (.ref 0), some (.int (nI m1)), some (.int x2), some (.int x3), some (.int x4), some (.int (nI i)), o6], [], h, 198, sl) = some R := hh
    obtain ⟨n, hh⟩ := en_inc (x := i) (c := 1) (j := 5) rfl rfl (by decide) hh
    have hh : pm_run PT n fr lo 103 (96, [some (.ref 0), some (.int (nI m1)), some (.int x2), some (.int x3), some (.int x4), some (.int (nI (i + 1))), o6], [], h, 198, sl) = some R := hh
    obtain ⟨n, hh⟩ := rn_i rfl rfl rfl rfl hh
    have ed : v103_26b q cc gc h m1 i x2 x3 x4 = (x2, x3, x4, h) := (ct z5).trans rfl
    rw [ed]
    exact ⟨n, o6, hw, fr_0, hh⟩
  | false =>
    have hh := en_f z5 hh
    have hh : pm_run PT n fr lo 103 (52, [some (.ref 0), some (.int (nI m1)), some (.int x2), some (.int x3), some (.int x4), some (.int (nI i)), o6], [], h, 198, sl) = some R := hh
    obtain ⟨n, hh⟩ := rn_i rfl rfl rfl rfl hh
    have hh : pm_run PT n fr lo 103 (53, [some (.ref 0), some (.int (nI m1)), some (.int x2), some (.int x3), some (.int x4), some (.int (nI i)), o6], [.ref 0], h, 198, sl) = some R := hh
    obtain ⟨n, hh⟩ := rn_gr hw.wt rfl rfl (by decide) rfl (by decide) (show _ = some (2, ((5 : Nat) : Int), 1) from rfl) rfl hh
    obtain ⟨n, hh⟩ := rn_i rfl rfl rfl rfl hh
    have hh : pm_run PT n fr lo 103 (57, [some (.ref 0), some (.int (nI m1)), some (.int x2), some (.int x3), some (.int x4), some (.int (nI i)), o6], [.ref 0, .ref 5], h, 198, sl) = some R := hh
    obtain ⟨n, hh⟩ := en_q hw rfl rfl hh
    obtain ⟨n, hh⟩ := rn_i rfl rfl rfl rfl hh
    have hh : pm_run PT n fr lo 103 (61, [some (.ref 0), some (.int (nI m1)), some (.int x2), some (.int x3), some (.int x4), some (.int (nI i)), o6], [.ref 0, .ref q.1, .ref 5], h, 198, sl) = some R := hh
    obtain ⟨n, hh⟩ := rn_gr hw.wt rfl rfl (by decide) rfl (by decide) (show _ = some (2, ((13 : Nat) : Int), 1) from rfl) rfl hh
    obtain ⟨n, hh⟩ := rn_i rfl rfl rfl rfl hh
    obtain ⟨n, hh⟩ := rn_i rfl rfl rfl rfl hh
    have hh : pm_run PT n fr lo 103 (67, [some (.ref 0), some (.int (nI m1)), some (.int x2), some (.int x3), some (.int x4), some (.int (nI i)), o6], [.int (nI i), .int (nI m1), .ref 13, .ref q.1, .ref 5], h, 198, sl) = some R := hh
    obtain ⟨n, fr1, lo1, r1, hh1, hh⟩ := rn_call (w := 0) (t := 39) rfl rfl hh
    obtain ⟨er6, hc7, hf8⟩ := v39_ok (g := m1) (c := i) hw (by omega) (by omega) hh1
    subst er6
    obtain ⟨n, hh⟩ := rn_i rfl rfl rfl rfl hh
    obtain ⟨n, hh⟩ := rn_i rfl rfl rfl rfl hh
    obtain ⟨n, hh⟩ := rn_i rfl rfl rfl rfl hh
    have hh : pm_run PT n fr lo 103 (75, [some (.ref 0), some (.int (nI m1)), some (.int x2), some (.int x3), some (.int x4), some (.int (nI i)), some (.int ((v39 q cc gc h m1 i).1))], [.int x3, .int ((v39 q cc gc h m1 i).1)], (v39 q cc gc h m1 i).2, 198, sl) = some R := hh
    obtain ⟨n, hh⟩ := en_cn (cc := .le) (off := 9) (t := 84) (b := pm_cmp .le ((v39 q cc gc h m1 i).1) x3) rfl rfl rfl hh
    have hj10 : ∃ mJ, pm_run PT mJ fr lo 103 (cond (pm_cmp .le ((v39 q cc gc h m1 i).1) x3) (84, [some (.ref 0), some (.int (nI m1)), some (.int x2), some (.int x3), some (.int x4), some (.int (nI i)), some (.int ((v39 q cc gc h m1 i).1))], [], (v39 q cc gc h m1 i).2, 198, sl) (84, [some (.ref 0), some (.int (nI m1)), some (.int (nI i)), some (.int ((v39 q cc gc h m1 i).1)), some (.int x4), some (.int (nI i)), some (.int ((v39 q cc gc h m1 i).1))], [], (v39 q cc gc h m1 i).2, 198, sl)) = some R := en_J (fun z9 => by
        have hh := en_t z9 hh
        have hh : pm_run PT n fr lo 103 (84, [some (.ref 0), some (.int (nI m1)), some (.int x2), some (.int x3), some (.int x4), some (.int (nI i)), some (.int ((v39 q cc gc h m1 i).1))], [], (v39 q cc gc h m1 i).2, 198, sl) = some R := hh
        exact ⟨n, hh⟩) (fun z9 => by
        have hh := en_f z9 hh
        have hh : pm_run PT n fr lo 103 (78, [some (.ref 0), some (.int (nI m1)), some (.int x2), some (.int x3), some (.int x4), some (.int (nI i)), some (.int ((v39 q cc gc h m1 i).1))], [], (v39 q cc gc h m1 i).2, 198, sl) = some R := hh
        obtain ⟨n, hh⟩ := rn_i rfl rfl rfl rfl hh
        obtain ⟨n, hh⟩ := rn_i rfl rfl rfl rfl hh
        obtain ⟨n, hh⟩ := rn_i rfl rfl rfl rfl hh
        obtain ⟨n, hh⟩ := rn_i rfl rfl rfl rfl hh
        exact ⟨n, hh⟩)
    obtain ⟨n, hh⟩ := hj10
    rw [show (cond (pm_cmp .le ((v39 q cc gc h m1 i).1) x3) (84, [some (.ref 0), some (.int (nI m1)), some (.int x2), some (.int x3), some (.int x4), some (.int (nI i)), some (.int ((v39 q cc gc h m1 i).1))], [], (v39 q cc gc h m1 i).2, 198, sl) (84, [some (.ref 0), some (.int (nI m1)), some (.int (nI i)), some (.int ((v39 q cc gc h m1 i).1)), some (.int x4), some (.int (nI i)), some (.int ((v39 q cc gc h m1 i).1))], [], (v39 q cc gc h m1 i).2, 198, sl) : pm_St) = (84, [some (.ref 0), some (.int (nI m1)), some (.int (cond (pm_cmp .le ((v39 q cc gc h m1 i).1) x3) x2 (nI i))), some (.int (cond (pm_cmp .le ((v39 q cc gc h m1 i).1) x3) x3 ((v39 q cc gc h m1 i).1))), some (.int x4), some (.int (nI i)), some (.int ((v39 q cc gc h m1 i).1))], [], (v39 q cc gc h m1 i).2, 198, sl) from by cases (pm_cmp .le ((v39 q cc gc h m1 i).1) x3) <;> rfl] at hh
    obtain ⟨n, hh⟩ := rn_i rfl rfl rfl rfl hh
    obtain ⟨n, hh⟩ := rn_i rfl rfl rfl rfl hh
    have hh : pm_run PT n fr lo 103 (88, [some (.ref 0), some (.int (nI m1)), some (.int (cond (pm_cmp .le ((v39 q cc gc h m1 i).1) x3) x2 (nI i))), some (.int (cond (pm_cmp .le ((v39 q cc gc h m1 i).1) x3) x3 ((v39 q cc gc h m1 i).1))), some (.int x4), some (.int (nI i)), some (.int ((v39 q cc gc h m1 i).1))], [.int ((v39 q cc gc h m1 i).1), .int x4], (v39 q cc gc h m1 i).2, 198, sl) = some R := hh
    obtain ⟨n, hh⟩ := en_min rfl rfl rfl hh
    obtain ⟨n, hh⟩ := rn_i rfl rfl rfl rfl hh
    have hh : pm_run PT n fr lo 103 (93, [some (.ref 0), some (.int (nI m1)), some (.int (cond (pm_cmp .le ((v39 q cc gc h m1 i).1) x3) x2 (nI i))), some (.int (cond (pm_cmp .le ((v39 q cc gc h m1 i).1) x3) x3 ((v39 q cc gc h m1 i).1))), some (.int (imin x4 ((v39 q cc gc h m1 i).1))), some (.int (nI i)), some (.int ((v39 q cc gc h m1 i).1))], [], (v39 q cc gc h m1 i).2, 198, sl) = some R := hh
    obtain ⟨n, hh⟩ := en_inc (x := i) (c := 1) (j := 5) rfl rfl (by decide) hh
    have hh : pm_run PT n fr lo 103 (96, [some (.ref 0), some (.int (nI m1)), some (.int (cond (pm_cmp .le ((v39 q cc gc h m1 i).1) x3) x2 (nI i))), some (.int (cond (pm_cmp .le ((v39 q cc gc h m1 i).1) x3) x3 ((v39 q cc gc h m1 i).1))), some (.int (imin x4 ((v39 q cc gc h m1 i).1))), some (.int (nI (i + 1))), some (.int ((v39 q cc gc h m1 i).1))], [], (v39 q cc gc h m1 i).2, 198, sl) = some R := hh
    obtain ⟨n, hh⟩ := rn_i rfl rfl rfl rfl hh
    have ed : v103_26b q cc gc h m1 i x2 x3 x4 = (cond (pm_cmp .le ((v39 q cc gc h m1 i).1) x3) x2 (nI i), cond (pm_cmp .le ((v39 q cc gc h m1 i).1) x3) x3 ((v39 q cc gc h m1 i).1), imin x4 ((v39 q cc gc h m1 i).1), (v39 q cc gc h m1 i).2) := (cf z5).trans rfl
    rw [ed]
    exact ⟨n, some (.int ((v39 q cc gc h m1 i).1)), hc7, (fr_g rfl rfl hf8 fr_0), hh⟩
theorem v103_26_ok {fr lo sl cc gc : Nat} {q : QT} {R : pm_Rs} {m1 : Nat} : ∀ {j i : Nat} {x2 : Int32} {x3 : Int32} {x4 : Int32} {o6 : Option Value} {h : pm_H} {n : Nat}, cc - i = j → i + j < 1000000 → HC q cc gc h → m1 < 10000 → pm_run PT n fr lo 103 (26, [some (.ref 0), some (.int (nI m1)), some (.int x2), some (.int x3), some (.int x4), some (.int (nI i)), o6], [], h, 198, sl) = some R → ∃ m wc w6, HC q cc gc ((v103_26 q cc gc m1 j i (x2, x3, x4, h)).2.2.2) ∧ frm [12, 142, 144, 145, 147] [(142, 3), (145, 3)] h ((v103_26 q cc gc m1 j i (x2, x3, x4, h)).2.2.2) ∧ pm_run PT m fr lo 103 (99, [some (.ref 0), some (.int (nI m1)), some (.int ((v103_26 q cc gc m1 j i (x2, x3, x4, h)).1)), some (.int ((v103_26 q cc gc m1 j i (x2, x3, x4, h)).2.1)), some (.int ((v103_26 q cc gc m1 j i (x2, x3, x4, h)).2.2.1)), wc, w6], [], (v103_26 q cc gc m1 j i (x2, x3, x4, h)).2.2.2, 198, sl) = some R := by
  intro j
  induction j with
  | zero =>
    intro i x2 x3 x4 o6 h n e eI hw h_m1 hh
    obtain ⟨n, hh⟩ := v103_26_e hw h_m1 (by omega) (by omega) hh
    exact ⟨n, _, o6, hw, fr_0, hh⟩
  | succ j ih =>
    intro i x2 x3 x4 o6 h n e eI hw h_m1 hh
    obtain ⟨n, w6, hc, hf, hh⟩ := v103_26_s hw h_m1 (by omega) (by omega) hh
    obtain ⟨n, wc, v6, hc2, hf2, hh⟩ := ih (by omega) (by omega) hc h_m1 hh
    exact ⟨n, wc, v6, hc2, fr_t hf2 hf, hh⟩
def v103 (q : QT) (cc gc : Nat) (h : pm_H) (g : Nat) : Int32 × pm_H := cond (decide (g < gc)) (cond (pm_cmp .lt ((v103_26 q cc gc g cc 0 ((Int32.ofInt (-2)), (Int32.ofInt (-1)), (nI 999), h)).1) 0) ((v103_26 q cc gc g cc 0 ((Int32.ofInt (-2)), (Int32.ofInt (-1)), (nI 999), h)).1, (v103_26 q cc gc g cc 0 ((Int32.ofInt (-2)), (Int32.ofInt (-1)), (nI 999), h)).2.2.2) ((v103_26 q cc gc g cc 0 ((Int32.ofInt (-2)), (Int32.ofInt (-1)), (nI 999), h)).1, v56 q cc gc ((v103_26 q cc gc g cc 0 ((Int32.ofInt (-2)), (Int32.ofInt (-1)), (nI 999), h)).2.2.2) (((v103_26 q cc gc g cc 0 ((Int32.ofInt (-2)), (Int32.ofInt (-1)), (nI 999), h)).2.1).toInt64) (((v103_26 q cc gc g cc 0 ((Int32.ofInt (-2)), (Int32.ofInt (-1)), (nI 999), h)).2.2.1).toInt64))) ((Int32.ofInt (-1)), h)
theorem v103_ok {n fr lo sl cc gc : Nat} {q : QT} {h : pm_H} {R : pm_Rs} {g : Nat} (hw : HC q cc gc h) (h_g : g < 10000) (hh : pm_run PT n fr lo 103 (0, pm_l0 [.ref 0, .int (nI g)] 7, [], h, 198, sl) = some R) : R = (some (.int ((v103 q cc gc h g).1)), (v103 q cc gc h g).2, 198, sl) ∧ HC q cc gc ((v103 q cc gc h g).2) ∧ frm [3, 4, 12, 142, 144, 145, 147] [(3, 1), (142, 3), (145, 3)] h ((v103 q cc gc h g).2) := by
  have hcc := hw.cb
  have hgc := hw.gb
  have hzr := hw.zr
  obtain ⟨n, hh⟩ := rn_i rfl rfl rfl rfl hh
  have hh : pm_run PT n fr lo 103 (1, [some (.ref 0), some (.int (nI g)), none, none, none, none, none], [.ref 0], h, 198, sl) = some R := hh
  obtain ⟨n, hh⟩ := rn_gr hw.wt rfl rfl (by decide) rfl (by decide) (show _ = some (2, ((5 : Nat) : Int), 1) from rfl) rfl hh
  obtain ⟨n, hh⟩ := rn_i rfl rfl rfl rfl hh
  have hh : pm_run PT n fr lo 103 (5, [some (.ref 0), some (.int (nI g)), none, none, none, none, none], [.int (nI g), .ref 5], h, 198, sl) = some R := hh
  obtain ⟨n, fr1, lo1, r1, hh1, hh⟩ := rn_call (w := 0) (t := 25) rfl rfl hh
  have er1 := en_xg hgc (hc_rG hw) hh1
  rw [cB_n (by omega)] at er1
  subst er1
  have hh : pm_run PT n fr lo 103 (8, [some (.ref 0), some (.int (nI g)), none, none, none, none, none], [.int (cond (decide (g < gc)) 1 0)], h, 198, sl) = some R := hh
  obtain ⟨n, hh⟩ := en_zn (cc := .ne) (off := 5) (t := 13) (b := decide (g < gc)) eb_ne rfl rfl hh
  cases z2 : decide (g < gc) with
  | true =>
    have hh := en_t z2 hh
    have hh : pm_run PT n fr lo 103 (13, [some (.ref 0), some (.int (nI g)), none, none, none, none, none], [], h, 198, sl) = some R := hh
    have y3 := of_decide_eq_true z2
    obtain ⟨n, hh⟩ := rn_i rfl rfl rfl rfl hh
    obtain ⟨n, hh⟩ := rn_i rfl rfl rfl rfl hh
    obtain ⟨n, hh⟩ := rn_i rfl rfl rfl rfl hh
    obtain ⟨n, hh⟩ := rn_i rfl rfl rfl rfl hh
    obtain ⟨n, hh⟩ := rn_i rfl rfl rfl rfl hh
    obtain ⟨n, hh⟩ := rn_i rfl rfl rfl rfl hh
    obtain ⟨n, hh⟩ := rn_i rfl rfl rfl rfl hh
    obtain ⟨n, hh⟩ := rn_i rfl rfl rfl rfl hh
    have hh : pm_run PT n fr lo 103 (26, [some (.ref 0), some (.int (nI g)), some (.int (Int32.ofInt (-2))), some (.int (Int32.ofInt (-1))), some (.int (nI 999)), some (.int (nI 0)), none], [], h, 198, sl) = some R := hh
    obtain ⟨n, u5, u4, hc6, hf7, hh⟩ := v103_26_ok (m1 := g)  (i := 0) (x2 := (Int32.ofInt (-2))) (x3 := (Int32.ofInt (-1))) (x4 := (nI 999)) (o6 := none) (j := cc) (by omega) (by omega) hw (by omega) hh
    have hh : pm_run PT n fr lo 103 (99, [some (.ref 0), some (.int (nI g)), some (.int ((v103_26 q cc gc g cc 0 ((Int32.ofInt (-2)), (Int32.ofInt (-1)), (nI 999), h)).1)), some (.int ((v103_26 q cc gc g cc 0 ((Int32.ofInt (-2)), (Int32.ofInt (-1)), (nI 999), h)).2.1)), some (.int ((v103_26 q cc gc g cc 0 ((Int32.ofInt (-2)), (Int32.ofInt (-1)), (nI 999), h)).2.2.1)), u5, u4], [], (v103_26 q cc gc g cc 0 ((Int32.ofInt (-2)), (Int32.ofInt (-1)), (nI 999), h)).2.2.2, 198, sl) = some R := hh
    obtain ⟨n, hh⟩ := rn_i rfl rfl rfl rfl hh
    have hh : pm_run PT n fr lo 103 (100, [some (.ref 0), some (.int (nI g)), some (.int ((v103_26 q cc gc g cc 0 ((Int32.ofInt (-2)), (Int32.ofInt (-1)), (nI 999), h)).1)), some (.int ((v103_26 q cc gc g cc 0 ((Int32.ofInt (-2)), (Int32.ofInt (-1)), (nI 999), h)).2.1)), some (.int ((v103_26 q cc gc g cc 0 ((Int32.ofInt (-2)), (Int32.ofInt (-1)), (nI 999), h)).2.2.1)), u5, u4], [.int ((v103_26 q cc gc g cc 0 ((Int32.ofInt (-2)), (Int32.ofInt (-1)), (nI 999), h)).1)], (v103_26 q cc gc g cc 0 ((Int32.ofInt (-2)), (Int32.ofInt (-1)), (nI 999), h)).2.2.2, 198, sl) = some R := hh
    obtain ⟨n, hh⟩ := en_zn (cc := .lt) (off := 15) (t := 115) (b := pm_cmp .lt ((v103_26 q cc gc g cc 0 ((Int32.ofInt (-2)), (Int32.ofInt (-1)), (nI 999), h)).1) 0) rfl rfl rfl hh
    cases z8 : pm_cmp .lt ((v103_26 q cc gc g cc 0 ((Int32.ofInt (-2)), (Int32.ofInt (-1)), (nI 999), h)).1) 0 with
    | true =>
      have hh := en_t z8 hh
      have hh : pm_run PT n fr lo 103 (115, [some (.ref 0), some (.int (nI g)), some (.int ((v103_26 q cc gc g cc 0 ((Int32.ofInt (-2)), (Int32.ofInt (-1)), (nI 999), h)).1)), some (.int ((v103_26 q cc gc g cc 0 ((Int32.ofInt (-2)), (Int32.ofInt (-1)), (nI 999), h)).2.1)), some (.int ((v103_26 q cc gc g cc 0 ((Int32.ofInt (-2)), (Int32.ofInt (-1)), (nI 999), h)).2.2.1)), u5, u4], [], (v103_26 q cc gc g cc 0 ((Int32.ofInt (-2)), (Int32.ofInt (-1)), (nI 999), h)).2.2.2, 198, sl) = some R := hh
      obtain ⟨n, hh⟩ := rn_i rfl rfl rfl rfl hh
      have hh : pm_run PT n fr lo 103 (116, [some (.ref 0), some (.int (nI g)), some (.int ((v103_26 q cc gc g cc 0 ((Int32.ofInt (-2)), (Int32.ofInt (-1)), (nI 999), h)).1)), some (.int ((v103_26 q cc gc g cc 0 ((Int32.ofInt (-2)), (Int32.ofInt (-1)), (nI 999), h)).2.1)), some (.int ((v103_26 q cc gc g cc 0 ((Int32.ofInt (-2)), (Int32.ofInt (-1)), (nI 999), h)).2.2.1)), u5, u4], [.int ((v103_26 q cc gc g cc 0 ((Int32.ofInt (-2)), (Int32.ofInt (-1)), (nI 999), h)).1)], (v103_26 q cc gc g cc 0 ((Int32.ofInt (-2)), (Int32.ofInt (-1)), (nI 999), h)).2.2.2, 198, sl) = some R := hh
      have er9 : R = (some (.int ((v103_26 q cc gc g cc 0 ((Int32.ofInt (-2)), (Int32.ofInt (-1)), (nI 999), h)).1)), (v103_26 q cc gc g cc 0 ((Int32.ofInt (-2)), (Int32.ofInt (-1)), (nI 999), h)).2.2.2, 198, sl) := (rn_ret rfl (Or.inl rfl) hh).2
      have ed : v103 q cc gc h g = ((v103_26 q cc gc g cc 0 ((Int32.ofInt (-2)), (Int32.ofInt (-1)), (nI 999), h)).1, (v103_26 q cc gc g cc 0 ((Int32.ofInt (-2)), (Int32.ofInt (-1)), (nI 999), h)).2.2.2) := (ct z2).trans ((ct z8).trans rfl)
      refine ⟨?_, ?_, ?_⟩ <;> rw [ed]
      · exact er9
      · exact hc6
      · exact (fr_g rfl rfl hf7 fr_0)
    | false =>
      have hh := en_f z8 hh
      have hh : pm_run PT n fr lo 103 (103, [some (.ref 0), some (.int (nI g)), some (.int ((v103_26 q cc gc g cc 0 ((Int32.ofInt (-2)), (Int32.ofInt (-1)), (nI 999), h)).1)), some (.int ((v103_26 q cc gc g cc 0 ((Int32.ofInt (-2)), (Int32.ofInt (-1)), (nI 999), h)).2.1)), some (.int ((v103_26 q cc gc g cc 0 ((Int32.ofInt (-2)), (Int32.ofInt (-1)), (nI 999), h)).2.2.1)), u5, u4], [], (v103_26 q cc gc g cc 0 ((Int32.ofInt (-2)), (Int32.ofInt (-1)), (nI 999), h)).2.2.2, 198, sl) = some R := hh
      obtain ⟨n, hh⟩ := rn_i rfl rfl rfl rfl hh
      have hh : pm_run PT n fr lo 103 (104, [some (.ref 0), some (.int (nI g)), some (.int ((v103_26 q cc gc g cc 0 ((Int32.ofInt (-2)), (Int32.ofInt (-1)), (nI 999), h)).1)), some (.int ((v103_26 q cc gc g cc 0 ((Int32.ofInt (-2)), (Int32.ofInt (-1)), (nI 999), h)).2.1)), some (.int ((v103_26 q cc gc g cc 0 ((Int32.ofInt (-2)), (Int32.ofInt (-1)), (nI 999), h)).2.2.1)), u5, u4], [.ref 0], (v103_26 q cc gc g cc 0 ((Int32.ofInt (-2)), (Int32.ofInt (-1)), (nI 999), h)).2.2.2, 198, sl) = some R := hh
      obtain ⟨n, hh⟩ := rn_gr hc6.wt rfl rfl (by decide) rfl (by decide) (show _ = some (2, ((3 : Nat) : Int), 1) from rfl) rfl hh
      obtain ⟨n, hh⟩ := rn_i rfl rfl rfl rfl hh
      obtain ⟨n, hh⟩ := rn_i rfl rfl rfl rfl hh
      obtain ⟨n, hh⟩ := rn_i rfl rfl rfl rfl hh
      obtain ⟨n, hh⟩ := rn_i rfl rfl rfl rfl hh
      have hh : pm_run PT n fr lo 103 (112, [some (.ref 0), some (.int (nI g)), some (.int ((v103_26 q cc gc g cc 0 ((Int32.ofInt (-2)), (Int32.ofInt (-1)), (nI 999), h)).1)), some (.int ((v103_26 q cc gc g cc 0 ((Int32.ofInt (-2)), (Int32.ofInt (-1)), (nI 999), h)).2.1)), some (.int ((v103_26 q cc gc g cc 0 ((Int32.ofInt (-2)), (Int32.ofInt (-1)), (nI 999), h)).2.2.1)), u5, u4], [.long (((v103_26 q cc gc g cc 0 ((Int32.ofInt (-2)), (Int32.ofInt (-1)), (nI 999), h)).2.2.1).toInt64), .long (((v103_26 q cc gc g cc 0 ((Int32.ofInt (-2)), (Int32.ofInt (-1)), (nI 999), h)).2.1).toInt64), .ref 3], (v103_26 q cc gc g cc 0 ((Int32.ofInt (-2)), (Int32.ofInt (-1)), (nI 999), h)).2.2.2, 198, sl) = some R := hh
      obtain ⟨n, fr1, lo1, r1, hh1, hh⟩ := rn_call (w := 0) (t := 56) rfl rfl hh
      obtain ⟨er10, hc11, hf12⟩ := v56_ok (v := (((v103_26 q cc gc g cc 0 ((Int32.ofInt (-2)), (Int32.ofInt (-1)), (nI 999), h)).2.1).toInt64)) (w := (((v103_26 q cc gc g cc 0 ((Int32.ofInt (-2)), (Int32.ofInt (-1)), (nI 999), h)).2.2.1).toInt64)) hc6 hh1
      subst er10
      obtain ⟨n, hh⟩ := rn_i rfl rfl rfl rfl hh
      have hh : pm_run PT n fr lo 103 (116, [some (.ref 0), some (.int (nI g)), some (.int ((v103_26 q cc gc g cc 0 ((Int32.ofInt (-2)), (Int32.ofInt (-1)), (nI 999), h)).1)), some (.int ((v103_26 q cc gc g cc 0 ((Int32.ofInt (-2)), (Int32.ofInt (-1)), (nI 999), h)).2.1)), some (.int ((v103_26 q cc gc g cc 0 ((Int32.ofInt (-2)), (Int32.ofInt (-1)), (nI 999), h)).2.2.1)), u5, u4], [.int ((v103_26 q cc gc g cc 0 ((Int32.ofInt (-2)), (Int32.ofInt (-1)), (nI 999), h)).1)], v56 q cc gc ((v103_26 q cc gc g cc 0 ((Int32.ofInt (-2)), (Int32.ofInt (-1)), (nI 999), h)).2.2.2) (((v103_26 q cc gc g cc 0 ((Int32.ofInt (-2)), (Int32.ofInt (-1)), (nI 999), h)).2.1).toInt64) (((v103_26 q cc gc g cc 0 ((Int32.ofInt (-2)), (Int32.ofInt (-1)), (nI 999), h)).2.2.1).toInt64), 198, sl) = some R := hh
      have er13 : R = (some (.int ((v103_26 q cc gc g cc 0 ((Int32.ofInt (-2)), (Int32.ofInt (-1)), (nI 999), h)).1)), v56 q cc gc ((v103_26 q cc gc g cc 0 ((Int32.ofInt (-2)), (Int32.ofInt (-1)), (nI 999), h)).2.2.2) (((v103_26 q cc gc g cc 0 ((Int32.ofInt (-2)), (Int32.ofInt (-1)), (nI 999), h)).2.1).toInt64) (((v103_26 q cc gc g cc 0 ((Int32.ofInt (-2)), (Int32.ofInt (-1)), (nI 999), h)).2.2.1).toInt64), 198, sl) := (rn_ret rfl (Or.inl rfl) hh).2
      have ed : v103 q cc gc h g = ((v103_26 q cc gc g cc 0 ((Int32.ofInt (-2)), (Int32.ofInt (-1)), (nI 999), h)).1, v56 q cc gc ((v103_26 q cc gc g cc 0 ((Int32.ofInt (-2)), (Int32.ofInt (-1)), (nI 999), h)).2.2.2) (((v103_26 q cc gc g cc 0 ((Int32.ofInt (-2)), (Int32.ofInt (-1)), (nI 999), h)).2.1).toInt64) (((v103_26 q cc gc g cc 0 ((Int32.ofInt (-2)), (Int32.ofInt (-1)), (nI 999), h)).2.2.1).toInt64)) := (ct z2).trans ((cf z8).trans rfl)
      refine ⟨?_, ?_, ?_⟩ <;> rw [ed]
      · exact er13
      · exact hc11
      · exact (fr_g rfl rfl hf12 (fr_g rfl rfl hf7 fr_0))
  | false =>
    have hh := en_f z2 hh
    have hh : pm_run PT n fr lo 103 (11, [some (.ref 0), some (.int (nI g)), none, none, none, none, none], [], h, 198, sl) = some R := hh
    have y14 := of_decide_eq_false z2
    obtain ⟨n, hh⟩ := rn_i rfl rfl rfl rfl hh
    have hh : pm_run PT n fr lo 103 (12, [some (.ref 0), some (.int (nI g)), none, none, none, none, none], [.int (Int32.ofInt (-1))], h, 198, sl) = some R := hh
    have er15 : R = (some (.int (Int32.ofInt (-1))), h, 198, sl) := (rn_ret rfl (Or.inl rfl) hh).2
    have ed : v103 q cc gc h g = ((Int32.ofInt (-1)), h) := (cf z2).trans rfl
    refine ⟨?_, ?_, ?_⟩ <;> rw [ed]
    · exact er15
    · exact hw
    · exact fr_0
def v146 (q : QT) (cc gc : Nat) (h : pm_H) (g : Nat) (h2 : Nat) : Int32 × pm_H := cond (decide (¬ (((Ar h 17) g).toNatClampNeg) = (((Ar h 17) h2).toNatClampNeg))) (cond (pm_cmp .le (((v39 q cc gc h h2 (((Ar h 17) g).toNatClampNeg)).1) - ((v39 q cc gc ((v39 q cc gc h h2 (((Ar h 17) g).toNatClampNeg)).2) g (((Ar h 17) g).toNatClampNeg)).1)) 0) (nI 0) (cond (pm_cmp .le (((v39 q cc gc ((v39 q cc gc ((v39 q cc gc h h2 (((Ar h 17) g).toNatClampNeg)).2) g (((Ar h 17) g).toNatClampNeg)).2) g (((Ar h 17) h2).toNatClampNeg)).1) - ((v39 q cc gc ((v39 q cc gc ((v39 q cc gc ((v39 q cc gc h h2 (((Ar h 17) g).toNatClampNeg)).2) g (((Ar h 17) g).toNatClampNeg)).2) g (((Ar h 17) h2).toNatClampNeg)).2) h2 (((Ar h 17) h2).toNatClampNeg)).1)) 0) (nI 0) ((((v39 q cc gc h h2 (((Ar h 17) g).toNatClampNeg)).1) - ((v39 q cc gc ((v39 q cc gc h h2 (((Ar h 17) g).toNatClampNeg)).2) g (((Ar h 17) g).toNatClampNeg)).1)) + (((v39 q cc gc ((v39 q cc gc ((v39 q cc gc h h2 (((Ar h 17) g).toNatClampNeg)).2) g (((Ar h 17) g).toNatClampNeg)).2) g (((Ar h 17) h2).toNatClampNeg)).1) - ((v39 q cc gc ((v39 q cc gc ((v39 q cc gc ((v39 q cc gc h h2 (((Ar h 17) g).toNatClampNeg)).2) g (((Ar h 17) g).toNatClampNeg)).2) g (((Ar h 17) h2).toNatClampNeg)).2) h2 (((Ar h 17) h2).toNatClampNeg)).1)))), (v39 q cc gc ((v39 q cc gc ((v39 q cc gc ((v39 q cc gc h h2 (((Ar h 17) g).toNatClampNeg)).2) g (((Ar h 17) g).toNatClampNeg)).2) g (((Ar h 17) h2).toNatClampNeg)).2) h2 (((Ar h 17) h2).toNatClampNeg)).2) (nI 0, h)
theorem v146_ok {n fr lo sl cc gc : Nat} {q : QT} {h : pm_H} {R : pm_Rs} {g : Nat} {h2 : Nat} (hw : HC q cc gc h) (h_g : g < 10000) (h_h2 : h2 < 10000) (hol : NA h 17 0 8 6) (hh : pm_run PT n fr lo 146 (0, pm_l0 [.ref 0, .int (nI g), .int (nI h2)] 7, [], h, 198, sl) = some R) : R = (some (.int ((v146 q cc gc h g h2).1)), (v146 q cc gc h g h2).2, 198, sl) ∧ HC q cc gc ((v146 q cc gc h g h2).2) ∧ frm [12, 142, 144, 145, 147] [(142, 3), (145, 3)] h ((v146 q cc gc h g h2).2) := by
  have hcc := hw.cb
  have hgc := hw.gb
  have hzr := hw.zr
  obtain ⟨n, hh⟩ := rn_i rfl rfl rfl rfl hh
  have hh : pm_run PT n fr lo 146 (1, [some (.ref 0), some (.int (nI g)), some (.int (nI h2)), none, none, none, none], [.ref 0], h, 198, sl) = some R := hh
  obtain ⟨n, hh⟩ := rn_gr hw.wt rfl rfl (by decide) rfl (by decide) (show _ = some (2, ((13 : Nat) : Int), 1) from rfl) rfl hh
  have hh : pm_run PT n fr lo 146 (4, [some (.ref 0), some (.int (nI g)), some (.int (nI h2)), none, none, none, none], [.ref 13], h, 198, sl) = some R := hh
  obtain ⟨n, hh⟩ := rn_gr hw.wt rfl rfl (by decide) rfl (by decide) (show _ = some (2, ((17 : Nat) : Int), 1) from rfl) rfl hh
  obtain ⟨n, hh⟩ := rn_i rfl rfl rfl rfl hh
  have hh : pm_run PT n fr lo 146 (8, [some (.ref 0), some (.int (nI g)), some (.int (nI h2)), none, none, none, none], [.int (nI g), .ref 17], h, 198, sl) = some R := hh
  obtain ⟨n, hx1, hh⟩ := en_lu (t := g) (f := Ar h 17) (w := nI (((Ar h 17) g).toNatClampNeg)) (nI_clamp (by omega)) hw.wt rfl (by decide) rfl (by decide) rfl (fun z => (hol _ (by omega) (by omega)).1) hh
  have hb2 := (hol g (by omega) (by omega)).2
  obtain ⟨n, hh⟩ := rn_i rfl rfl rfl rfl hh
  obtain ⟨n, hh⟩ := rn_i rfl rfl rfl rfl hh
  have hh : pm_run PT n fr lo 146 (11, [some (.ref 0), some (.int (nI g)), some (.int (nI h2)), some (.int (nI (((Ar h 17) g).toNatClampNeg))), none, none, none], [.ref 0], h, 198, sl) = some R := hh
  obtain ⟨n, hh⟩ := rn_gr hw.wt rfl rfl (by decide) rfl (by decide) (show _ = some (2, ((13 : Nat) : Int), 1) from rfl) rfl hh
  have hh : pm_run PT n fr lo 146 (14, [some (.ref 0), some (.int (nI g)), some (.int (nI h2)), some (.int (nI (((Ar h 17) g).toNatClampNeg))), none, none, none], [.ref 13], h, 198, sl) = some R := hh
  obtain ⟨n, hh⟩ := rn_gr hw.wt rfl rfl (by decide) rfl (by decide) (show _ = some (2, ((17 : Nat) : Int), 1) from rfl) rfl hh
  obtain ⟨n, hh⟩ := rn_i rfl rfl rfl rfl hh
  have hh : pm_run PT n fr lo 146 (18, [some (.ref 0), some (.int (nI g)), some (.int (nI h2)), some (.int (nI (((Ar h 17) g).toNatClampNeg))), none, none, none], [.int (nI h2), .ref 17], h, 198, sl) = some R := hh
  obtain ⟨n, hx3, hh⟩ := en_lu (t := h2) (f := Ar h 17) (w := nI (((Ar h 17) h2).toNatClampNeg)) (nI_clamp (by omega)) hw.wt rfl (by decide) rfl (by decide) rfl (fun z => (hol _ (by omega) (by omega)).1) hh
  have hb4 := (hol h2 (by omega) (by omega)).2
  obtain ⟨n, hh⟩ := rn_i rfl rfl rfl rfl hh
  obtain ⟨n, hh⟩ := rn_i rfl rfl rfl rfl hh
  obtain ⟨n, hh⟩ := rn_i rfl rfl rfl rfl hh
  have hh : pm_run PT n fr lo 146 (24, [some (.ref 0), some (.int (nI g)), some (.int (nI h2)), some (.int (nI (((Ar h 17) g).toNatClampNeg))), some (.int (nI (((Ar h 17) h2).toNatClampNeg))), none, none], [.int (nI (((Ar h 17) h2).toNatClampNeg)), .int (nI (((Ar h 17) g).toNatClampNeg))], h, 198, sl) = some R := hh
  obtain ⟨n, hh⟩ := en_cn (cc := .ne) (off := 5) (t := 29) (b := decide (¬ (((Ar h 17) g).toNatClampNeg) = (((Ar h 17) h2).toNatClampNeg))) (hI_ne (by omega) (by omega)) rfl rfl hh
  cases z5 : decide (¬ (((Ar h 17) g).toNatClampNeg) = (((Ar h 17) h2).toNatClampNeg)) with
  | true =>
    have hh := en_t z5 hh
    have hh : pm_run PT n fr lo 146 (29, [some (.ref 0), some (.int (nI g)), some (.int (nI h2)), some (.int (nI (((Ar h 17) g).toNatClampNeg))), some (.int (nI (((Ar h 17) h2).toNatClampNeg))), none, none], [], h, 198, sl) = some R := hh
    have y6 := of_decide_eq_true z5
    obtain ⟨n, hh⟩ := rn_i rfl rfl rfl rfl hh
    have hh : pm_run PT n fr lo 146 (30, [some (.ref 0), some (.int (nI g)), some (.int (nI h2)), some (.int (nI (((Ar h 17) g).toNatClampNeg))), some (.int (nI (((Ar h 17) h2).toNatClampNeg))), none, none], [.ref 0], h, 198, sl) = some R := hh
    obtain ⟨n, hh⟩ := rn_gr hw.wt rfl rfl (by decide) rfl (by decide) (show _ = some (2, ((5 : Nat) : Int), 1) from rfl) rfl hh
    obtain ⟨n, hh⟩ := rn_i rfl rfl rfl rfl hh
    have hh : pm_run PT n fr lo 146 (34, [some (.ref 0), some (.int (nI g)), some (.int (nI h2)), some (.int (nI (((Ar h 17) g).toNatClampNeg))), some (.int (nI (((Ar h 17) h2).toNatClampNeg))), none, none], [.ref 0, .ref 5], h, 198, sl) = some R := hh
    obtain ⟨n, hh⟩ := en_q hw rfl rfl hh
    obtain ⟨n, hh⟩ := rn_i rfl rfl rfl rfl hh
    have hh : pm_run PT n fr lo 146 (38, [some (.ref 0), some (.int (nI g)), some (.int (nI h2)), some (.int (nI (((Ar h 17) g).toNatClampNeg))), some (.int (nI (((Ar h 17) h2).toNatClampNeg))), none, none], [.ref 0, .ref q.1, .ref 5], h, 198, sl) = some R := hh
    obtain ⟨n, hh⟩ := rn_gr hw.wt rfl rfl (by decide) rfl (by decide) (show _ = some (2, ((13 : Nat) : Int), 1) from rfl) rfl hh
    obtain ⟨n, hh⟩ := rn_i rfl rfl rfl rfl hh
    obtain ⟨n, hh⟩ := rn_i rfl rfl rfl rfl hh
    have hh : pm_run PT n fr lo 146 (43, [some (.ref 0), some (.int (nI g)), some (.int (nI h2)), some (.int (nI (((Ar h 17) g).toNatClampNeg))), some (.int (nI (((Ar h 17) h2).toNatClampNeg))), none, none], [.int (nI (((Ar h 17) g).toNatClampNeg)), .int (nI h2), .ref 13, .ref q.1, .ref 5], h, 198, sl) = some R := hh
    obtain ⟨n, fr1, lo1, r1, hh1, hh⟩ := rn_call (w := 0) (t := 39) rfl rfl hh
    obtain ⟨er7, hc8, hf9⟩ := v39_ok (g := h2) (c := (((Ar h 17) g).toNatClampNeg)) hw (by omega) (by omega) hh1
    subst er7
    obtain ⟨n, hh⟩ := rn_i rfl rfl rfl rfl hh
    have hh : pm_run PT n fr lo 146 (47, [some (.ref 0), some (.int (nI g)), some (.int (nI h2)), some (.int (nI (((Ar h 17) g).toNatClampNeg))), some (.int (nI (((Ar h 17) h2).toNatClampNeg))), none, none], [.ref 0, .int ((v39 q cc gc h h2 (((Ar h 17) g).toNatClampNeg)).1)], (v39 q cc gc h h2 (((Ar h 17) g).toNatClampNeg)).2, 198, sl) = some R := hh
    obtain ⟨n, hh⟩ := rn_gr hc8.wt rfl rfl (by decide) rfl (by decide) (show _ = some (2, ((5 : Nat) : Int), 1) from rfl) rfl hh
    obtain ⟨n, hh⟩ := rn_i rfl rfl rfl rfl hh
    have hh : pm_run PT n fr lo 146 (51, [some (.ref 0), some (.int (nI g)), some (.int (nI h2)), some (.int (nI (((Ar h 17) g).toNatClampNeg))), some (.int (nI (((Ar h 17) h2).toNatClampNeg))), none, none], [.ref 0, .ref 5, .int ((v39 q cc gc h h2 (((Ar h 17) g).toNatClampNeg)).1)], (v39 q cc gc h h2 (((Ar h 17) g).toNatClampNeg)).2, 198, sl) = some R := hh
    obtain ⟨n, hh⟩ := en_q hc8 rfl rfl hh
    obtain ⟨n, hh⟩ := rn_i rfl rfl rfl rfl hh
    have hh : pm_run PT n fr lo 146 (55, [some (.ref 0), some (.int (nI g)), some (.int (nI h2)), some (.int (nI (((Ar h 17) g).toNatClampNeg))), some (.int (nI (((Ar h 17) h2).toNatClampNeg))), none, none], [.ref 0, .ref q.1, .ref 5, .int ((v39 q cc gc h h2 (((Ar h 17) g).toNatClampNeg)).1)], (v39 q cc gc h h2 (((Ar h 17) g).toNatClampNeg)).2, 198, sl) = some R := hh
    obtain ⟨n, hh⟩ := rn_gr hc8.wt rfl rfl (by decide) rfl (by decide) (show _ = some (2, ((13 : Nat) : Int), 1) from rfl) rfl hh
    obtain ⟨n, hh⟩ := rn_i rfl rfl rfl rfl hh
    obtain ⟨n, hh⟩ := rn_i rfl rfl rfl rfl hh
    have hh : pm_run PT n fr lo 146 (60, [some (.ref 0), some (.int (nI g)), some (.int (nI h2)), some (.int (nI (((Ar h 17) g).toNatClampNeg))), some (.int (nI (((Ar h 17) h2).toNatClampNeg))), none, none], [.int (nI (((Ar h 17) g).toNatClampNeg)), .int (nI g), .ref 13, .ref q.1, .ref 5, .int ((v39 q cc gc h h2 (((Ar h 17) g).toNatClampNeg)).1)], (v39 q cc gc h h2 (((Ar h 17) g).toNatClampNeg)).2, 198, sl) = some R := hh
    obtain ⟨n, fr1, lo1, r1, hh1, hh⟩ := rn_call (w := 0) (t := 39) rfl rfl hh
    obtain ⟨er10, hc11, hf12⟩ := v39_ok (g := g) (c := (((Ar h 17) g).toNatClampNeg)) hc8 (by omega) (by omega) hh1
    subst er10
    obtain ⟨n, hh⟩ := rn_i rfl rfl rfl rfl hh
    obtain ⟨n, hh⟩ := rn_i rfl rfl rfl rfl hh
    obtain ⟨n, hh⟩ := rn_i rfl rfl rfl rfl hh
    have hh : pm_run PT n fr lo 146 (67, [some (.ref 0), some (.int (nI g)), some (.int (nI h2)), some (.int (nI (((Ar h 17) g).toNatClampNeg))), some (.int (nI (((Ar h 17) h2).toNatClampNeg))), some (.int (((v39 q cc gc h h2 (((Ar h 17) g).toNatClampNeg)).1) - ((v39 q cc gc ((v39 q cc gc h h2 (((Ar h 17) g).toNatClampNeg)).2) g (((Ar h 17) g).toNatClampNeg)).1))), none], [.ref 0], (v39 q cc gc ((v39 q cc gc h h2 (((Ar h 17) g).toNatClampNeg)).2) g (((Ar h 17) g).toNatClampNeg)).2, 198, sl) = some R := hh
    obtain ⟨n, hh⟩ := rn_gr hc11.wt rfl rfl (by decide) rfl (by decide) (show _ = some (2, ((5 : Nat) : Int), 1) from rfl) rfl hh
    obtain ⟨n, hh⟩ := rn_i rfl rfl rfl rfl hh
    have hh : pm_run PT n fr lo 146 (71, [some (.ref 0), some (.int (nI g)), some (.int (nI h2)), some (.int (nI (((Ar h 17) g).toNatClampNeg))), some (.int (nI (((Ar h 17) h2).toNatClampNeg))), some (.int (((v39 q cc gc h h2 (((Ar h 17) g).toNatClampNeg)).1) - ((v39 q cc gc ((v39 q cc gc h h2 (((Ar h 17) g).toNatClampNeg)).2) g (((Ar h 17) g).toNatClampNeg)).1))), none], [.ref 0, .ref 5], (v39 q cc gc ((v39 q cc gc h h2 (((Ar h 17) g).toNatClampNeg)).2) g (((Ar h 17) g).toNatClampNeg)).2, 198, sl) = some R := hh
    obtain ⟨n, hh⟩ := en_q hc11 rfl rfl hh
    obtain ⟨n, hh⟩ := rn_i rfl rfl rfl rfl hh
    have hh : pm_run PT n fr lo 146 (75, [some (.ref 0), some (.int (nI g)), some (.int (nI h2)), some (.int (nI (((Ar h 17) g).toNatClampNeg))), some (.int (nI (((Ar h 17) h2).toNatClampNeg))), some (.int (((v39 q cc gc h h2 (((Ar h 17) g).toNatClampNeg)).1) - ((v39 q cc gc ((v39 q cc gc h h2 (((Ar h 17) g).toNatClampNeg)).2) g (((Ar h 17) g).toNatClampNeg)).1))), none], [.ref 0, .ref q.1, .ref 5], (v39 q cc gc ((v39 q cc gc h h2 (((Ar h 17) g).toNatClampNeg)).2) g (((Ar h 17) g).toNatClampNeg)).2, 198, sl) = some R := hh
    obtain ⟨n, hh⟩ := rn_gr hc11.wt rfl rfl (by decide) rfl (by decide) (show _ = some (2, ((13 : Nat) : Int), 1) from rfl) rfl hh
    obtain ⟨n, hh⟩ := rn_i rfl rfl rfl rfl hh
    obtain ⟨n, hh⟩ := rn_i rfl rfl rfl rfl hh
    have hh : pm_run PT n fr lo 146 (81, [some (.ref 0), some (.int (nI g)), some (.int (nI h2)), some (.int (nI (((Ar h 17) g).toNatClampNeg))), some (.int (nI (((Ar h 17) h2).toNatClampNeg))), some (.int (((v39 q cc gc h h2 (((Ar h 17) g).toNatClampNeg)).1) - ((v39 q cc gc ((v39 q cc gc h h2 (((Ar h 17) g).toNatClampNeg)).2) g (((Ar h 17) g).toNatClampNeg)).1))), none], [.int (nI (((Ar h 17) h2).toNatClampNeg)), .int (nI g), .ref 13, .ref q.1, .ref 5], (v39 q cc gc ((v39 q cc gc h h2 (((Ar h 17) g).toNatClampNeg)).2) g (((Ar h 17) g).toNatClampNeg)).2, 198, sl) = some R := hh
    obtain ⟨n, fr1, lo1, r1, hh1, hh⟩ := rn_call (w := 0) (t := 39) rfl rfl hh
    obtain ⟨er13, hc14, hf15⟩ := v39_ok (g := g) (c := (((Ar h 17) h2).toNatClampNeg)) hc11 (by omega) (by omega) hh1
    subst er13
    obtain ⟨n, hh⟩ := rn_i rfl rfl rfl rfl hh
    have hh : pm_run PT n fr lo 146 (85, [some (.ref 0), some (.int (nI g)), some (.int (nI h2)), some (.int (nI (((Ar h 17) g).toNatClampNeg))), some (.int (nI (((Ar h 17) h2).toNatClampNeg))), some (.int (((v39 q cc gc h h2 (((Ar h 17) g).toNatClampNeg)).1) - ((v39 q cc gc ((v39 q cc gc h h2 (((Ar h 17) g).toNatClampNeg)).2) g (((Ar h 17) g).toNatClampNeg)).1))), none], [.ref 0, .int ((v39 q cc gc ((v39 q cc gc ((v39 q cc gc h h2 (((Ar h 17) g).toNatClampNeg)).2) g (((Ar h 17) g).toNatClampNeg)).2) g (((Ar h 17) h2).toNatClampNeg)).1)], (v39 q cc gc ((v39 q cc gc ((v39 q cc gc h h2 (((Ar h 17) g).toNatClampNeg)).2) g (((Ar h 17) g).toNatClampNeg)).2) g (((Ar h 17) h2).toNatClampNeg)).2, 198, sl) = some R := hh
    obtain ⟨n, hh⟩ := rn_gr hc14.wt rfl rfl (by decide) rfl (by decide) (show _ = some (2, ((5 : Nat) : Int), 1) from rfl) rfl hh
    obtain ⟨n, hh⟩ := rn_i rfl rfl rfl rfl hh
    have hh : pm_run PT n fr lo 146 (89, [some (.ref 0), some (.int (nI g)), some (.int (nI h2)), some (.int (nI (((Ar h 17) g).toNatClampNeg))), some (.int (nI (((Ar h 17) h2).toNatClampNeg))), some (.int (((v39 q cc gc h h2 (((Ar h 17) g).toNatClampNeg)).1) - ((v39 q cc gc ((v39 q cc gc h h2 (((Ar h 17) g).toNatClampNeg)).2) g (((Ar h 17) g).toNatClampNeg)).1))), none], [.ref 0, .ref 5, .int ((v39 q cc gc ((v39 q cc gc ((v39 q cc gc h h2 (((Ar h 17) g).toNatClampNeg)).2) g (((Ar h 17) g).toNatClampNeg)).2) g (((Ar h 17) h2).toNatClampNeg)).1)], (v39 q cc gc ((v39 q cc gc ((v39 q cc gc h h2 (((Ar h 17) g).toNatClampNeg)).2) g (((Ar h 17) g).toNatClampNeg)).2) g (((Ar h 17) h2).toNatClampNeg)).2, 198, sl) = some R := hh
    obtain ⟨n, hh⟩ := en_q hc14 rfl rfl hh
    obtain ⟨n, hh⟩ := rn_i rfl rfl rfl rfl hh
    have hh : pm_run PT n fr lo 146 (93, [some (.ref 0), some (.int (nI g)), some (.int (nI h2)), some (.int (nI (((Ar h 17) g).toNatClampNeg))), some (.int (nI (((Ar h 17) h2).toNatClampNeg))), some (.int (((v39 q cc gc h h2 (((Ar h 17) g).toNatClampNeg)).1) - ((v39 q cc gc ((v39 q cc gc h h2 (((Ar h 17) g).toNatClampNeg)).2) g (((Ar h 17) g).toNatClampNeg)).1))), none], [.ref 0, .ref q.1, .ref 5, .int ((v39 q cc gc ((v39 q cc gc ((v39 q cc gc h h2 (((Ar h 17) g).toNatClampNeg)).2) g (((Ar h 17) g).toNatClampNeg)).2) g (((Ar h 17) h2).toNatClampNeg)).1)], (v39 q cc gc ((v39 q cc gc ((v39 q cc gc h h2 (((Ar h 17) g).toNatClampNeg)).2) g (((Ar h 17) g).toNatClampNeg)).2) g (((Ar h 17) h2).toNatClampNeg)).2, 198, sl) = some R := hh
    obtain ⟨n, hh⟩ := rn_gr hc14.wt rfl rfl (by decide) rfl (by decide) (show _ = some (2, ((13 : Nat) : Int), 1) from rfl) rfl hh
    obtain ⟨n, hh⟩ := rn_i rfl rfl rfl rfl hh
    obtain ⟨n, hh⟩ := rn_i rfl rfl rfl rfl hh
    have hh : pm_run PT n fr lo 146 (99, [some (.ref 0), some (.int (nI g)), some (.int (nI h2)), some (.int (nI (((Ar h 17) g).toNatClampNeg))), some (.int (nI (((Ar h 17) h2).toNatClampNeg))), some (.int (((v39 q cc gc h h2 (((Ar h 17) g).toNatClampNeg)).1) - ((v39 q cc gc ((v39 q cc gc h h2 (((Ar h 17) g).toNatClampNeg)).2) g (((Ar h 17) g).toNatClampNeg)).1))), none], [.int (nI (((Ar h 17) h2).toNatClampNeg)), .int (nI h2), .ref 13, .ref q.1, .ref 5, .int ((v39 q cc gc ((v39 q cc gc ((v39 q cc gc h h2 (((Ar h 17) g).toNatClampNeg)).2) g (((Ar h 17) g).toNatClampNeg)).2) g (((Ar h 17) h2).toNatClampNeg)).1)], (v39 q cc gc ((v39 q cc gc ((v39 q cc gc h h2 (((Ar h 17) g).toNatClampNeg)).2) g (((Ar h 17) g).toNatClampNeg)).2) g (((Ar h 17) h2).toNatClampNeg)).2, 198, sl) = some R := hh
    obtain ⟨n, fr1, lo1, r1, hh1, hh⟩ := rn_call (w := 0) (t := 39) rfl rfl hh
    obtain ⟨er16, hc17, hf18⟩ := v39_ok (g := h2) (c := (((Ar h 17) h2).toNatClampNeg)) hc14 (by omega) (by omega) hh1
    subst er16
    obtain ⟨n, hh⟩ := rn_i rfl rfl rfl rfl hh
    obtain ⟨n, hh⟩ := rn_i rfl rfl rfl rfl hh
    obtain ⟨n, hh⟩ := rn_i rfl rfl rfl rfl hh
    have hh : pm_run PT n fr lo 146 (107, [some (.ref 0), some (.int (nI g)), some (.int (nI h2)), some (.int (nI (((Ar h 17) g).toNatClampNeg))), some (.int (nI (((Ar h 17) h2).toNatClampNeg))), some (.int (((v39 q cc gc h h2 (((Ar h 17) g).toNatClampNeg)).1) - ((v39 q cc gc ((v39 q cc gc h h2 (((Ar h 17) g).toNatClampNeg)).2) g (((Ar h 17) g).toNatClampNeg)).1))), some (.int (((v39 q cc gc ((v39 q cc gc ((v39 q cc gc h h2 (((Ar h 17) g).toNatClampNeg)).2) g (((Ar h 17) g).toNatClampNeg)).2) g (((Ar h 17) h2).toNatClampNeg)).1) - ((v39 q cc gc ((v39 q cc gc ((v39 q cc gc ((v39 q cc gc h h2 (((Ar h 17) g).toNatClampNeg)).2) g (((Ar h 17) g).toNatClampNeg)).2) g (((Ar h 17) h2).toNatClampNeg)).2) h2 (((Ar h 17) h2).toNatClampNeg)).1)))], [.int (((v39 q cc gc h h2 (((Ar h 17) g).toNatClampNeg)).1) - ((v39 q cc gc ((v39 q cc gc h h2 (((Ar h 17) g).toNatClampNeg)).2) g (((Ar h 17) g).toNatClampNeg)).1))], (v39 q cc gc ((v39 q cc gc ((v39 q cc gc ((v39 q cc gc h h2 (((Ar h 17) g).toNatClampNeg)).2) g (((Ar h 17) g).toNatClampNeg)).2) g (((Ar h 17) h2).toNatClampNeg)).2) h2 (((Ar h 17) h2).toNatClampNeg)).2, 198, sl) = some R := hh
    obtain ⟨n, hh⟩ := en_zn (cc := .le) (off := 16) (t := 123) (b := pm_cmp .le (((v39 q cc gc h h2 (((Ar h 17) g).toNatClampNeg)).1) - ((v39 q cc gc ((v39 q cc gc h h2 (((Ar h 17) g).toNatClampNeg)).2) g (((Ar h 17) g).toNatClampNeg)).1)) 0) rfl rfl rfl hh
    have hj22 : ∃ mJ, pm_run PT mJ fr lo 146 (cond (pm_cmp .le (((v39 q cc gc h h2 (((Ar h 17) g).toNatClampNeg)).1) - ((v39 q cc gc ((v39 q cc gc h h2 (((Ar h 17) g).toNatClampNeg)).2) g (((Ar h 17) g).toNatClampNeg)).1)) 0) (124, [some (.ref 0), some (.int (nI g)), some (.int (nI h2)), some (.int (nI (((Ar h 17) g).toNatClampNeg))), some (.int (nI (((Ar h 17) h2).toNatClampNeg))), some (.int (((v39 q cc gc h h2 (((Ar h 17) g).toNatClampNeg)).1) - ((v39 q cc gc ((v39 q cc gc h h2 (((Ar h 17) g).toNatClampNeg)).2) g (((Ar h 17) g).toNatClampNeg)).1))), some (.int (((v39 q cc gc ((v39 q cc gc ((v39 q cc gc h h2 (((Ar h 17) g).toNatClampNeg)).2) g (((Ar h 17) g).toNatClampNeg)).2) g (((Ar h 17) h2).toNatClampNeg)).1) - ((v39 q cc gc ((v39 q cc gc ((v39 q cc gc ((v39 q cc gc h h2 (((Ar h 17) g).toNatClampNeg)).2) g (((Ar h 17) g).toNatClampNeg)).2) g (((Ar h 17) h2).toNatClampNeg)).2) h2 (((Ar h 17) h2).toNatClampNeg)).1)))], [.int (nI 0)], (v39 q cc gc ((v39 q cc gc ((v39 q cc gc ((v39 q cc gc h h2 (((Ar h 17) g).toNatClampNeg)).2) g (((Ar h 17) g).toNatClampNeg)).2) g (((Ar h 17) h2).toNatClampNeg)).2) h2 (((Ar h 17) h2).toNatClampNeg)).2, 198, sl) (124, [some (.ref 0), some (.int (nI g)), some (.int (nI h2)), some (.int (nI (((Ar h 17) g).toNatClampNeg))), some (.int (nI (((Ar h 17) h2).toNatClampNeg))), some (.int (((v39 q cc gc h h2 (((Ar h 17) g).toNatClampNeg)).1) - ((v39 q cc gc ((v39 q cc gc h h2 (((Ar h 17) g).toNatClampNeg)).2) g (((Ar h 17) g).toNatClampNeg)).1))), some (.int (((v39 q cc gc ((v39 q cc gc ((v39 q cc gc h h2 (((Ar h 17) g).toNatClampNeg)).2) g (((Ar h 17) g).toNatClampNeg)).2) g (((Ar h 17) h2).toNatClampNeg)).1) - ((v39 q cc gc ((v39 q cc gc ((v39 q cc gc ((v39 q cc gc h h2 (((Ar h 17) g).toNatClampNeg)).2) g (((Ar h 17) g).toNatClampNeg)).2) g (((Ar h 17) h2).toNatClampNeg)).2) h2 (((Ar h 17) h2).toNatClampNeg)).1)))], [.int (cond (pm_cmp .le (((v39 q cc gc ((v39 q cc gc ((v39 q cc gc h h2 (((Ar h 17) g).toNatClampNeg)).2) g (((Ar h 17) g).toNatClampNeg)).2) g (((Ar h 17) h2).toNatClampNeg)).1) - ((v39 q cc gc ((v39 q cc gc ((v39 q cc gc ((v39 q cc gc h h2 (((Ar h 17) g).toNatClampNeg)).2) g (((Ar h 17) g).toNatClampNeg)).2) g (((Ar h 17) h2).toNatClampNeg)).2) h2 (((Ar h 17) h2).toNatClampNeg)).1)) 0) (nI 0) ((((v39 q cc gc h h2 (((Ar h 17) g).toNatClampNeg)).1) - ((v39 q cc gc ((v39 q cc gc h h2 (((Ar h 17) g).toNatClampNeg)).2) g (((Ar h 17) g).toNatClampNeg)).1)) + (((v39 q cc gc ((v39 q cc gc ((v39 q cc gc h h2 (((Ar h 17) g).toNatClampNeg)).2) g (((Ar h 17) g).toNatClampNeg)).2) g (((Ar h 17) h2).toNatClampNeg)).1) - ((v39 q cc gc ((v39 q cc gc ((v39 q cc gc ((v39 q cc gc h h2 (((Ar h 17) g).toNatClampNeg)).2) g (((Ar h 17) g).toNatClampNeg)).2) g (((Ar h 17) h2).toNatClampNeg)).2) h2 (((Ar h 17) h2).toNatClampNeg)).1))))], (v39 q cc gc ((v39 q cc gc ((v39 q cc gc ((v39 q cc gc h h2 (((Ar h 17) g).toNatClampNeg)).2) g (((Ar h 17) g).toNatClampNeg)).2) g (((Ar h 17) h2).toNatClampNeg)).2) h2 (((Ar h 17) h2).toNatClampNeg)).2, 198, sl)) = some R := en_J (fun z19 => by
        have hh := en_t z19 hh
        have hh : pm_run PT n fr lo 146 (123, [some (.ref 0), some (.int (nI g)), some (.int (nI h2)), some (.int (nI (((Ar h 17) g).toNatClampNeg))), some (.int (nI (((Ar h 17) h2).toNatClampNeg))), some (.int (((v39 q cc gc h h2 (((Ar h 17) g).toNatClampNeg)).1) - ((v39 q cc gc ((v39 q cc gc h h2 (((Ar h 17) g).toNatClampNeg)).2) g (((Ar h 17) g).toNatClampNeg)).1))), some (.int (((v39 q cc gc ((v39 q cc gc ((v39 q cc gc h h2 (((Ar h 17) g).toNatClampNeg)).2) g (((Ar h 17) g).toNatClampNeg)).2) g (((Ar h 17) h2).toNatClampNeg)).1) - ((v39 q cc gc ((v39 q cc gc ((v39 q cc gc ((v39 q cc gc h h2 (((Ar h 17) g).toNatClampNeg)).2) g (((Ar h 17) g).toNatClampNeg)).2) g (((Ar h 17) h2).toNatClampNeg)).2) h2 (((Ar h 17) h2).toNatClampNeg)).1)))], [], (v39 q cc gc ((v39 q cc gc ((v39 q cc gc ((v39 q cc gc h h2 (((Ar h 17) g).toNatClampNeg)).2) g (((Ar h 17) g).toNatClampNeg)).2) g (((Ar h 17) h2).toNatClampNeg)).2) h2 (((Ar h 17) h2).toNatClampNeg)).2, 198, sl) = some R := hh
        obtain ⟨n, hh⟩ := rn_i rfl rfl rfl rfl hh
        exact ⟨n, hh⟩) (fun z19 => by
        have hh := en_f z19 hh
        have hh : pm_run PT n fr lo 146 (110, [some (.ref 0), some (.int (nI g)), some (.int (nI h2)), some (.int (nI (((Ar h 17) g).toNatClampNeg))), some (.int (nI (((Ar h 17) h2).toNatClampNeg))), some (.int (((v39 q cc gc h h2 (((Ar h 17) g).toNatClampNeg)).1) - ((v39 q cc gc ((v39 q cc gc h h2 (((Ar h 17) g).toNatClampNeg)).2) g (((Ar h 17) g).toNatClampNeg)).1))), some (.int (((v39 q cc gc ((v39 q cc gc ((v39 q cc gc h h2 (((Ar h 17) g).toNatClampNeg)).2) g (((Ar h 17) g).toNatClampNeg)).2) g (((Ar h 17) h2).toNatClampNeg)).1) - ((v39 q cc gc ((v39 q cc gc ((v39 q cc gc ((v39 q cc gc h h2 (((Ar h 17) g).toNatClampNeg)).2) g (((Ar h 17) g).toNatClampNeg)).2) g (((Ar h 17) h2).toNatClampNeg)).2) h2 (((Ar h 17) h2).toNatClampNeg)).1)))], [], (v39 q cc gc ((v39 q cc gc ((v39 q cc gc ((v39 q cc gc h h2 (((Ar h 17) g).toNatClampNeg)).2) g (((Ar h 17) g).toNatClampNeg)).2) g (((Ar h 17) h2).toNatClampNeg)).2) h2 (((Ar h 17) h2).toNatClampNeg)).2, 198, sl) = some R := hh
        obtain ⟨n, hh⟩ := rn_i rfl rfl rfl rfl hh
        have hh : pm_run PT n fr lo 146 (112, [some (.ref 0), some (.int (nI g)), some (.int (nI h2)), some (.int (nI (((Ar h 17) g).toNatClampNeg))), some (.int (nI (((Ar h 17) h2).toNatClampNeg))), some (.int (((v39 q cc gc h h2 (((Ar h 17) g).toNatClampNeg)).1) - ((v39 q cc gc ((v39 q cc gc h h2 (((Ar h 17) g).toNatClampNeg)).2) g (((Ar h 17) g).toNatClampNeg)).1))), some (.int (((v39 q cc gc ((v39 q cc gc ((v39 q cc gc h h2 (((Ar h 17) g).toNatClampNeg)).2) g (((Ar h 17) g).toNatClampNeg)).2) g (((Ar h 17) h2).toNatClampNeg)).1) - ((v39 q cc gc ((v39 q cc gc ((v39 q cc gc ((v39 q cc gc h h2 (((Ar h 17) g).toNatClampNeg)).2) g (((Ar h 17) g).toNatClampNeg)).2) g (((Ar h 17) h2).toNatClampNeg)).2) h2 (((Ar h 17) h2).toNatClampNeg)).1)))], [.int (((v39 q cc gc ((v39 q cc gc ((v39 q cc gc h h2 (((Ar h 17) g).toNatClampNeg)).2) g (((Ar h 17) g).toNatClampNeg)).2) g (((Ar h 17) h2).toNatClampNeg)).1) - ((v39 q cc gc ((v39 q cc gc ((v39 q cc gc ((v39 q cc gc h h2 (((Ar h 17) g).toNatClampNeg)).2) g (((Ar h 17) g).toNatClampNeg)).2) g (((Ar h 17) h2).toNatClampNeg)).2) h2 (((Ar h 17) h2).toNatClampNeg)).1))], (v39 q cc gc ((v39 q cc gc ((v39 q cc gc ((v39 q cc gc h h2 (((Ar h 17) g).toNatClampNeg)).2) g (((Ar h 17) g).toNatClampNeg)).2) g (((Ar h 17) h2).toNatClampNeg)).2) h2 (((Ar h 17) h2).toNatClampNeg)).2, 198, sl) = some R := hh
        obtain ⟨n, hh⟩ := en_zn (cc := .le) (off := 11) (t := 123) (b := pm_cmp .le (((v39 q cc gc ((v39 q cc gc ((v39 q cc gc h h2 (((Ar h 17) g).toNatClampNeg)).2) g (((Ar h 17) g).toNatClampNeg)).2) g (((Ar h 17) h2).toNatClampNeg)).1) - ((v39 q cc gc ((v39 q cc gc ((v39 q cc gc ((v39 q cc gc h h2 (((Ar h 17) g).toNatClampNeg)).2) g (((Ar h 17) g).toNatClampNeg)).2) g (((Ar h 17) h2).toNatClampNeg)).2) h2 (((Ar h 17) h2).toNatClampNeg)).1)) 0) rfl rfl rfl hh
        have hj21 : ∃ mJ, pm_run PT mJ fr lo 146 (cond (pm_cmp .le (((v39 q cc gc ((v39 q cc gc ((v39 q cc gc h h2 (((Ar h 17) g).toNatClampNeg)).2) g (((Ar h 17) g).toNatClampNeg)).2) g (((Ar h 17) h2).toNatClampNeg)).1) - ((v39 q cc gc ((v39 q cc gc ((v39 q cc gc ((v39 q cc gc h h2 (((Ar h 17) g).toNatClampNeg)).2) g (((Ar h 17) g).toNatClampNeg)).2) g (((Ar h 17) h2).toNatClampNeg)).2) h2 (((Ar h 17) h2).toNatClampNeg)).1)) 0) (124, [some (.ref 0), some (.int (nI g)), some (.int (nI h2)), some (.int (nI (((Ar h 17) g).toNatClampNeg))), some (.int (nI (((Ar h 17) h2).toNatClampNeg))), some (.int (((v39 q cc gc h h2 (((Ar h 17) g).toNatClampNeg)).1) - ((v39 q cc gc ((v39 q cc gc h h2 (((Ar h 17) g).toNatClampNeg)).2) g (((Ar h 17) g).toNatClampNeg)).1))), some (.int (((v39 q cc gc ((v39 q cc gc ((v39 q cc gc h h2 (((Ar h 17) g).toNatClampNeg)).2) g (((Ar h 17) g).toNatClampNeg)).2) g (((Ar h 17) h2).toNatClampNeg)).1) - ((v39 q cc gc ((v39 q cc gc ((v39 q cc gc ((v39 q cc gc h h2 (((Ar h 17) g).toNatClampNeg)).2) g (((Ar h 17) g).toNatClampNeg)).2) g (((Ar h 17) h2).toNatClampNeg)).2) h2 (((Ar h 17) h2).toNatClampNeg)).1)))], [.int (nI 0)], (v39 q cc gc ((v39 q cc gc ((v39 q cc gc ((v39 q cc gc h h2 (((Ar h 17) g).toNatClampNeg)).2) g (((Ar h 17) g).toNatClampNeg)).2) g (((Ar h 17) h2).toNatClampNeg)).2) h2 (((Ar h 17) h2).toNatClampNeg)).2, 198, sl) (124, [some (.ref 0), some (.int (nI g)), some (.int (nI h2)), some (.int (nI (((Ar h 17) g).toNatClampNeg))), some (.int (nI (((Ar h 17) h2).toNatClampNeg))), some (.int (((v39 q cc gc h h2 (((Ar h 17) g).toNatClampNeg)).1) - ((v39 q cc gc ((v39 q cc gc h h2 (((Ar h 17) g).toNatClampNeg)).2) g (((Ar h 17) g).toNatClampNeg)).1))), some (.int (((v39 q cc gc ((v39 q cc gc ((v39 q cc gc h h2 (((Ar h 17) g).toNatClampNeg)).2) g (((Ar h 17) g).toNatClampNeg)).2) g (((Ar h 17) h2).toNatClampNeg)).1) - ((v39 q cc gc ((v39 q cc gc ((v39 q cc gc ((v39 q cc gc h h2 (((Ar h 17) g).toNatClampNeg)).2) g (((Ar h 17) g).toNatClampNeg)).2) g (((Ar h 17) h2).toNatClampNeg)).2) h2 (((Ar h 17) h2).toNatClampNeg)).1)))], [.int ((((v39 q cc gc h h2 (((Ar h 17) g).toNatClampNeg)).1) - ((v39 q cc gc ((v39 q cc gc h h2 (((Ar h 17) g).toNatClampNeg)).2) g (((Ar h 17) g).toNatClampNeg)).1)) + (((v39 q cc gc ((v39 q cc gc ((v39 q cc gc h h2 (((Ar h 17) g).toNatClampNeg)).2) g (((Ar h 17) g).toNatClampNeg)).2) g (((Ar h 17) h2).toNatClampNeg)).1) - ((v39 q cc gc ((v39 q cc gc ((v39 q cc gc ((v39 q cc gc h h2 (((Ar h 17) g).toNatClampNeg)).2) g (((Ar h 17) g).toNatClampNeg)).2) g (((Ar h 17) h2).toNatClampNeg)).2) h2 (((Ar h 17) h2).toNatClampNeg)).1)))], (v39 q cc gc ((v39 q cc gc ((v39 q cc gc ((v39 q cc gc h h2 (((Ar h 17) g).toNatClampNeg)).2) g (((Ar h 17) g).toNatClampNeg)).2) g (((Ar h 17) h2).toNatClampNeg)).2) h2 (((Ar h 17) h2).toNatClampNeg)).2, 198, sl)) = some R := en_J (fun z20 => by
            have hh := en_t z20 hh
            have hh : pm_run PT n fr lo 146 (123, [some (.ref 0), some (.int (nI g)), some (.int (nI h2)), some (.int (nI (((Ar h 17) g).toNatClampNeg))), some (.int (nI (((Ar h 17) h2).toNatClampNeg))), some (.int (((v39 q cc gc h h2 (((Ar h 17) g).toNatClampNeg)).1) - ((v39 q cc gc ((v39 q cc gc h h2 (((Ar h 17) g).toNatClampNeg)).2) g (((Ar h 17) g).toNatClampNeg)).1))), some (.int (((v39 q cc gc ((v39 q cc gc ((v39 q cc gc h h2 (((Ar h 17) g).toNatClampNeg)).2) g (((Ar h 17) g).toNatClampNeg)).2) g (((Ar h 17) h2).toNatClampNeg)).1) - ((v39 q cc gc ((v39 q cc gc ((v39 q cc gc ((v39 q cc gc h h2 (((Ar h 17) g).toNatClampNeg)).2) g (((Ar h 17) g).toNatClampNeg)).2) g (((Ar h 17) h2).toNatClampNeg)).2) h2 (((Ar h 17) h2).toNatClampNeg)).1)))], [], (v39 q cc gc ((v39 q cc gc ((v39 q cc gc ((v39 q cc gc h h2 (((Ar h 17) g).toNatClampNeg)).2) g (((Ar h 17) g).toNatClampNeg)).2) g (((Ar h 17) h2).toNatClampNeg)).2) h2 (((Ar h 17) h2).toNatClampNeg)).2, 198, sl) = some R := hh
            obtain ⟨n, hh⟩ := rn_i rfl rfl rfl rfl hh
            exact ⟨n, hh⟩) (fun z20 => by
            have hh := en_f z20 hh
            have hh : pm_run PT n fr lo 146 (115, [some (.ref 0), some (.int (nI g)), some (.int (nI h2)), some (.int (nI (((Ar h 17) g).toNatClampNeg))), some (.int (nI (((Ar h 17) h2).toNatClampNeg))), some (.int (((v39 q cc gc h h2 (((Ar h 17) g).toNatClampNeg)).1) - ((v39 q cc gc ((v39 q cc gc h h2 (((Ar h 17) g).toNatClampNeg)).2) g (((Ar h 17) g).toNatClampNeg)).1))), some (.int (((v39 q cc gc ((v39 q cc gc ((v39 q cc gc h h2 (((Ar h 17) g).toNatClampNeg)).2) g (((Ar h 17) g).toNatClampNeg)).2) g (((Ar h 17) h2).toNatClampNeg)).1) - ((v39 q cc gc ((v39 q cc gc ((v39 q cc gc ((v39 q cc gc h h2 (((Ar h 17) g).toNatClampNeg)).2) g (((Ar h 17) g).toNatClampNeg)).2) g (((Ar h 17) h2).toNatClampNeg)).2) h2 (((Ar h 17) h2).toNatClampNeg)).1)))], [], (v39 q cc gc ((v39 q cc gc ((v39 q cc gc ((v39 q cc gc h h2 (((Ar h 17) g).toNatClampNeg)).2) g (((Ar h 17) g).toNatClampNeg)).2) g (((Ar h 17) h2).toNatClampNeg)).2) h2 (((Ar h 17) h2).toNatClampNeg)).2, 198, sl) = some R := hh
            obtain ⟨n, hh⟩ := rn_i rfl rfl rfl rfl hh
            obtain ⟨n, hh⟩ := rn_i rfl rfl rfl rfl hh
            obtain ⟨n, hh⟩ := rn_i rfl rfl rfl rfl hh
            obtain ⟨n, hh⟩ := rn_i rfl rfl rfl rfl hh
            exact ⟨n, hh⟩)
        obtain ⟨n, hh⟩ := hj21
        rw [show (cond (pm_cmp .le (((v39 q cc gc ((v39 q cc gc ((v39 q cc gc h h2 (((Ar h 17) g).toNatClampNeg)).2) g (((Ar h 17) g).toNatClampNeg)).2) g (((Ar h 17) h2).toNatClampNeg)).1) - ((v39 q cc gc ((v39 q cc gc ((v39 q cc gc ((v39 q cc gc h h2 (((Ar h 17) g).toNatClampNeg)).2) g (((Ar h 17) g).toNatClampNeg)).2) g (((Ar h 17) h2).toNatClampNeg)).2) h2 (((Ar h 17) h2).toNatClampNeg)).1)) 0) (124, [some (.ref 0), some (.int (nI g)), some (.int (nI h2)), some (.int (nI (((Ar h 17) g).toNatClampNeg))), some (.int (nI (((Ar h 17) h2).toNatClampNeg))), some (.int (((v39 q cc gc h h2 (((Ar h 17) g).toNatClampNeg)).1) - ((v39 q cc gc ((v39 q cc gc h h2 (((Ar h 17) g).toNatClampNeg)).2) g (((Ar h 17) g).toNatClampNeg)).1))), some (.int (((v39 q cc gc ((v39 q cc gc ((v39 q cc gc h h2 (((Ar h 17) g).toNatClampNeg)).2) g (((Ar h 17) g).toNatClampNeg)).2) g (((Ar h 17) h2).toNatClampNeg)).1) - ((v39 q cc gc ((v39 q cc gc ((v39 q cc gc ((v39 q cc gc h h2 (((Ar h 17) g).toNatClampNeg)).2) g (((Ar h 17) g).toNatClampNeg)).2) g (((Ar h 17) h2).toNatClampNeg)).2) h2 (((Ar h 17) h2).toNatClampNeg)).1)))], [.int (nI 0)], (v39 q cc gc ((v39 q cc gc ((v39 q cc gc ((v39 q cc gc h h2 (((Ar h 17) g).toNatClampNeg)).2) g (((Ar h 17) g).toNatClampNeg)).2) g (((Ar h 17) h2).toNatClampNeg)).2) h2 (((Ar h 17) h2).toNatClampNeg)).2, 198, sl) (124, [some (.ref 0), some (.int (nI g)), some (.int (nI h2)), some (.int (nI (((Ar h 17) g).toNatClampNeg))), some (.int (nI (((Ar h 17) h2).toNatClampNeg))), some (.int (((v39 q cc gc h h2 (((Ar h 17) g).toNatClampNeg)).1) - ((v39 q cc gc ((v39 q cc gc h h2 (((Ar h 17) g).toNatClampNeg)).2) g (((Ar h 17) g).toNatClampNeg)).1))), some (.int (((v39 q cc gc ((v39 q cc gc ((v39 q cc gc h h2 (((Ar h 17) g).toNatClampNeg)).2) g (((Ar h 17) g).toNatClampNeg)).2) g (((Ar h 17) h2).toNatClampNeg)).1) - ((v39 q cc gc ((v39 q cc gc ((v39 q cc gc ((v39 q cc gc h h2 (((Ar h 17) g).toNatClampNeg)).2) g (((Ar h 17) g).toNatClampNeg)).2) g (((Ar h 17) h2).toNatClampNeg)).2) h2 (((Ar h 17) h2).toNatClampNeg)).1)))], [.int ((((v39 q cc gc h h2 (((Ar h 17) g).toNatClampNeg)).1) - ((v39 q cc gc ((v39 q cc gc h h2 (((Ar h 17) g).toNatClampNeg)).2) g (((Ar h 17) g).toNatClampNeg)).1)) + (((v39 q cc gc ((v39 q cc gc ((v39 q cc gc h h2 (((Ar h 17) g).toNatClampNeg)).2) g (((Ar h 17) g).toNatClampNeg)).2) g (((Ar h 17) h2).toNatClampNeg)).1) - ((v39 q cc gc ((v39 q cc gc ((v39 q cc gc ((v39 q cc gc h h2 (((Ar h 17) g).toNatClampNeg)).2) g (((Ar h 17) g).toNatClampNeg)).2) g (((Ar h 17) h2).toNatClampNeg)).2) h2 (((Ar h 17) h2).toNatClampNeg)).1)))], (v39 q cc gc ((v39 q cc gc ((v39 q cc gc ((v39 q cc gc h h2 (((Ar h 17) g).toNatClampNeg)).2) g (((Ar h 17) g).toNatClampNeg)).2) g (((Ar h 17) h2).toNatClampNeg)).2) h2 (((Ar h 17) h2).toNatClampNeg)).2, 198, sl) : pm_St) = (124, [some (.ref 0), some (.int (nI g)), some (.int (nI h2)), some (.int (nI (((Ar h 17) g).toNatClampNeg))), some (.int (nI (((Ar h 17) h2).toNatClampNeg))), some (.int (((v39 q cc gc h h2 (((Ar h 17) g).toNatClampNeg)).1) - ((v39 q cc gc ((v39 q cc gc h h2 (((Ar h 17) g).toNatClampNeg)).2) g (((Ar h 17) g).toNatClampNeg)).1))), some (.int (((v39 q cc gc ((v39 q cc gc ((v39 q cc gc h h2 (((Ar h 17) g).toNatClampNeg)).2) g (((Ar h 17) g).toNatClampNeg)).2) g (((Ar h 17) h2).toNatClampNeg)).1) - ((v39 q cc gc ((v39 q cc gc ((v39 q cc gc ((v39 q cc gc h h2 (((Ar h 17) g).toNatClampNeg)).2) g (((Ar h 17) g).toNatClampNeg)).2) g (((Ar h 17) h2).toNatClampNeg)).2) h2 (((Ar h 17) h2).toNatClampNeg)).1)))], [.int (cond (pm_cmp .le (((v39 q cc gc ((v39 q cc gc ((v39 q cc gc h h2 (((Ar h 17) g).toNatClampNeg)).2) g (((Ar h 17) g).toNatClampNeg)).2) g (((Ar h 17) h2).toNatClampNeg)).1) - ((v39 q cc gc ((v39 q cc gc ((v39 q cc gc ((v39 q cc gc h h2 (((Ar h 17) g).toNatClampNeg)).2) g (((Ar h 17) g).toNatClampNeg)).2) g (((Ar h 17) h2).toNatClampNeg)).2) h2 (((Ar h 17) h2).toNatClampNeg)).1)) 0) (nI 0) ((((v39 q cc gc h h2 (((Ar h 17) g).toNatClampNeg)).1) - ((v39 q cc gc ((v39 q cc gc h h2 (((Ar h 17) g).toNatClampNeg)).2) g (((Ar h 17) g).toNatClampNeg)).1)) + (((v39 q cc gc ((v39 q cc gc ((v39 q cc gc h h2 (((Ar h 17) g).toNatClampNeg)).2) g (((Ar h 17) g).toNatClampNeg)).2) g (((Ar h 17) h2).toNatClampNeg)).1) - ((v39 q cc gc ((v39 q cc gc ((v39 q cc gc ((v39 q cc gc h h2 (((Ar h 17) g).toNatClampNeg)).2) g (((Ar h 17) g).toNatClampNeg)).2) g (((Ar h 17) h2).toNatClampNeg)).2) h2 (((Ar h 17) h2).toNatClampNeg)).1))))], (v39 q cc gc ((v39 q cc gc ((v39 q cc gc ((v39 q cc gc h h2 (((Ar h 17) g).toNatClampNeg)).2) g (((Ar h 17) g).toNatClampNeg)).2) g (((Ar h 17) h2).toNatClampNeg)).2) h2 (((Ar h 17) h2).toNatClampNeg)).2, 198, sl) from by cases (pm_cmp .le (((v39 q cc gc ((v39 q cc gc ((v39 q cc gc h h2 (((Ar h 17) g).toNatClampNeg)).2) g (((Ar h 17) g).toNatClampNeg)).2) g (((Ar h 17) h2).toNatClampNeg)).1) - ((v39 q cc gc ((v39 q cc gc ((v39 q cc gc ((v39 q cc gc h h2 (((Ar h 17) g).toNatClampNeg)).2) g (((Ar h 17) g).toNatClampNeg)).2) g (((Ar h 17) h2).toNatClampNeg)).2) h2 (((Ar h 17) h2).toNatClampNeg)).1)) 0) <;> rfl] at hh
        exact ⟨n, hh⟩)
    obtain ⟨n, hh⟩ := hj22
    rw [show (cond (pm_cmp .le (((v39 q cc gc h h2 (((Ar h 17) g).toNatClampNeg)).1) - ((v39 q cc gc ((v39 q cc gc h h2 (((Ar h 17) g).toNatClampNeg)).2) g (((Ar h 17) g).toNatClampNeg)).1)) 0) (124, [some (.ref 0), some (.int (nI g)), some (.int (nI h2)), some (.int (nI (((Ar h 17) g).toNatClampNeg))), some (.int (nI (((Ar h 17) h2).toNatClampNeg))), some (.int (((v39 q cc gc h h2 (((Ar h 17) g).toNatClampNeg)).1) - ((v39 q cc gc ((v39 q cc gc h h2 (((Ar h 17) g).toNatClampNeg)).2) g (((Ar h 17) g).toNatClampNeg)).1))), some (.int (((v39 q cc gc ((v39 q cc gc ((v39 q cc gc h h2 (((Ar h 17) g).toNatClampNeg)).2) g (((Ar h 17) g).toNatClampNeg)).2) g (((Ar h 17) h2).toNatClampNeg)).1) - ((v39 q cc gc ((v39 q cc gc ((v39 q cc gc ((v39 q cc gc h h2 (((Ar h 17) g).toNatClampNeg)).2) g (((Ar h 17) g).toNatClampNeg)).2) g (((Ar h 17) h2).toNatClampNeg)).2) h2 (((Ar h 17) h2).toNatClampNeg)).1)))], [.int (nI 0)], (v39 q cc gc ((v39 q cc gc ((v39 q cc gc ((v39 q cc gc h h2 (((Ar h 17) g).toNatClampNeg)).2) g (((Ar h 17) g).toNatClampNeg)).2) g (((Ar h 17) h2).toNatClampNeg)).2) h2 (((Ar h 17) h2).toNatClampNeg)).2, 198, sl) (124, [some (.ref 0), some (.int (nI g)), some (.int (nI h2)), some (.int (nI (((Ar h 17) g).toNatClampNeg))), some (.int (nI (((Ar h 17) h2).toNatClampNeg))), some (.int (((v39 q cc gc h h2 (((Ar h 17) g).toNatClampNeg)).1) - ((v39 q cc gc ((v39 q cc gc h h2 (((Ar h 17) g).toNatClampNeg)).2) g (((Ar h 17) g).toNatClampNeg)).1))), some (.int (((v39 q cc gc ((v39 q cc gc ((v39 q cc gc h h2 (((Ar h 17) g).toNatClampNeg)).2) g (((Ar h 17) g).toNatClampNeg)).2) g (((Ar h 17) h2).toNatClampNeg)).1) - ((v39 q cc gc ((v39 q cc gc ((v39 q cc gc ((v39 q cc gc h h2 (((Ar h 17) g).toNatClampNeg)).2) g (((Ar h 17) g).toNatClampNeg)).2) g (((Ar h 17) h2).toNatClampNeg)).2) h2 (((Ar h 17) h2).toNatClampNeg)).1)))], [.int (cond (pm_cmp .le (((v39 q cc gc ((v39 q cc gc ((v39 q cc gc h h2 (((Ar h 17) g).toNatClampNeg)).2) g (((Ar h 17) g).toNatClampNeg)).2) g (((Ar h 17) h2).toNatClampNeg)).1) - ((v39 q cc gc ((v39 q cc gc ((v39 q cc gc ((v39 q cc gc h h2 (((Ar h 17) g).toNatClampNeg)).2) g (((Ar h 17) g).toNatClampNeg)).2) g (((Ar h 17) h2).toNatClampNeg)).2) h2 (((Ar h 17) h2).toNatClampNeg)).1)) 0) (nI 0) ((((v39 q cc gc h h2 (((Ar h 17) g).toNatClampNeg)).1) - ((v39 q cc gc ((v39 q cc gc h h2 (((Ar h 17) g).toNatClampNeg)).2) g (((Ar h 17) g).toNatClampNeg)).1)) + (((v39 q cc gc ((v39 q cc gc ((v39 q cc gc h h2 (((Ar h 17) g).toNatClampNeg)).2) g (((Ar h 17) g).toNatClampNeg)).2) g (((Ar h 17) h2).toNatClampNeg)).1) - ((v39 q cc gc ((v39 q cc gc ((v39 q cc gc ((v39 q cc gc h h2 (((Ar h 17) g).toNatClampNeg)).2) g (((Ar h 17) g).toNatClampNeg)).2) g (((Ar h 17) h2).toNatClampNeg)).2) h2 (((Ar h 17) h2).toNatClampNeg)).1))))], (v39 q cc gc ((v39 q cc gc ((v39 q cc gc ((v39 q cc gc h h2 (((Ar h 17) g).toNatClampNeg)).2) g (((Ar h 17) g).toNatClampNeg)).2) g (((Ar h 17) h2).toNatClampNeg)).2) h2 (((Ar h 17) h2).toNatClampNeg)).2, 198, sl) : pm_St) = (124, [some (.ref 0), some (.int (nI g)), some (.int (nI h2)), some (.int (nI (((Ar h 17) g).toNatClampNeg))), some (.int (nI (((Ar h 17) h2).toNatClampNeg))), some (.int (((v39 q cc gc h h2 (((Ar h 17) g).toNatClampNeg)).1) - ((v39 q cc gc ((v39 q cc gc h h2 (((Ar h 17) g).toNatClampNeg)).2) g (((Ar h 17) g).toNatClampNeg)).1))), some (.int (((v39 q cc gc ((v39 q cc gc ((v39 q cc gc h h2 (((Ar h 17) g).toNatClampNeg)).2) g (((Ar h 17) g).toNatClampNeg)).2) g (((Ar h 17) h2).toNatClampNeg)).1) - ((v39 q cc gc ((v39 q cc gc ((v39 q cc gc ((v39 q cc gc h h2 (((Ar h 17) g).toNatClampNeg)).2) g (((Ar h 17) g).toNatClampNeg)).2) g (((Ar h 17) h2).toNatClampNeg)).2) h2 (((Ar h 17) h2).toNatClampNeg)).1)))], [.int (cond (pm_cmp .le (((v39 q cc gc h h2 (((Ar h 17) g).toNatClampNeg)).1) - ((v39 q cc gc ((v39 q cc gc h h2 (((Ar h 17) g).toNatClampNeg)).2) g (((Ar h 17) g).toNatClampNeg)).1)) 0) (nI 0) (cond (pm_cmp .le (((v39 q cc gc ((v39 q cc gc ((v39 q cc gc h h2 (((Ar h 17) g).toNatClampNeg)).2) g (((Ar h 17) g).toNatClampNeg)).2) g (((Ar h 17) h2).toNatClampNeg)).1) - ((v39 q cc gc ((v39 q cc gc ((v39 q cc gc ((v39 q cc gc h h2 (((Ar h 17) g).toNatClampNeg)).2) g (((Ar h 17) g).toNatClampNeg)).2) g (((Ar h 17) h2).toNatClampNeg)).2) h2 (((Ar h 17) h2).toNatClampNeg)).1)) 0) (nI 0) ((((v39 q cc gc h h2 (((Ar h 17) g).toNatClampNeg)).1) - ((v39 q cc gc ((v39 q cc gc h h2 (((Ar h 17) g).toNatClampNeg)).2) g (((Ar h 17) g).toNatClampNeg)).1)) + (((v39 q cc gc ((v39 q cc gc ((v39 q cc gc h h2 (((Ar h 17) g).toNatClampNeg)).2) g (((Ar h 17) g).toNatClampNeg)).2) g (((Ar h 17) h2).toNatClampNeg)).1) - ((v39 q cc gc ((v39 q cc gc ((v39 q cc gc ((v39 q cc gc h h2 (((Ar h 17) g).toNatClampNeg)).2) g (((Ar h 17) g).toNatClampNeg)).2) g (((Ar h 17) h2).toNatClampNeg)).2) h2 (((Ar h 17) h2).toNatClampNeg)).1)))))], (v39 q cc gc ((v39 q cc gc ((v39 q cc gc ((v39 q cc gc h h2 (((Ar h 17) g).toNatClampNeg)).2) g (((Ar h 17) g).toNatClampNeg)).2) g (((Ar h 17) h2).toNatClampNeg)).2) h2 (((Ar h 17) h2).toNatClampNeg)).2, 198, sl) from by cases (pm_cmp .le (((v39 q cc gc h h2 (((Ar h 17) g).toNatClampNeg)).1) - ((v39 q cc gc ((v39 q cc gc h h2 (((Ar h 17) g).toNatClampNeg)).2) g (((Ar h 17) g).toNatClampNeg)).1)) 0) <;> rfl] at hh
    have hh : pm_run PT n fr lo 146 (124, [some (.ref 0), some (.int (nI g)), some (.int (nI h2)), some (.int (nI (((Ar h 17) g).toNatClampNeg))), some (.int (nI (((Ar h 17) h2).toNatClampNeg))), some (.int (((v39 q cc gc h h2 (((Ar h 17) g).toNatClampNeg)).1) - ((v39 q cc gc ((v39 q cc gc h h2 (((Ar h 17) g).toNatClampNeg)).2) g (((Ar h 17) g).toNatClampNeg)).1))), some (.int (((v39 q cc gc ((v39 q cc gc ((v39 q cc gc h h2 (((Ar h 17) g).toNatClampNeg)).2) g (((Ar h 17) g).toNatClampNeg)).2) g (((Ar h 17) h2).toNatClampNeg)).1) - ((v39 q cc gc ((v39 q cc gc ((v39 q cc gc ((v39 q cc gc h h2 (((Ar h 17) g).toNatClampNeg)).2) g (((Ar h 17) g).toNatClampNeg)).2) g (((Ar h 17) h2).toNatClampNeg)).2) h2 (((Ar h 17) h2).toNatClampNeg)).1)))], [.int (cond (pm_cmp .le (((v39 q cc gc h h2 (((Ar h 17) g).toNatClampNeg)).1) - ((v39 q cc gc ((v39 q cc gc h h2 (((Ar h 17) g).toNatClampNeg)).2) g (((Ar h 17) g).toNatClampNeg)).1)) 0) (nI 0) (cond (pm_cmp .le (((v39 q cc gc ((v39 q cc gc ((v39 q cc gc h h2 (((Ar h 17) g).toNatClampNeg)).2) g (((Ar h 17) g).toNatClampNeg)).2) g (((Ar h 17) h2).toNatClampNeg)).1) - ((v39 q cc gc ((v39 q cc gc ((v39 q cc gc ((v39 q cc gc h h2 (((Ar h 17) g).toNatClampNeg)).2) g (((Ar h 17) g).toNatClampNeg)).2) g (((Ar h 17) h2).toNatClampNeg)).2) h2 (((Ar h 17) h2).toNatClampNeg)).1)) 0) (nI 0) ((((v39 q cc gc h h2 (((Ar h 17) g).toNatClampNeg)).1) - ((v39 q cc gc ((v39 q cc gc h h2 (((Ar h 17) g).toNatClampNeg)).2) g (((Ar h 17) g).toNatClampNeg)).1)) + (((v39 q cc gc ((v39 q cc gc ((v39 q cc gc h h2 (((Ar h 17) g).toNatClampNeg)).2) g (((Ar h 17) g).toNatClampNeg)).2) g (((Ar h 17) h2).toNatClampNeg)).1) - ((v39 q cc gc ((v39 q cc gc ((v39 q cc gc ((v39 q cc gc h h2 (((Ar h 17) g).toNatClampNeg)).2) g (((Ar h 17) g).toNatClampNeg)).2) g (((Ar h 17) h2).toNatClampNeg)).2) h2 (((Ar h 17) h2).toNatClampNeg)).1)))))], (v39 q cc gc ((v39 q cc gc ((v39 q cc gc ((v39 q cc gc h h2 (((Ar h 17) g).toNatClampNeg)).2) g (((Ar h 17) g).toNatClampNeg)).2) g (((Ar h 17) h2).toNatClampNeg)).2) h2 (((Ar h 17) h2).toNatClampNeg)).2, 198, sl) = some R := hh
    have er23 : R = (some (.int (cond (pm_cmp .le (((v39 q cc gc h h2 (((Ar h 17) g).toNatClampNeg)).1) - ((v39 q cc gc ((v39 q cc gc h h2 (((Ar h 17) g).toNatClampNeg)).2) g (((Ar h 17) g).toNatClampNeg)).1)) 0) (nI 0) (cond (pm_cmp .le (((v39 q cc gc ((v39 q cc gc ((v39 q cc gc h h2 (((Ar h 17) g).toNatClampNeg)).2) g (((Ar h 17) g).toNatClampNeg)).2) g (((Ar h 17) h2).toNatClampNeg)).1) - ((v39 q cc gc ((v39 q cc gc ((v39 q cc gc ((v39 q cc gc h h2 (((Ar h 17) g).toNatClampNeg)).2) g (((Ar h 17) g).toNatClampNeg)).2) g (((Ar h 17) h2).toNatClampNeg)).2) h2 (((Ar h 17) h2).toNatClampNeg)).1)) 0) (nI 0) ((((v39 q cc gc h h2 (((Ar h 17) g).toNatClampNeg)).1) - ((v39 q cc gc ((v39 q cc gc h h2 (((Ar h 17) g).toNatClampNeg)).2) g (((Ar h 17) g).toNatClampNeg)).1)) + (((v39 q cc gc ((v39 q cc gc ((v39 q cc gc h h2 (((Ar h 17) g).toNatClampNeg)).2) g (((Ar h 17) g).toNatClampNeg)).2) g (((Ar h 17) h2).toNatClampNeg)).1) - ((v39 q cc gc ((v39 q cc gc ((v39 q cc gc ((v39 q cc gc h h2 (((Ar h 17) g).toNatClampNeg)).2) g (((Ar h 17) g).toNatClampNeg)).2) g (((Ar h 17) h2).toNatClampNeg)).2) h2 (((Ar h 17) h2).toNatClampNeg)).1)))))), (v39 q cc gc ((v39 q cc gc ((v39 q cc gc ((v39 q cc gc h h2 (((Ar h 17) g).toNatClampNeg)).2) g (((Ar h 17) g).toNatClampNeg)).2) g (((Ar h 17) h2).toNatClampNeg)).2) h2 (((Ar h 17) h2).toNatClampNeg)).2, 198, sl) := (rn_ret rfl (Or.inl rfl) hh).2
    have ed : v146 q cc gc h g h2 = (cond (pm_cmp .le (((v39 q cc gc h h2 (((Ar h 17) g).toNatClampNeg)).1) - ((v39 q cc gc ((v39 q cc gc h h2 (((Ar h 17) g).toNatClampNeg)).2) g (((Ar h 17) g).toNatClampNeg)).1)) 0) (nI 0) (cond (pm_cmp .le (((v39 q cc gc ((v39 q cc gc ((v39 q cc gc h h2 (((Ar h 17) g).toNatClampNeg)).2) g (((Ar h 17) g).toNatClampNeg)).2) g (((Ar h 17) h2).toNatClampNeg)).1) - ((v39 q cc gc ((v39 q cc gc ((v39 q cc gc ((v39 q cc gc h h2 (((Ar h 17) g).toNatClampNeg)).2) g (((Ar h 17) g).toNatClampNeg)).2) g (((Ar h 17) h2).toNatClampNeg)).2) h2 (((Ar h 17) h2).toNatClampNeg)).1)) 0) (nI 0) ((((v39 q cc gc h h2 (((Ar h 17) g).toNatClampNeg)).1) - ((v39 q cc gc ((v39 q cc gc h h2 (((Ar h 17) g).toNatClampNeg)).2) g (((Ar h 17) g).toNatClampNeg)).1)) + (((v39 q cc gc ((v39 q cc gc ((v39 q cc gc h h2 (((Ar h 17) g).toNatClampNeg)).2) g (((Ar h 17) g).toNatClampNeg)).2) g (((Ar h 17) h2).toNatClampNeg)).1) - ((v39 q cc gc ((v39 q cc gc ((v39 q cc gc ((v39 q cc gc h h2 (((Ar h 17) g).toNatClampNeg)).2) g (((Ar h 17) g).toNatClampNeg)).2) g (((Ar h 17) h2).toNatClampNeg)).2) h2 (((Ar h 17) h2).toNatClampNeg)).1)))), (v39 q cc gc ((v39 q cc gc ((v39 q cc gc ((v39 q cc gc h h2 (((Ar h 17) g).toNatClampNeg)).2) g (((Ar h 17) g).toNatClampNeg)).2) g (((Ar h 17) h2).toNatClampNeg)).2) h2 (((Ar h 17) h2).toNatClampNeg)).2) := (ct z5).trans rfl
    refine ⟨?_, ?_, ?_⟩ <;> rw [ed]
    · exact er23
    · exact hc17
    · exact (fr_g rfl rfl hf18 (fr_g rfl rfl hf15 (fr_g rfl rfl hf12 (fr_g rfl rfl hf9 fr_0))))
  | false =>
    have hh := en_f z5 hh
    have hh : pm_run PT n fr lo 146 (27, [some (.ref 0), some (.int (nI g)), some (.int (nI h2)), some (.int (nI (((Ar h 17) g).toNatClampNeg))), some (.int (nI (((Ar h 17) h2).toNatClampNeg))), none, none], [], h, 198, sl) = some R := hh
    have y24 := of_decide_eq_false z5
    obtain ⟨n, hh⟩ := rn_i rfl rfl rfl rfl hh
    have hh : pm_run PT n fr lo 146 (28, [some (.ref 0), some (.int (nI g)), some (.int (nI h2)), some (.int (nI (((Ar h 17) g).toNatClampNeg))), some (.int (nI (((Ar h 17) h2).toNatClampNeg))), none, none], [.int (nI 0)], h, 198, sl) = some R := hh
    have er25 : R = (some (.int (nI 0)), h, 198, sl) := (rn_ret rfl (Or.inl rfl) hh).2
    have ed : v146 q cc gc h g h2 = (nI 0, h) := (cf z5).trans rfl
    refine ⟨?_, ?_, ?_⟩ <;> rw [ed]
    · exact er25
    · exact hw
    · exact fr_0
def v107_29b (q : QT) (cc gc : Nat) (h : pm_H) (m3 : Nat) (i : Nat) (x1 : Int32) (x2 : Int32) : Int32 × Int32 × pm_H := cond (pm_cmp .le ((v146 q cc gc h m3 i).1) x2) (cond (pm_cmp .le ((v146 q cc gc h m3 i).1) 0) x1 (x1 + Int32.ofInt 1), x2, (v146 q cc gc h m3 i).2) (cond (pm_cmp .le ((v146 q cc gc h m3 i).1) 0) x1 (x1 + Int32.ofInt 1), (v146 q cc gc h m3 i).1, v54 q cc gc (v56 q cc gc ((v146 q cc gc h m3 i).2) ((nI m3).toInt64) ((nI i).toInt64)) (((v146 q cc gc h m3 i).1).toInt64))
def v107_29 (q : QT) (cc gc : Nat) (m3 : Nat) (j i : Nat) (a : Int32 × Int32 × pm_H) : Int32 × Int32 × pm_H := lp (fun i a => v107_29b q cc gc a.2.2 m3 i a.1 a.2.1) j i a
theorem v107_29_e {n fr lo sl cc gc : Nat} {q : QT} {h : pm_H} {R : pm_Rs} {m3 : Nat} {i : Nat} {x1 : Int32} {x2 : Int32} {o5 : Option Value} (hw : HC q cc gc h) (h_m3 : m3 < 10000) (hol : NA h 17 0 8 6) (hi : gc ≤ i) (hI : i < 1000000) (hh : pm_run PT n fr lo 107 (29, [some (.ref 0), some (.int x1), some (.int x2), some (.int (nI m3)), some (.int (nI i)), o5], [], h, 198, sl) = some R) : ∃ m, pm_run PT m fr lo 107 (95, [some (.ref 0), some (.int x1), some (.int x2), some (.int (nI m3)), some (.int (nI i)), o5], [], h, 198, sl) = some R := by
  have hcc := hw.cb
  have hgc := hw.gb
  have hzr := hw.zr
  obtain ⟨n, hh⟩ := rn_i rfl rfl rfl rfl hh
  obtain ⟨n, hh⟩ := rn_i rfl rfl rfl rfl hh
  have hh : pm_run PT n fr lo 107 (32, [some (.ref 0), some (.int x1), some (.int x2), some (.int (nI m3)), some (.int (nI i)), o5], [.ref 0, .int (nI i)], h, 198, sl) = some R := hh
  obtain ⟨n, hh⟩ := rn_gr hw.wt rfl rfl (by decide) rfl (by decide) (show _ = some (2, ((5 : Nat) : Int), 1) from rfl) rfl hh
  have hh : pm_run PT n fr lo 107 (35, [some (.ref 0), some (.int x1), some (.int x2), some (.int (nI m3)), some (.int (nI i)), o5], [.ref 5, .int (nI i)], h, 198, sl) = some R := hh
  obtain ⟨n, hh⟩ := rn_gi (x := nI gc) hw.wt rfl rfl (by decide) rfl (by decide) rfl hw.x1 hh
  have hh : pm_run PT n fr lo 107 (38, [some (.ref 0), some (.int x1), some (.int x2), some (.int (nI m3)), some (.int (nI i)), o5], [.int (nI gc), .int (nI i)], h, 198, sl) = some R := hh
  obtain ⟨n, hh⟩ := en_cn (cc := .ge) (off := 57) (t := 95) (b := decide (gc ≤ i)) (hI_ge (by omega) (by omega)) rfl rfl hh
  have hh := en_t (show decide (gc ≤ i) = true from decide_eq_true (by omega)) hh
  have hh : pm_run PT n fr lo 107 (95, [some (.ref 0), some (.int x1), some (.int x2), some (.int (nI m3)), some (.int (nI i)), o5], [], h, 198, sl) = some R := hh
  exact ⟨n, hh⟩
theorem v107_29_s {n fr lo sl cc gc : Nat} {q : QT} {h : pm_H} {R : pm_Rs} {m3 : Nat} {i : Nat} {x1 : Int32} {x2 : Int32} {o5 : Option Value} (hw : HC q cc gc h) (h_m3 : m3 < 10000) (hol : NA h 17 0 8 6) (hi : i < gc) (hI : i < 1000000) (hh : pm_run PT n fr lo 107 (29, [some (.ref 0), some (.int x1), some (.int x2), some (.int (nI m3)), some (.int (nI i)), o5], [], h, 198, sl) = some R) : ∃ m w5, HC q cc gc ((v107_29b q cc gc h m3 i x1 x2).2.2) ∧ frm [3, 4, 12, 142, 144, 145, 147] [(3, 1), (142, 3), (145, 3)] h ((v107_29b q cc gc h m3 i x1 x2).2.2) ∧ NA ((v107_29b q cc gc h m3 i x1 x2).2.2) 17 0 8 6 ∧ pm_run PT m fr lo 107 (29, [some (.ref 0), some (.int ((v107_29b q cc gc h m3 i x1 x2).1)), some (.int ((v107_29b q cc gc h m3 i x1 x2).2.1)), some (.int (nI m3)), some (.int (nI (i + 1))), w5], [], (v107_29b q cc gc h m3 i x1 x2).2.2, 198, sl) = some R := by
  have hcc := hw.cb
  have hgc := hw.gb
  have hzr := hw.zr
  obtain ⟨n, hh⟩ := rn_i rfl rfl rfl rfl hh
  obtain ⟨n, hh⟩ := rn_i rfl rfl rfl rfl hh
  have hh : pm_run PT n fr lo 107 (32, [some (.ref 0), some (.int x1), some (.int x2), some (.int (nI m3)), some (.int (nI i)), o5], [.ref 0, .int (nI i)], h, 198, sl) = some R := hh
  obtain ⟨n, hh⟩ := rn_gr hw.wt rfl rfl (by decide) rfl (by decide) (show _ = some (2, ((5 : Nat) : Int), 1) from rfl) rfl hh
  have hh : pm_run PT n fr lo 107 (35, [some (.ref 0), some (.int x1), some (.int x2), some (.int (nI m3)), some (.int (nI i)), o5], [.ref 5, .int (nI i)], h, 198, sl) = some R := hh
  obtain ⟨n, hh⟩ := rn_gi (x := nI gc) hw.wt rfl rfl (by decide) rfl (by decide) rfl hw.x1 hh
  have hh : pm_run PT n fr lo 107 (38, [some (.ref 0), some (.int x1), some (.int x2), some (.int (nI m3)), some (.int (nI i)), o5], [.int (nI gc), .int (nI i)], h, 198, sl) = some R := hh
  obtain ⟨n, hh⟩ := en_cn (cc := .ge) (off := 57) (t := 95) (b := decide (gc ≤ i)) (hI_ge (by omega) (by omega)) rfl rfl hh
  have hh := en_f (show decide (gc ≤ i) = false from decide_eq_false (by omega)) hh
  have hh : pm_run PT n fr lo 107 (41, [some (.ref 0), some (.int x1), some (.int x2), some (.int (nI m3)), some (.int (nI i)), o5], [], h, 198, sl) = some R := hh
  obtain ⟨n, hh⟩ := rn_i rfl rfl rfl rfl hh
  obtain ⟨n, hh⟩ := rn_i rfl rfl rfl rfl hh
  obtain ⟨n, hh⟩ := rn_i rfl rfl rfl rfl hh
  have hh : pm_run PT n fr lo 107 (45, [some (.ref 0), some (.int x1), some (.int x2), some (.int (nI m3)), some (.int (nI i)), o5], [.int (nI i), .int (nI m3), .ref 0], h, 198, sl) = some R := hh
  obtain ⟨n, fr1, lo1, r1, hh1, hh⟩ := rn_call (w := 0) (t := 146) rfl rfl hh
  obtain ⟨er4, hc5, hf6⟩ := v146_ok (g := m3) (h2 := i) hw (by omega) (by omega) hol hh1
  subst er4
  obtain ⟨n, hh⟩ := rn_i rfl rfl rfl rfl hh
  obtain ⟨n, hh⟩ := rn_i rfl rfl rfl rfl hh
  have hh : pm_run PT n fr lo 107 (52, [some (.ref 0), some (.int x1), some (.int x2), some (.int (nI m3)), some (.int (nI i)), some (.int ((v146 q cc gc h m3 i).1))], [.int ((v146 q cc gc h m3 i).1)], (v146 q cc gc h m3 i).2, 198, sl) = some R := hh
  obtain ⟨n, hh⟩ := en_zn (cc := .le) (off := 6) (t := 58) (b := pm_cmp .le ((v146 q cc gc h m3 i).1) 0) rfl rfl rfl hh
  have hj8 : ∃ mJ, pm_run PT mJ fr lo 107 (cond (pm_cmp .le ((v146 q cc gc h m3 i).1) 0) (58, [some (.ref 0), some (.int x1), some (.int x2), some (.int (nI m3)), some (.int (nI i)), some (.int ((v146 q cc gc h m3 i).1))], [], (v146 q cc gc h m3 i).2, 198, sl) (58, [some (.ref 0), some (.int (x1 + Int32.ofInt 1)), some (.int x2), some (.int (nI m3)), some (.int (nI i)), some (.int ((v146 q cc gc h m3 i).1))], [], (v146 q cc gc h m3 i).2, 198, sl)) = some R := en_J (fun z7 => by
      have hh := en_t z7 hh
      have hh : pm_run PT n fr lo 107 (58, [some (.ref 0), some (.int x1), some (.int x2), some (.int (nI m3)), some (.int (nI i)), some (.int ((v146 q cc gc h m3 i).1))], [], (v146 q cc gc h m3 i).2, 198, sl) = some R := hh
      exact ⟨n, hh⟩) (fun z7 => by
      have hh := en_f z7 hh
      have hh : pm_run PT n fr lo 107 (55, [some (.ref 0), some (.int x1), some (.int x2), some (.int (nI m3)), some (.int (nI i)), some (.int ((v146 q cc gc h m3 i).1))], [], (v146 q cc gc h m3 i).2, 198, sl) = some R := hh
      obtain ⟨n, hh⟩ := rn_i rfl rfl rfl rfl hh
      exact ⟨n, hh⟩)
  obtain ⟨n, hh⟩ := hj8
  rw [show (cond (pm_cmp .le ((v146 q cc gc h m3 i).1) 0) (58, [some (.ref 0), some (.int x1), some (.int x2), some (.int (nI m3)), some (.int (nI i)), some (.int ((v146 q cc gc h m3 i).1))], [], (v146 q cc gc h m3 i).2, 198, sl) (58, [some (.ref 0), some (.int (x1 + Int32.ofInt 1)), some (.int x2), some (.int (nI m3)), some (.int (nI i)), some (.int ((v146 q cc gc h m3 i).1))], [], (v146 q cc gc h m3 i).2, 198, sl) : pm_St) = (58, [some (.ref 0), some (.int (cond (pm_cmp .le ((v146 q cc gc h m3 i).1) 0) x1 (x1 + Int32.ofInt 1))), some (.int x2), some (.int (nI m3)), some (.int (nI i)), some (.int ((v146 q cc gc h m3 i).1))], [], (v146 q cc gc h m3 i).2, 198, sl) from by cases (pm_cmp .le ((v146 q cc gc h m3 i).1) 0) <;> rfl] at hh
  obtain ⟨n, hh⟩ := rn_i rfl rfl rfl rfl hh
  obtain ⟨n, hh⟩ := rn_i rfl rfl rfl rfl hh
  have hh : pm_run PT n fr lo 107 (61, [some (.ref 0), some (.int (cond (pm_cmp .le ((v146 q cc gc h m3 i).1) 0) x1 (x1 + Int32.ofInt 1))), some (.int x2), some (.int (nI m3)), some (.int (nI i)), some (.int ((v146 q cc gc h m3 i).1))], [.int x2, .int ((v146 q cc gc h m3 i).1)], (v146 q cc gc h m3 i).2, 198, sl) = some R := hh
  obtain ⟨n, hh⟩ := en_cn (cc := .le) (off := 28) (t := 89) (b := pm_cmp .le ((v146 q cc gc h m3 i).1) x2) rfl rfl rfl hh
  cases z9 : pm_cmp .le ((v146 q cc gc h m3 i).1) x2 with
  | true =>
    have hh := en_t z9 hh
    have hh : pm_run PT n fr lo 107 (89, [some (.ref 0), some (.int (cond (pm_cmp .le ((v146 q cc gc h m3 i).1) 0) x1 (x1 + Int32.ofInt 1))), some (.int x2), some (.int (nI m3)), some (.int (nI i)), some (.int ((v146 q cc gc h m3 i).1))], [], (v146 q cc gc h m3 i).2, 198, sl) = some R := hh
    have hh : pm_run PT n fr lo 107 (89, [some (.ref 0), some (.int (cond (pm_cmp .le ((v146 q cc gc h m3 i).1) 0) x1 (x1 + Int32.ofInt 1))), some (.int x2), some (.int (nI m3)), some (.int (nI i)), some (.int ((v146 q cc gc h m3 i).1))], [], (v146 q cc gc h m3 i).2, 198, sl) = some R := hh
    obtain ⟨n, hh⟩ := en_inc (x := i) (c := 1) (j := 4) rfl rfl (by decide) hh
    have hh : pm_run PT n fr lo 107 (92, [some (.ref 0), some (.int (cond (pm_cmp .le ((v146 q cc gc h m3 i).1) 0) x1 (x1 + Int32.ofInt 1))), some (.int x2), some (.int (nI m3)), some (.int (nI (i + 1))), some (.int ((v146 q cc gc h m3 i).1))], [], (v146 q cc gc h m3 i).2, 198, sl) = some R := hh
    obtain ⟨n, hh⟩ := rn_i rfl rfl rfl rfl hh
    have ed : v107_29b q cc gc h m3 i x1 x2 = (cond (pm_cmp .le ((v146 q cc gc h m3 i).1) 0) x1 (x1 + Int32.ofInt 1), x2, (v146 q cc gc h m3 i).2) := (ct z9).trans rfl
    rw [ed]
    exact ⟨n, some (.int ((v146 q cc gc h m3 i).1)), hc5, (fr_g rfl rfl hf6 fr_0), (NA_e ((Ar_e (hf6.1 17 rfl)).trans rfl) hol), hh⟩
  | false =>
    have hh := en_f z9 hh
    have hh : pm_run PT n fr lo 107 (64, [some (.ref 0), some (.int (cond (pm_cmp .le ((v146 q cc gc h m3 i).1) 0) x1 (x1 + Int32.ofInt 1))), some (.int x2), some (.int (nI m3)), some (.int (nI i)), some (.int ((v146 q cc gc h m3 i).1))], [], (v146 q cc gc h m3 i).2, 198, sl) = some R := hh
    obtain ⟨n, hh⟩ := rn_i rfl rfl rfl rfl hh
    obtain ⟨n, hh⟩ := rn_i rfl rfl rfl rfl hh
    obtain ⟨n, hh⟩ := rn_i rfl rfl rfl rfl hh
    have hh : pm_run PT n fr lo 107 (68, [some (.ref 0), some (.int (cond (pm_cmp .le ((v146 q cc gc h m3 i).1) 0) x1 (x1 + Int32.ofInt 1))), some (.int ((v146 q cc gc h m3 i).1)), some (.int (nI m3)), some (.int (nI i)), some (.int ((v146 q cc gc h m3 i).1))], [.ref 0], (v146 q cc gc h m3 i).2, 198, sl) = some R := hh
    obtain ⟨n, hh⟩ := rn_gr hc5.wt rfl rfl (by decide) rfl (by decide) (show _ = some (2, ((3 : Nat) : Int), 1) from rfl) rfl hh
    obtain ⟨n, hh⟩ := rn_i rfl rfl rfl rfl hh
    obtain ⟨n, hh⟩ := rn_i rfl rfl rfl rfl hh
    obtain ⟨n, hh⟩ := rn_i rfl rfl rfl rfl hh
    obtain ⟨n, hh⟩ := rn_i rfl rfl rfl rfl hh
    have hh : pm_run PT n fr lo 107 (76, [some (.ref 0), some (.int (cond (pm_cmp .le ((v146 q cc gc h m3 i).1) 0) x1 (x1 + Int32.ofInt 1))), some (.int ((v146 q cc gc h m3 i).1)), some (.int (nI m3)), some (.int (nI i)), some (.int ((v146 q cc gc h m3 i).1))], [.long ((nI i).toInt64), .long ((nI m3).toInt64), .ref 3], (v146 q cc gc h m3 i).2, 198, sl) = some R := hh
    obtain ⟨n, fr1, lo1, r1, hh1, hh⟩ := rn_call (w := 0) (t := 56) rfl rfl hh
    obtain ⟨er10, hc11, hf12⟩ := v56_ok (v := ((nI m3).toInt64)) (w := ((nI i).toInt64)) hc5 hh1
    subst er10
    obtain ⟨n, hh⟩ := rn_i rfl rfl rfl rfl hh
    have hh : pm_run PT n fr lo 107 (80, [some (.ref 0), some (.int (cond (pm_cmp .le ((v146 q cc gc h m3 i).1) 0) x1 (x1 + Int32.ofInt 1))), some (.int ((v146 q cc gc h m3 i).1)), some (.int (nI m3)), some (.int (nI i)), some (.int ((v146 q cc gc h m3 i).1))], [.ref 0], v56 q cc gc ((v146 q cc gc h m3 i).2) ((nI m3).toInt64) ((nI i).toInt64), 198, sl) = some R := hh
    obtain ⟨n, hh⟩ := rn_gr hc11.wt rfl rfl (by decide) rfl (by decide) (show _ = some (2, ((3 : Nat) : Int), 1) from rfl) rfl hh
    obtain ⟨n, hh⟩ := rn_i rfl rfl rfl rfl hh
    obtain ⟨n, hh⟩ := rn_i rfl rfl rfl rfl hh
    have hh : pm_run PT n fr lo 107 (86, [some (.ref 0), some (.int (cond (pm_cmp .le ((v146 q cc gc h m3 i).1) 0) x1 (x1 + Int32.ofInt 1))), some (.int ((v146 q cc gc h m3 i).1)), some (.int (nI m3)), some (.int (nI i)), some (.int ((v146 q cc gc h m3 i).1))], [.long (((v146 q cc gc h m3 i).1).toInt64), .ref 3], v56 q cc gc ((v146 q cc gc h m3 i).2) ((nI m3).toInt64) ((nI i).toInt64), 198, sl) = some R := hh
    obtain ⟨n, fr1, lo1, r1, hh1, hh⟩ := rn_call (w := 0) (t := 54) rfl rfl hh
    obtain ⟨er13, hc14, hf15⟩ := v54_ok (v := (((v146 q cc gc h m3 i).1).toInt64)) hc11 hh1
    subst er13
    have hh : pm_run PT n fr lo 107 (89, [some (.ref 0), some (.int (cond (pm_cmp .le ((v146 q cc gc h m3 i).1) 0) x1 (x1 + Int32.ofInt 1))), some (.int ((v146 q cc gc h m3 i).1)), some (.int (nI m3)), some (.int (nI i)), some (.int ((v146 q cc gc h m3 i).1))], [], v54 q cc gc (v56 q cc gc ((v146 q cc gc h m3 i).2) ((nI m3).toInt64) ((nI i).toInt64)) (((v146 q cc gc h m3 i).1).toInt64), 198, sl) = some R := hh
    obtain ⟨n, hh⟩ := en_inc (x := i) (c := 1) (j := 4) rfl rfl (by decide) hh
    have hh : pm_run PT n fr lo 107 (92, [some (.ref 0), some (.int (cond (pm_cmp .le ((v146 q cc gc h m3 i).1) 0) x1 (x1 + Int32.ofInt 1))), some (.int ((v146 q cc gc h m3 i).1)), some (.int (nI m3)), some (.int (nI (i + 1))), some (.int ((v146 q cc gc h m3 i).1))], [], v54 q cc gc (v56 q cc gc ((v146 q cc gc h m3 i).2) ((nI m3).toInt64) ((nI i).toInt64)) (((v146 q cc gc h m3 i).1).toInt64), 198, sl) = some R := hh
    obtain ⟨n, hh⟩ := rn_i rfl rfl rfl rfl hh
    have ed : v107_29b q cc gc h m3 i x1 x2 = (cond (pm_cmp .le ((v146 q cc gc h m3 i).1) 0) x1 (x1 + Int32.ofInt 1), (v146 q cc gc h m3 i).1, v54 q cc gc (v56 q cc gc ((v146 q cc gc h m3 i).2) ((nI m3).toInt64) ((nI i).toInt64)) (((v146 q cc gc h m3 i).1).toInt64)) := (cf z9).trans rfl
    rw [ed]
    exact ⟨n, some (.int ((v146 q cc gc h m3 i).1)), hc14, (fr_g rfl rfl hf15 (fr_g rfl rfl hf12 (fr_g rfl rfl hf6 fr_0))), (NA_e ((Ar_e (hf15.1 17 rfl)).trans ((Ar_e (hf12.1 17 rfl)).trans ((Ar_e (hf6.1 17 rfl)).trans rfl))) hol), hh⟩
theorem v107_29_ok {fr lo sl cc gc : Nat} {q : QT} {R : pm_Rs} {m3 : Nat} : ∀ {j i : Nat} {x1 : Int32} {x2 : Int32} {o5 : Option Value} {h : pm_H} {n : Nat}, gc - i = j → i + j < 1000000 → HC q cc gc h → m3 < 10000 → NA h 17 0 8 6 → pm_run PT n fr lo 107 (29, [some (.ref 0), some (.int x1), some (.int x2), some (.int (nI m3)), some (.int (nI i)), o5], [], h, 198, sl) = some R → ∃ m wc w5, HC q cc gc ((v107_29 q cc gc m3 j i (x1, x2, h)).2.2) ∧ frm [3, 4, 12, 142, 144, 145, 147] [(3, 1), (142, 3), (145, 3)] h ((v107_29 q cc gc m3 j i (x1, x2, h)).2.2) ∧ NA ((v107_29 q cc gc m3 j i (x1, x2, h)).2.2) 17 0 8 6 ∧ pm_run PT m fr lo 107 (95, [some (.ref 0), some (.int ((v107_29 q cc gc m3 j i (x1, x2, h)).1)), some (.int ((v107_29 q cc gc m3 j i (x1, x2, h)).2.1)), some (.int (nI m3)), wc, w5], [], (v107_29 q cc gc m3 j i (x1, x2, h)).2.2, 198, sl) = some R := by
  intro j
  induction j with
  | zero =>
    intro i x1 x2 o5 h n e eI hw h_m3 hol hh
    obtain ⟨n, hh⟩ := v107_29_e hw h_m3 hol (by omega) (by omega) hh
    exact ⟨n, _, o5, hw, fr_0, hol, hh⟩
  | succ j ih =>
    intro i x1 x2 o5 h n e eI hw h_m3 hol hh
    obtain ⟨n, w5, hc, hf, hol', hh⟩ := v107_29_s hw h_m3 hol (by omega) (by omega) hh
    obtain ⟨n, wc, v5, hc2, hf2, hol'', hh⟩ := ih (by omega) (by omega) hc h_m3 hol' hh
    exact ⟨n, wc, v5, hc2, fr_t hf2 hf, hol'', hh⟩
def v107_13b (q : QT) (cc gc : Nat) (h : pm_H) (i : Nat) (x1 : Int32) (x2 : Int32) : Int32 × Int32 × pm_H := ((v107_29 q cc gc i (gc - (i + 1)) (i + 1) (x1, x2, h)).1, (v107_29 q cc gc i (gc - (i + 1)) (i + 1) (x1, x2, h)).2.1, (v107_29 q cc gc i (gc - (i + 1)) (i + 1) (x1, x2, h)).2.2)
def v107_13 (q : QT) (cc gc : Nat) (j i : Nat) (a : Int32 × Int32 × pm_H) : Int32 × Int32 × pm_H := lp (fun i a => v107_13b q cc gc a.2.2 i a.1 a.2.1) j i a
theorem v107_13_e {n fr lo sl cc gc : Nat} {q : QT} {h : pm_H} {R : pm_Rs} {i : Nat} {x1 : Int32} {x2 : Int32} {o4 : Option Value} {o5 : Option Value} (hw : HC q cc gc h) (hol : NA h 17 0 8 6) (hi : gc ≤ i) (hI : i < 1000000) (hh : pm_run PT n fr lo 107 (13, [some (.ref 0), some (.int x1), some (.int x2), some (.int (nI i)), o4, o5], [], h, 198, sl) = some R) : ∃ m, pm_run PT m fr lo 107 (101, [some (.ref 0), some (.int x1), some (.int x2), some (.int (nI i)), o4, o5], [], h, 198, sl) = some R := by
  have hcc := hw.cb
  have hgc := hw.gb
  have hzr := hw.zr
  obtain ⟨n, hh⟩ := rn_i rfl rfl rfl rfl hh
  obtain ⟨n, hh⟩ := rn_i rfl rfl rfl rfl hh
  have hh : pm_run PT n fr lo 107 (15, [some (.ref 0), some (.int x1), some (.int x2), some (.int (nI i)), o4, o5], [.ref 0, .int (nI i)], h, 198, sl) = some R := hh
  obtain ⟨n, hh⟩ := rn_gr hw.wt rfl rfl (by decide) rfl (by decide) (show _ = some (2, ((5 : Nat) : Int), 1) from rfl) rfl hh
  have hh : pm_run PT n fr lo 107 (18, [some (.ref 0), some (.int x1), some (.int x2), some (.int (nI i)), o4, o5], [.ref 5, .int (nI i)], h, 198, sl) = some R := hh
  obtain ⟨n, hh⟩ := rn_gi (x := nI gc) hw.wt rfl rfl (by decide) rfl (by decide) rfl hw.x1 hh
  have hh : pm_run PT n fr lo 107 (21, [some (.ref 0), some (.int x1), some (.int x2), some (.int (nI i)), o4, o5], [.int (nI gc), .int (nI i)], h, 198, sl) = some R := hh
  obtain ⟨n, hh⟩ := en_cn (cc := .ge) (off := 80) (t := 101) (b := decide (gc ≤ i)) (hI_ge (by omega) (by omega)) rfl rfl hh
  have hh := en_t (show decide (gc ≤ i) = true from decide_eq_true (by omega)) hh
  have hh : pm_run PT n fr lo 107 (101, [some (.ref 0), some (.int x1), some (.int x2), some (.int (nI i)), o4, o5], [], h, 198, sl) = some R := hh
  exact ⟨n, hh⟩
theorem v107_13_s {n fr lo sl cc gc : Nat} {q : QT} {h : pm_H} {R : pm_Rs} {i : Nat} {x1 : Int32} {x2 : Int32} {o4 : Option Value} {o5 : Option Value} (hw : HC q cc gc h) (hol : NA h 17 0 8 6) (hi : i < gc) (hI : i < 1000000) (hh : pm_run PT n fr lo 107 (13, [some (.ref 0), some (.int x1), some (.int x2), some (.int (nI i)), o4, o5], [], h, 198, sl) = some R) : ∃ m w4 w5, HC q cc gc ((v107_13b q cc gc h i x1 x2).2.2) ∧ frm [3, 4, 12, 142, 144, 145, 147] [(3, 1), (142, 3), (145, 3)] h ((v107_13b q cc gc h i x1 x2).2.2) ∧ NA ((v107_13b q cc gc h i x1 x2).2.2) 17 0 8 6 ∧ pm_run PT m fr lo 107 (13, [some (.ref 0), some (.int ((v107_13b q cc gc h i x1 x2).1)), some (.int ((v107_13b q cc gc h i x1 x2).2.1)), some (.int (nI (i + 1))), w4, w5], [], (v107_13b q cc gc h i x1 x2).2.2, 198, sl) = some R := by
  have hcc := hw.cb
  have hgc := hw.gb
  have hzr := hw.zr
  obtain ⟨n, hh⟩ := rn_i rfl rfl rfl rfl hh
  obtain ⟨n, hh⟩ := rn_i rfl rfl rfl rfl hh
  have hh : pm_run PT n fr lo 107 (15, [some (.ref 0), some (.int x1), some (.int x2), some (.int (nI i)), o4, o5], [.ref 0, .int (nI i)], h, 198, sl) = some R := hh
  obtain ⟨n, hh⟩ := rn_gr hw.wt rfl rfl (by decide) rfl (by decide) (show _ = some (2, ((5 : Nat) : Int), 1) from rfl) rfl hh
  have hh : pm_run PT n fr lo 107 (18, [some (.ref 0), some (.int x1), some (.int x2), some (.int (nI i)), o4, o5], [.ref 5, .int (nI i)], h, 198, sl) = some R := hh
  obtain ⟨n, hh⟩ := rn_gi (x := nI gc) hw.wt rfl rfl (by decide) rfl (by decide) rfl hw.x1 hh
  have hh : pm_run PT n fr lo 107 (21, [some (.ref 0), some (.int x1), some (.int x2), some (.int (nI i)), o4, o5], [.int (nI gc), .int (nI i)], h, 198, sl) = some R := hh
  obtain ⟨n, hh⟩ := en_cn (cc := .ge) (off := 80) (t := 101) (b := decide (gc ≤ i)) (hI_ge (by omega) (by omega)) rfl rfl hh
  have hh := en_f (show decide (gc ≤ i) = false from decide_eq_false (by omega)) hh
  have hh : pm_run PT n fr lo 107 (24, [some (.ref 0), some (.int x1), some (.int x2), some (.int (nI i)), o4, o5], [], h, 198, sl) = some R := hh
  obtain ⟨n, hh⟩ := rn_i rfl rfl rfl rfl hh
  obtain ⟨n, hh⟩ := rn_i rfl rfl rfl rfl hh
  have hh : pm_run PT n fr lo 107 (26, [some (.ref 0), some (.int x1), some (.int x2), some (.int (nI i)), o4, o5], [.int (nI 1), .int (nI i)], h, 198, sl) = some R := hh
  obtain ⟨n, hh⟩ := en_add rfl hh
  have hh : pm_run PT n fr lo 107 (27, [some (.ref 0), some (.int x1), some (.int x2), some (.int (nI i)), o4, o5], [.int (nI (i + 1))], h, 198, sl) = some R := hh
  obtain ⟨n, hh⟩ := rn_i rfl rfl rfl rfl hh
  have hh : pm_run PT n fr lo 107 (29, [some (.ref 0), some (.int x1), some (.int x2), some (.int (nI i)), some (.int (nI (i + 1))), o5], [], h, 198, sl) = some R := hh
  obtain ⟨n, u5, u4, hc7, hf8, hn6, hh⟩ := v107_29_ok (m3 := i)  (i := i + 1) (x1 := x1) (x2 := x2) (o5 := o5) (j := (gc - (i + 1))) (by omega) (by omega) hw (by omega) hol hh
  have hh : pm_run PT n fr lo 107 (95, [some (.ref 0), some (.int ((v107_29 q cc gc i (gc - (i + 1)) (i + 1) (x1, x2, h)).1)), some (.int ((v107_29 q cc gc i (gc - (i + 1)) (i + 1) (x1, x2, h)).2.1)), some (.int (nI i)), u5, u4], [], (v107_29 q cc gc i (gc - (i + 1)) (i + 1) (x1, x2, h)).2.2, 198, sl) = some R := hh
  have hh : pm_run PT n fr lo 107 (95, [some (.ref 0), some (.int ((v107_29 q cc gc i (gc - (i + 1)) (i + 1) (x1, x2, h)).1)), some (.int ((v107_29 q cc gc i (gc - (i + 1)) (i + 1) (x1, x2, h)).2.1)), some (.int (nI i)), u5, u4], [], (v107_29 q cc gc i (gc - (i + 1)) (i + 1) (x1, x2, h)).2.2, 198, sl) = some R := hh
  obtain ⟨n, hh⟩ := en_inc (x := i) (c := 1) (j := 3) rfl rfl (by decide) hh
  have hh : pm_run PT n fr lo 107 (98, [some (.ref 0), some (.int ((v107_29 q cc gc i (gc - (i + 1)) (i + 1) (x1, x2, h)).1)), some (.int ((v107_29 q cc gc i (gc - (i + 1)) (i + 1) (x1, x2, h)).2.1)), some (.int (nI (i + 1))), u5, u4], [], (v107_29 q cc gc i (gc - (i + 1)) (i + 1) (x1, x2, h)).2.2, 198, sl) = some R := hh
  obtain ⟨n, hh⟩ := rn_i rfl rfl rfl rfl hh
  have ed : v107_13b q cc gc h i x1 x2 = ((v107_29 q cc gc i (gc - (i + 1)) (i + 1) (x1, x2, h)).1, (v107_29 q cc gc i (gc - (i + 1)) (i + 1) (x1, x2, h)).2.1, (v107_29 q cc gc i (gc - (i + 1)) (i + 1) (x1, x2, h)).2.2) := rfl
  rw [ed]
  exact ⟨n, u5, u4, hc7, (fr_g rfl rfl hf8 fr_0), (NA_e ((Ar_e (hf8.1 17 rfl)).trans rfl) hol), hh⟩
theorem v107_13_ok {fr lo sl cc gc : Nat} {q : QT} {R : pm_Rs} : ∀ {j i : Nat} {x1 : Int32} {x2 : Int32} {o4 : Option Value} {o5 : Option Value} {h : pm_H} {n : Nat}, gc - i = j → i + j < 1000000 → HC q cc gc h → NA h 17 0 8 6 → pm_run PT n fr lo 107 (13, [some (.ref 0), some (.int x1), some (.int x2), some (.int (nI i)), o4, o5], [], h, 198, sl) = some R → ∃ m wc w4 w5, HC q cc gc ((v107_13 q cc gc j i (x1, x2, h)).2.2) ∧ frm [3, 4, 12, 142, 144, 145, 147] [(3, 1), (142, 3), (145, 3)] h ((v107_13 q cc gc j i (x1, x2, h)).2.2) ∧ NA ((v107_13 q cc gc j i (x1, x2, h)).2.2) 17 0 8 6 ∧ pm_run PT m fr lo 107 (101, [some (.ref 0), some (.int ((v107_13 q cc gc j i (x1, x2, h)).1)), some (.int ((v107_13 q cc gc j i (x1, x2, h)).2.1)), wc, w4, w5], [], (v107_13 q cc gc j i (x1, x2, h)).2.2, 198, sl) = some R := by
  intro j
  induction j with
  | zero =>
    intro i x1 x2 o4 o5 h n e eI hw hol hh
    obtain ⟨n, hh⟩ := v107_13_e hw hol (by omega) (by omega) hh
    exact ⟨n, _, o4, o5, hw, fr_0, hol, hh⟩
  | succ j ih =>
    intro i x1 x2 o4 o5 h n e eI hw hol hh
    obtain ⟨n, w4, w5, hc, hf, hol', hh⟩ := v107_13_s hw hol (by omega) (by omega) hh
    obtain ⟨n, wc, v4, v5, hc2, hf2, hol'', hh⟩ := ih (by omega) (by omega) hc hol' hh
    exact ⟨n, wc, v4, v5, hc2, fr_t hf2 hf, hol'', hh⟩
def v107 (q : QT) (cc gc : Nat) (h : pm_H) : Int32 × pm_H := ((v107_13 q cc gc gc 0 ((nI 0), (nI 0), v53 q cc gc h)).1, (v107_13 q cc gc gc 0 ((nI 0), (nI 0), v53 q cc gc h)).2.2)
theorem v107_ok {n fr lo sl cc gc : Nat} {q : QT} {h : pm_H} {R : pm_Rs} (hw : HC q cc gc h) (hol : NA h 17 0 8 6) (hh : pm_run PT n fr lo 107 (0, pm_l0 [.ref 0] 6, [], h, 198, sl) = some R) : R = (some (.int ((v107 q cc gc h).1)), (v107 q cc gc h).2, 198, sl) ∧ HC q cc gc ((v107 q cc gc h).2) ∧ frm [3, 4, 12, 142, 144, 145, 147] [(3, 1), (142, 3), (145, 3)] h ((v107 q cc gc h).2) := by
  have hcc := hw.cb
  have hgc := hw.gb
  have hzr := hw.zr
  obtain ⟨n, hh⟩ := rn_i rfl rfl rfl rfl hh
  obtain ⟨n, hh⟩ := rn_i rfl rfl rfl rfl hh
  obtain ⟨n, hh⟩ := rn_i rfl rfl rfl rfl hh
  obtain ⟨n, hh⟩ := rn_i rfl rfl rfl rfl hh
  obtain ⟨n, hh⟩ := rn_i rfl rfl rfl rfl hh
  have hh : pm_run PT n fr lo 107 (5, [some (.ref 0), some (.int (nI 0)), some (.int (nI 0)), none, none, none], [.ref 0], h, 198, sl) = some R := hh
  obtain ⟨n, hh⟩ := rn_gr hw.wt rfl rfl (by decide) rfl (by decide) (show _ = some (2, ((3 : Nat) : Int), 1) from rfl) rfl hh
  have hh : pm_run PT n fr lo 107 (8, [some (.ref 0), some (.int (nI 0)), some (.int (nI 0)), none, none, none], [.ref 3], h, 198, sl) = some R := hh
  obtain ⟨n, fr1, lo1, r1, hh1, hh⟩ := rn_call (w := 0) (t := 53) rfl rfl hh
  obtain ⟨er1, hc2, hf3⟩ := v53_ok hw hh1
  subst er1
  obtain ⟨n, hh⟩ := rn_i rfl rfl rfl rfl hh
  obtain ⟨n, hh⟩ := rn_i rfl rfl rfl rfl hh
  have hh : pm_run PT n fr lo 107 (13, [some (.ref 0), some (.int (nI 0)), some (.int (nI 0)), some (.int (nI 0)), none, none], [], v53 q cc gc h, 198, sl) = some R := hh
  obtain ⟨n, u6, u4, u5, hc8, hf9, hn7, hh⟩ := v107_13_ok  (i := 0) (x1 := (nI 0)) (x2 := (nI 0)) (o4 := none) (o5 := none) (j := gc) (by omega) (by omega) hc2 (NA_e ((Ar_e (hf3.1 17 rfl)).trans rfl) hol) hh
  have hh : pm_run PT n fr lo 107 (101, [some (.ref 0), some (.int ((v107_13 q cc gc gc 0 ((nI 0), (nI 0), v53 q cc gc h)).1)), some (.int ((v107_13 q cc gc gc 0 ((nI 0), (nI 0), v53 q cc gc h)).2.1)), u6, u4, u5], [], (v107_13 q cc gc gc 0 ((nI 0), (nI 0), v53 q cc gc h)).2.2, 198, sl) = some R := hh
  obtain ⟨n, hh⟩ := rn_i rfl rfl rfl rfl hh
  have hh : pm_run PT n fr lo 107 (102, [some (.ref 0), some (.int ((v107_13 q cc gc gc 0 ((nI 0), (nI 0), v53 q cc gc h)).1)), some (.int ((v107_13 q cc gc gc 0 ((nI 0), (nI 0), v53 q cc gc h)).2.1)), u6, u4, u5], [.int ((v107_13 q cc gc gc 0 ((nI 0), (nI 0), v53 q cc gc h)).1)], (v107_13 q cc gc gc 0 ((nI 0), (nI 0), v53 q cc gc h)).2.2, 198, sl) = some R := hh
  have er10 : R = (some (.int ((v107_13 q cc gc gc 0 ((nI 0), (nI 0), v53 q cc gc h)).1)), (v107_13 q cc gc gc 0 ((nI 0), (nI 0), v53 q cc gc h)).2.2, 198, sl) := (rn_ret rfl (Or.inl rfl) hh).2
  have ed : v107 q cc gc h = ((v107_13 q cc gc gc 0 ((nI 0), (nI 0), v53 q cc gc h)).1, (v107_13 q cc gc gc 0 ((nI 0), (nI 0), v53 q cc gc h)).2.2) := rfl
  refine ⟨?_, ?_, ?_⟩ <;> rw [ed]
  · exact er10
  · exact hc8
  · exact (fr_g rfl rfl hf9 (fr_g rfl rfl hf3 fr_0))
def v158_2b (q : QT) (cc gc : Nat) (t0 : Int32) (i : Nat) : (Unit) ⊕ (Int32) := cond (pm_cmp .eq ((shr t0 (nI i)) &&& (nI 1)) 0) (.inl ()) (.inr (nI i))
def v158_2 (q : QT) (cc gc : Nat) (t0 : Int32) (j i : Nat) (a : Unit) : (Unit) ⊕ (Int32) := lpE (fun i a => v158_2b q cc gc t0 i) j i a
theorem v158_2_e {n fr lo sl cc gc : Nat} {q : QT} {h : pm_H} {R : pm_Rs} {t0 : Int32} {i : Nat} (hw : HC q cc gc h) (hi : 8 ≤ i) (hI : i < 1000000) (hh : pm_run PT n fr lo 158 (2, [some (.int t0), some (.int (nI i))], [], h, 198, sl) = some R) : ∃ m, pm_run PT m fr lo 158 (24, [some (.int t0), some (.int (nI i))], [], h, 198, sl) = some R := by
  have hcc := hw.cb
  have hgc := hw.gb
  have hzr := hw.zr
  obtain ⟨n, hh⟩ := rn_i rfl rfl rfl rfl hh
  obtain ⟨n, hh⟩ := rn_i rfl rfl rfl rfl hh
  have hh : pm_run PT n fr lo 158 (5, [some (.int t0), some (.int (nI i))], [.int (nI 8), .int (nI i)], h, 198, sl) = some R := hh
  obtain ⟨n, hh⟩ := en_cn (cc := .ge) (off := 19) (t := 24) (b := decide (8 ≤ i)) (hI_ge (by omega) (by omega)) rfl rfl hh
  have hh := en_t (show decide (8 ≤ i) = true from decide_eq_true (by omega)) hh
  have hh : pm_run PT n fr lo 158 (24, [some (.int t0), some (.int (nI i))], [], h, 198, sl) = some R := hh
  exact ⟨n, hh⟩
theorem v158_2_s {n fr lo sl cc gc : Nat} {q : QT} {h : pm_H} {R : pm_Rs} {t0 : Int32} {i : Nat} (hw : HC q cc gc h) (hi : i < 8) (hI : i < 1000000) (hh : pm_run PT n fr lo 158 (2, [some (.int t0), some (.int (nI i))], [], h, 198, sl) = some R) : (∃ m, ∃ a : Unit, ∃ _u : Unit, v158_2b q cc gc t0 i = .inl a ∧ pm_run PT m fr lo 158 (2, [some (.int t0), some (.int (nI (i + 1)))], [], h, 198, sl) = some R) ∨ (∃ r : Int32, v158_2b q cc gc t0 i = .inr r ∧ R = (some (.int r), h, 198, sl)) := by
  have hcc := hw.cb
  have hgc := hw.gb
  have hzr := hw.zr
  obtain ⟨n, hh⟩ := rn_i rfl rfl rfl rfl hh
  obtain ⟨n, hh⟩ := rn_i rfl rfl rfl rfl hh
  have hh : pm_run PT n fr lo 158 (5, [some (.int t0), some (.int (nI i))], [.int (nI 8), .int (nI i)], h, 198, sl) = some R := hh
  obtain ⟨n, hh⟩ := en_cn (cc := .ge) (off := 19) (t := 24) (b := decide (8 ≤ i)) (hI_ge (by omega) (by omega)) rfl rfl hh
  have hh := en_f (show decide (8 ≤ i) = false from decide_eq_false (by omega)) hh
  have hh : pm_run PT n fr lo 158 (8, [some (.int t0), some (.int (nI i))], [], h, 198, sl) = some R := hh
  obtain ⟨n, hh⟩ := rn_i rfl rfl rfl rfl hh
  obtain ⟨n, hh⟩ := rn_i rfl rfl rfl rfl hh
  obtain ⟨n, hh⟩ := rn_i rfl rfl rfl rfl hh
  obtain ⟨n, hh⟩ := rn_i rfl rfl rfl rfl hh
  obtain ⟨n, hh⟩ := rn_i rfl rfl rfl rfl hh
  have hh : pm_run PT n fr lo 158 (13, [some (.int t0), some (.int (nI i))], [.int ((shr t0 (nI i)) &&& (nI 1))], h, 198, sl) = some R := hh
  obtain ⟨n, hh⟩ := en_zn (cc := .eq) (off := 5) (t := 18) (b := pm_cmp .eq ((shr t0 (nI i)) &&& (nI 1)) 0) rfl rfl rfl hh
  cases z1 : pm_cmp .eq ((shr t0 (nI i)) &&& (nI 1)) 0 with
  | true =>
    have hh := en_t z1 hh
    have hh : pm_run PT n fr lo 158 (18, [some (.int t0), some (.int (nI i))], [], h, 198, sl) = some R := hh
    have hh : pm_run PT n fr lo 158 (18, [some (.int t0), some (.int (nI i))], [], h, 198, sl) = some R := hh
    obtain ⟨n, hh⟩ := en_inc (x := i) (c := 1) (j := 1) rfl rfl (by decide) hh
    have hh : pm_run PT n fr lo 158 (21, [some (.int t0), some (.int (nI (i + 1)))], [], h, 198, sl) = some R := hh
    obtain ⟨n, hh⟩ := rn_i rfl rfl rfl rfl hh
    have ed : v158_2b q cc gc t0 i = .inl () := (ct z1).trans rfl
    exact Or.inl ⟨n, _, (), ed, hh⟩
  | false =>
    have hh := en_f z1 hh
    have hh : pm_run PT n fr lo 158 (16, [some (.int t0), some (.int (nI i))], [], h, 198, sl) = some R := hh
    obtain ⟨n, hh⟩ := rn_i rfl rfl rfl rfl hh
    have hh : pm_run PT n fr lo 158 (17, [some (.int t0), some (.int (nI i))], [.int (nI i)], h, 198, sl) = some R := hh
    have er2 : R = (some (.int (nI i)), h, 198, sl) := (rn_ret rfl (Or.inl rfl) hh).2
    have ed : v158_2b q cc gc t0 i = .inr (nI i) := (cf z1).trans rfl
    exact Or.inr ⟨_, ed, er2⟩
theorem v158_2_ok {fr lo sl cc gc : Nat} {q : QT} {R : pm_Rs} {t0 : Int32} : ∀ {j i : Nat} {h : pm_H} {n : Nat}, 8 - i = j → i + j < 1000000 → HC q cc gc h → pm_run PT n fr lo 158 (2, [some (.int t0), some (.int (nI i))], [], h, 198, sl) = some R → (∃ m, ∃ a : Unit, ∃ wc, v158_2 q cc gc t0 j i () = .inl a ∧ pm_run PT m fr lo 158 (24, [some (.int t0), wc], [], h, 198, sl) = some R) ∨ (∃ r : Int32, v158_2 q cc gc t0 j i () = .inr r ∧ R = (some (.int r), h, 198, sl)) := by
  intro j
  induction j with
  | zero =>
    intro i h n e eI hw hh
    obtain ⟨n, hh⟩ := v158_2_e hw (by omega) (by omega) hh
    exact Or.inl ⟨n, _, _, rfl, hh⟩
  | succ j ih =>
    intro i h n e eI hw hh
    rcases v158_2_s hw (by omega) (by omega) hh with ⟨n, a, _, e1, hh⟩ | ⟨r, e1, er⟩
    · rcases ih (by omega) (by omega) hw hh with ⟨n, b, wc, e2, hh⟩ | ⟨r, e2, er⟩
      · exact Or.inl ⟨n, b, wc, (lpE_l e1).trans e2, hh⟩
      · exact Or.inr ⟨r, (lpE_l e1).trans e2, er⟩
    · exact Or.inr ⟨r, lpE_r e1, er⟩
def v158 (q : QT) (cc gc : Nat) (b : Int32) : Int32 := Sum.elim (fun a2 => (Int32.ofInt (-1))) (fun r3 => r3) (v158_2 q cc gc b 8 0 ())
theorem v158_ok {n fr lo sl cc gc : Nat} {q : QT} {h : pm_H} {R : pm_Rs} {b : Int32} (hw : HC q cc gc h) (hh : pm_run PT n fr lo 158 (0, pm_l0 [.int b] 2, [], h, 198, sl) = some R) : R = (some (.int (v158 q cc gc b)), h, 198, sl) := by
  have hcc := hw.cb
  have hgc := hw.gb
  have hzr := hw.zr
  obtain ⟨n, hh⟩ := rn_i rfl rfl rfl rfl hh
  obtain ⟨n, hh⟩ := rn_i rfl rfl rfl rfl hh
  have hh : pm_run PT n fr lo 158 (2, [some (.int b), some (.int (nI 0))], [], h, 198, sl) = some R := hh
  rcases v158_2_ok (t0 := b)  (i := 0) (j := 8) (by omega) (by omega) hw hh with ⟨n, a2, u1, hs4, hh⟩ | ⟨r3, hs4, er_r3⟩
  ·
    have hh : pm_run PT n fr lo 158 (24, [some (.int b), u1], [], h, 198, sl) = some R := hh
    obtain ⟨n, hh⟩ := rn_i rfl rfl rfl rfl hh
    have hh : pm_run PT n fr lo 158 (25, [some (.int b), u1], [.int (Int32.ofInt (-1))], h, 198, sl) = some R := hh
    have er5 : R = (some (.int (Int32.ofInt (-1))), h, 198, sl) := (rn_ret rfl (Or.inl rfl) hh).2
    have ed : v158 q cc gc b = (Int32.ofInt (-1)) := (se_l hs4).trans rfl
    rw [ed]
    exact er5
  ·
    have ed : v158 q cc gc b = r3 := (se_r hs4).trans rfl
    rw [ed]
    exact er_r3
def v111 (q : QT) (cc gc : Nat) (h : pm_H) (c : Nat) : Int32 × pm_H := cond (decide (c < cc)) (cond (pm_cmp .le ((v44 q cc gc (cp73 h 19 13) c).1) (nI 99)) ((v44 q cc gc (cp73 h 19 13) c).1, v56 q cc gc ((v44 q cc gc (cp73 h 19 13) c).2) ((v158 q cc gc ((Fi ((v44 q cc gc (cp73 h 19 13) c).2) 19 5) &&& ((Fi h 13 5) ^^^ (Int32.ofInt (-1))))).toInt64) (((Ar ((v44 q cc gc (cp73 h 19 13) c).2) 20) c).toInt64)) ((Int32.ofInt (-2)), (v44 q cc gc (cp73 h 19 13) c).2)) ((Int32.ofInt (-1)), h)
theorem v111_ok {n fr lo sl cc gc : Nat} {q : QT} {h : pm_H} {R : pm_Rs} {c : Nat} (hw : HC q cc gc h) (h_c : c < 10000) (hh : pm_run PT n fr lo 111 (0, pm_l0 [.ref 0, .int (nI c)] 3, [], h, 198, sl) = some R) : R = (some (.int ((v111 q cc gc h c).1)), (v111 q cc gc h c).2, 198, sl) ∧ HC q cc gc ((v111 q cc gc h c).2) ∧ frm [3, 4, 19, 20, 21, 22, 23, 24] [(3, 1), (19, 5), (19, 6)] h ((v111 q cc gc h c).2) := by
  have hcc := hw.cb
  have hgc := hw.gb
  have hzr := hw.zr
  obtain ⟨n, hh⟩ := rn_i rfl rfl rfl rfl hh
  have hh : pm_run PT n fr lo 111 (1, [some (.ref 0), some (.int (nI c)), none], [.ref 0], h, 198, sl) = some R := hh
  obtain ⟨n, hh⟩ := rn_gr hw.wt rfl rfl (by decide) rfl (by decide) (show _ = some (2, ((5 : Nat) : Int), 1) from rfl) rfl hh
  obtain ⟨n, hh⟩ := rn_i rfl rfl rfl rfl hh
  have hh : pm_run PT n fr lo 111 (5, [some (.ref 0), some (.int (nI c)), none], [.int (nI c), .ref 5], h, 198, sl) = some R := hh
  obtain ⟨n, fr1, lo1, r1, hh1, hh⟩ := rn_call (w := 0) (t := 23) rfl rfl hh
  have er1 := xi_run hcc (hc_rC hw) hh1
  rw [cB_n (by omega)] at er1
  subst er1
  have hh : pm_run PT n fr lo 111 (8, [some (.ref 0), some (.int (nI c)), none], [.int (cond (decide (c < cc)) 1 0)], h, 198, sl) = some R := hh
  obtain ⟨n, hh⟩ := en_zn (cc := .ne) (off := 5) (t := 13) (b := decide (c < cc)) eb_ne rfl rfl hh
  cases z2 : decide (c < cc) with
  | true =>
    have hh := en_t z2 hh
    have hh : pm_run PT n fr lo 111 (13, [some (.ref 0), some (.int (nI c)), none], [], h, 198, sl) = some R := hh
    have y3 := of_decide_eq_true z2
    obtain ⟨n, hh⟩ := rn_i rfl rfl rfl rfl hh
    have hh : pm_run PT n fr lo 111 (14, [some (.ref 0), some (.int (nI c)), none], [.ref 0], h, 198, sl) = some R := hh
    obtain ⟨n, hh⟩ := rn_gr hw.wt rfl rfl (by decide) rfl (by decide) (show _ = some (2, ((19 : Nat) : Int), 1) from rfl) rfl hh
    obtain ⟨n, hh⟩ := rn_i rfl rfl rfl rfl hh
    have hh : pm_run PT n fr lo 111 (18, [some (.ref 0), some (.int (nI c)), none], [.ref 0, .ref 19], h, 198, sl) = some R := hh
    obtain ⟨n, hh⟩ := rn_gr hw.wt rfl rfl (by decide) rfl (by decide) (show _ = some (2, ((13 : Nat) : Int), 1) from rfl) rfl hh
    have hh : pm_run PT n fr lo 111 (21, [some (.ref 0), some (.int (nI c)), none], [.ref 13, .ref 19], h, 198, sl) = some R := hh
    obtain ⟨n, fr1, lo1, r1, hh1, hh⟩ := rn_call (w := 0) (t := 73) rfl rfl hh
    obtain ⟨er4, hc5⟩ := cp73_ok rfl rfl (by omega) hw hh1
    subst er4
    obtain ⟨n, hh⟩ := rn_i rfl rfl rfl rfl hh
    have hh : pm_run PT n fr lo 111 (25, [some (.ref 0), some (.int (nI c)), none], [.ref 0], cp73 h 19 13, 198, sl) = some R := hh
    obtain ⟨n, hh⟩ := rn_gr hc5.wt rfl rfl (by decide) rfl (by decide) (show _ = some (2, ((5 : Nat) : Int), 1) from rfl) rfl hh
    obtain ⟨n, hh⟩ := rn_i rfl rfl rfl rfl hh
    have hh : pm_run PT n fr lo 111 (29, [some (.ref 0), some (.int (nI c)), none], [.ref 0, .ref 5], cp73 h 19 13, 198, sl) = some R := hh
    obtain ⟨n, hh⟩ := rn_gr hc5.wt rfl rfl (by decide) rfl (by decide) (show _ = some (2, ((19 : Nat) : Int), 1) from rfl) rfl hh
    obtain ⟨n, hh⟩ := rn_i rfl rfl rfl rfl hh
    have hh : pm_run PT n fr lo 111 (33, [some (.ref 0), some (.int (nI c)), none], [.int (nI c), .ref 19, .ref 5], cp73 h 19 13, 198, sl) = some R := hh
    obtain ⟨n, fr1, lo1, r1, hh1, hh⟩ := rn_call (w := 0) (t := 44) rfl rfl hh
    obtain ⟨er6, hc7, hf8⟩ := v44_ok (c := c) hc5 (by omega) hh1
    subst er6
    obtain ⟨n, hh⟩ := rn_i rfl rfl rfl rfl hh
    obtain ⟨n, hh⟩ := rn_i rfl rfl rfl rfl hh
    obtain ⟨n, hh⟩ := rn_i rfl rfl rfl rfl hh
    have hh : pm_run PT n fr lo 111 (40, [some (.ref 0), some (.int (nI c)), some (.int ((v44 q cc gc (cp73 h 19 13) c).1))], [.int (nI 99), .int ((v44 q cc gc (cp73 h 19 13) c).1)], (v44 q cc gc (cp73 h 19 13) c).2, 198, sl) = some R := hh
    obtain ⟨n, hh⟩ := en_cn (cc := .le) (off := 6) (t := 46) (b := pm_cmp .le ((v44 q cc gc (cp73 h 19 13) c).1) (nI 99)) rfl rfl rfl hh
    cases z9 : pm_cmp .le ((v44 q cc gc (cp73 h 19 13) c).1) (nI 99) with
    | true =>
      have hh := en_t z9 hh
      have hh : pm_run PT n fr lo 111 (46, [some (.ref 0), some (.int (nI c)), some (.int ((v44 q cc gc (cp73 h 19 13) c).1))], [], (v44 q cc gc (cp73 h 19 13) c).2, 198, sl) = some R := hh
      obtain ⟨n, hh⟩ := rn_i rfl rfl rfl rfl hh
      have hh : pm_run PT n fr lo 111 (47, [some (.ref 0), some (.int (nI c)), some (.int ((v44 q cc gc (cp73 h 19 13) c).1))], [.ref 0], (v44 q cc gc (cp73 h 19 13) c).2, 198, sl) = some R := hh
      obtain ⟨n, hh⟩ := rn_gr hc7.wt rfl rfl (by decide) rfl (by decide) (show _ = some (2, ((3 : Nat) : Int), 1) from rfl) rfl hh
      obtain ⟨n, hh⟩ := rn_i rfl rfl rfl rfl hh
      have hh : pm_run PT n fr lo 111 (51, [some (.ref 0), some (.int (nI c)), some (.int ((v44 q cc gc (cp73 h 19 13) c).1))], [.ref 0, .ref 3], (v44 q cc gc (cp73 h 19 13) c).2, 198, sl) = some R := hh
      obtain ⟨n, hh⟩ := rn_gr hc7.wt rfl rfl (by decide) rfl (by decide) (show _ = some (2, ((19 : Nat) : Int), 1) from rfl) rfl hh
      have hh : pm_run PT n fr lo 111 (54, [some (.ref 0), some (.int (nI c)), some (.int ((v44 q cc gc (cp73 h 19 13) c).1))], [.ref 19, .ref 3], (v44 q cc gc (cp73 h 19 13) c).2, 198, sl) = some R := hh
      obtain ⟨n, hh⟩ := rn_gi (x := Fi ((v44 q cc gc (cp73 h 19 13) c).2) 19 5) hc7.wt rfl rfl (by decide) rfl (by decide) rfl rfl hh
      obtain ⟨n, hh⟩ := rn_i rfl rfl rfl rfl hh
      have hh : pm_run PT n fr lo 111 (58, [some (.ref 0), some (.int (nI c)), some (.int ((v44 q cc gc (cp73 h 19 13) c).1))], [.ref 0, .int (Fi ((v44 q cc gc (cp73 h 19 13) c).2) 19 5), .ref 3], (v44 q cc gc (cp73 h 19 13) c).2, 198, sl) = some R := hh
      obtain ⟨n, hh⟩ := rn_gr hc7.wt rfl rfl (by decide) rfl (by decide) (show _ = some (2, ((13 : Nat) : Int), 1) from rfl) rfl hh
      have hh : pm_run PT n fr lo 111 (61, [some (.ref 0), some (.int (nI c)), some (.int ((v44 q cc gc (cp73 h 19 13) c).1))], [.ref 13, .int (Fi ((v44 q cc gc (cp73 h 19 13) c).2) 19 5), .ref 3], (v44 q cc gc (cp73 h 19 13) c).2, 198, sl) = some R := hh
      obtain ⟨n, hh⟩ := rn_gi (x := Fi h 13 5) hc7.wt rfl rfl (by decide) rfl (by decide) rfl ((hf8.2 13 5 (by decide +kernel) rfl).trans ((Fi_e (cp73_ne (by omega))).trans rfl)) hh
      obtain ⟨n, hh⟩ := rn_i rfl rfl rfl rfl hh
      obtain ⟨n, hh⟩ := rn_i rfl rfl rfl rfl hh
      obtain ⟨n, hh⟩ := rn_i rfl rfl rfl rfl hh
      have hh : pm_run PT n fr lo 111 (67, [some (.ref 0), some (.int (nI c)), some (.int ((v44 q cc gc (cp73 h 19 13) c).1))], [.int ((Fi ((v44 q cc gc (cp73 h 19 13) c).2) 19 5) &&& ((Fi h 13 5) ^^^ (Int32.ofInt (-1)))), .ref 3], (v44 q cc gc (cp73 h 19 13) c).2, 198, sl) = some R := hh
      obtain ⟨n, fr1, lo1, r1, hh1, hh⟩ := rn_call (w := 2) (t := 158) rfl rfl hh
      have er10 := v158_ok (b := ((Fi ((v44 q cc gc (cp73 h 19 13) c).2) 19 5) &&& ((Fi h 13 5) ^^^ (Int32.ofInt (-1))))) hc7 hh1
      subst er10
      obtain ⟨n, hh⟩ := rn_i rfl rfl rfl rfl hh
      obtain ⟨n, hh⟩ := rn_i rfl rfl rfl rfl hh
      have hh : pm_run PT n fr lo 111 (72, [some (.ref 0), some (.int (nI c)), some (.int ((v44 q cc gc (cp73 h 19 13) c).1))], [.ref 0, .long ((v158 q cc gc ((Fi ((v44 q cc gc (cp73 h 19 13) c).2) 19 5) &&& ((Fi h 13 5) ^^^ (Int32.ofInt (-1))))).toInt64), .ref 3], (v44 q cc gc (cp73 h 19 13) c).2, 198, sl) = some R := hh
      obtain ⟨n, hh⟩ := rn_gr hc7.wt rfl rfl (by decide) rfl (by decide) (show _ = some (2, ((19 : Nat) : Int), 1) from rfl) rfl hh
      have hh : pm_run PT n fr lo 111 (75, [some (.ref 0), some (.int (nI c)), some (.int ((v44 q cc gc (cp73 h 19 13) c).1))], [.ref 19, .long ((v158 q cc gc ((Fi ((v44 q cc gc (cp73 h 19 13) c).2) 19 5) &&& ((Fi h 13 5) ^^^ (Int32.ofInt (-1))))).toInt64), .ref 3], (v44 q cc gc (cp73 h 19 13) c).2, 198, sl) = some R := hh
      obtain ⟨n, hh⟩ := rn_gr hc7.wt rfl rfl (by decide) rfl (by decide) (show _ = some (2, ((20 : Nat) : Int), 1) from rfl) rfl hh
      obtain ⟨n, hh⟩ := rn_i rfl rfl rfl rfl hh
      have hh : pm_run PT n fr lo 111 (79, [some (.ref 0), some (.int (nI c)), some (.int ((v44 q cc gc (cp73 h 19 13) c).1))], [.int (nI c), .ref 20, .long ((v158 q cc gc ((Fi ((v44 q cc gc (cp73 h 19 13) c).2) 19 5) &&& ((Fi h 13 5) ^^^ (Int32.ofInt (-1))))).toInt64), .ref 3], (v44 q cc gc (cp73 h 19 13) c).2, 198, sl) = some R := hh
      obtain ⟨n, hx11, hh⟩ := en_lu (t := c) (f := Ar ((v44 q cc gc (cp73 h 19 13) c).2) 20) (w := (Ar ((v44 q cc gc (cp73 h 19 13) c).2) 20) c) (nI_clamp (by omega)) hc7.wt rfl (by decide) rfl (by decide) rfl (fun _ => rfl) hh
      obtain ⟨n, hh⟩ := rn_i rfl rfl rfl rfl hh
      have hh : pm_run PT n fr lo 111 (81, [some (.ref 0), some (.int (nI c)), some (.int ((v44 q cc gc (cp73 h 19 13) c).1))], [.long (((Ar ((v44 q cc gc (cp73 h 19 13) c).2) 20) c).toInt64), .long ((v158 q cc gc ((Fi ((v44 q cc gc (cp73 h 19 13) c).2) 19 5) &&& ((Fi h 13 5) ^^^ (Int32.ofInt (-1))))).toInt64), .ref 3], (v44 q cc gc (cp73 h 19 13) c).2, 198, sl) = some R := hh
      obtain ⟨n, fr1, lo1, r1, hh1, hh⟩ := rn_call (w := 0) (t := 56) rfl rfl hh
      obtain ⟨er12, hc13, hf14⟩ := v56_ok (v := ((v158 q cc gc ((Fi ((v44 q cc gc (cp73 h 19 13) c).2) 19 5) &&& ((Fi h 13 5) ^^^ (Int32.ofInt (-1))))).toInt64)) (w := (((Ar ((v44 q cc gc (cp73 h 19 13) c).2) 20) c).toInt64)) hc7 hh1
      subst er12
      obtain ⟨n, hh⟩ := rn_i rfl rfl rfl rfl hh
      have hh : pm_run PT n fr lo 111 (85, [some (.ref 0), some (.int (nI c)), some (.int ((v44 q cc gc (cp73 h 19 13) c).1))], [.int ((v44 q cc gc (cp73 h 19 13) c).1)], v56 q cc gc ((v44 q cc gc (cp73 h 19 13) c).2) ((v158 q cc gc ((Fi ((v44 q cc gc (cp73 h 19 13) c).2) 19 5) &&& ((Fi h 13 5) ^^^ (Int32.ofInt (-1))))).toInt64) (((Ar ((v44 q cc gc (cp73 h 19 13) c).2) 20) c).toInt64), 198, sl) = some R := hh
      have er15 : R = (some (.int ((v44 q cc gc (cp73 h 19 13) c).1)), v56 q cc gc ((v44 q cc gc (cp73 h 19 13) c).2) ((v158 q cc gc ((Fi ((v44 q cc gc (cp73 h 19 13) c).2) 19 5) &&& ((Fi h 13 5) ^^^ (Int32.ofInt (-1))))).toInt64) (((Ar ((v44 q cc gc (cp73 h 19 13) c).2) 20) c).toInt64), 198, sl) := (rn_ret rfl (Or.inl rfl) hh).2
      have ed : v111 q cc gc h c = ((v44 q cc gc (cp73 h 19 13) c).1, v56 q cc gc ((v44 q cc gc (cp73 h 19 13) c).2) ((v158 q cc gc ((Fi ((v44 q cc gc (cp73 h 19 13) c).2) 19 5) &&& ((Fi h 13 5) ^^^ (Int32.ofInt (-1))))).toInt64) (((Ar ((v44 q cc gc (cp73 h 19 13) c).2) 20) c).toInt64)) := (ct z2).trans ((ct z9).trans rfl)
      refine ⟨?_, ?_, ?_⟩ <;> rw [ed]
      · exact er15
      · exact hc13
      · exact (fr_g rfl rfl hf14 (fr_g rfl rfl hf8 (fr_cs rfl hw.wt rfl rfl fr_0)))
    | false =>
      have hh := en_f z9 hh
      have hh : pm_run PT n fr lo 111 (43, [some (.ref 0), some (.int (nI c)), some (.int ((v44 q cc gc (cp73 h 19 13) c).1))], [], (v44 q cc gc (cp73 h 19 13) c).2, 198, sl) = some R := hh
      obtain ⟨n, hh⟩ := rn_i rfl rfl rfl rfl hh
      have hh : pm_run PT n fr lo 111 (45, [some (.ref 0), some (.int (nI c)), some (.int ((v44 q cc gc (cp73 h 19 13) c).1))], [.int (Int32.ofInt (-2))], (v44 q cc gc (cp73 h 19 13) c).2, 198, sl) = some R := hh
      have er16 : R = (some (.int (Int32.ofInt (-2))), (v44 q cc gc (cp73 h 19 13) c).2, 198, sl) := (rn_ret rfl (Or.inl rfl) hh).2
      have ed : v111 q cc gc h c = ((Int32.ofInt (-2)), (v44 q cc gc (cp73 h 19 13) c).2) := (ct z2).trans ((cf z9).trans rfl)
      refine ⟨?_, ?_, ?_⟩ <;> rw [ed]
      · exact er16
      · exact hc7
      · exact (fr_g rfl rfl hf8 (fr_cs rfl hw.wt rfl rfl fr_0))
  | false =>
    have hh := en_f z2 hh
    have hh : pm_run PT n fr lo 111 (11, [some (.ref 0), some (.int (nI c)), none], [], h, 198, sl) = some R := hh
    have y17 := of_decide_eq_false z2
    obtain ⟨n, hh⟩ := rn_i rfl rfl rfl rfl hh
    have hh : pm_run PT n fr lo 111 (12, [some (.ref 0), some (.int (nI c)), none], [.int (Int32.ofInt (-1))], h, 198, sl) = some R := hh
    have er18 : R = (some (.int (Int32.ofInt (-1))), h, 198, sl) := (rn_ret rfl (Or.inl rfl) hh).2
    have ed : v111 q cc gc h c = ((Int32.ofInt (-1)), h) := (cf z2).trans rfl
    refine ⟨?_, ?_, ?_⟩ <;> rw [ed]
    · exact er18
    · exact hw
    · exact fr_0
def v112_24b (q : QT) (cc gc : Nat) (h : pm_H) (m1 : Nat) (m2 : Nat) (i : Nat) (x3 : Int32) (x4 : Int32) : Int32 × Int32 × pm_H := cond (pm_cmp .ne ((Ar h 17) i) (nI m1)) (x3, x4, h) (cond (v41 q cc gc (Ar h 9) (Fi h 13 5) i) (cond (pm_cmp .ge ((v44 q cc gc (aset (cp73 h 19 13) 23 8 (upd (Ar (cp73 h 19 13) 23) i (nI m2))) m2).1) x4) x3 (nI i), cond (pm_cmp .ge ((v44 q cc gc (aset (cp73 h 19 13) 23 8 (upd (Ar (cp73 h 19 13) 23) i (nI m2))) m2).1) x4) x4 ((v44 q cc gc (aset (cp73 h 19 13) 23 8 (upd (Ar (cp73 h 19 13) 23) i (nI m2))) m2).1), (v44 q cc gc (aset (cp73 h 19 13) 23 8 (upd (Ar (cp73 h 19 13) 23) i (nI m2))) m2).2) (x3, x4, h))
def v112_24 (q : QT) (cc gc : Nat) (m1 : Nat) (m2 : Nat) (j i : Nat) (a : Int32 × Int32 × pm_H) : Int32 × Int32 × pm_H := lp (fun i a => v112_24b q cc gc a.2.2 m1 m2 i a.1 a.2.1) j i a
theorem v112_24_e {n fr lo sl cc gc : Nat} {q : QT} {h : pm_H} {R : pm_Rs} {m1 : Nat} {m2 : Nat} {i : Nat} {x3 : Int32} {x4 : Int32} {o6 : Option Value} (hw : HC q cc gc h) (h_m1 : m1 < 10000) (h_m2 : m2 < 10000) (hi : gc ≤ i) (hI : i < 1000000) (hh : pm_run PT n fr lo 112 (24, [some (.ref 0), some (.int (nI m1)), some (.int (nI m2)), some (.int x3), some (.int x4), some (.int (nI i)), o6], [], h, 198, sl) = some R) : ∃ m, pm_run PT m fr lo 112 (122, [some (.ref 0), some (.int (nI m1)), some (.int (nI m2)), some (.int x3), some (.int x4), some (.int (nI i)), o6], [], h, 198, sl) = some R := by
  have hcc := hw.cb
  have hgc := hw.gb
  have hzr := hw.zr
  obtain ⟨n, hh⟩ := rn_i rfl rfl rfl rfl hh
  obtain ⟨n, hh⟩ := rn_i rfl rfl rfl rfl hh
  have hh : pm_run PT n fr lo 112 (27, [some (.ref 0), some (.int (nI m1)), some (.int (nI m2)), some (.int x3), some (.int x4), some (.int (nI i)), o6], [.ref 0, .int (nI i)], h, 198, sl) = some R := hh
  obtain ⟨n, hh⟩ := rn_gr hw.wt rfl rfl (by decide) rfl (by decide) (show _ = some (2, ((5 : Nat) : Int), 1) from rfl) rfl hh
  have hh : pm_run PT n fr lo 112 (30, [some (.ref 0), some (.int (nI m1)), some (.int (nI m2)), some (.int x3), some (.int x4), some (.int (nI i)), o6], [.ref 5, .int (nI i)], h, 198, sl) = some R := hh
  obtain ⟨n, hh⟩ := rn_gi (x := nI gc) hw.wt rfl rfl (by decide) rfl (by decide) rfl hw.x1 hh
  have hh : pm_run PT n fr lo 112 (33, [some (.ref 0), some (.int (nI m1)), some (.int (nI m2)), some (.int x3), some (.int x4), some (.int (nI i)), o6], [.int (nI gc), .int (nI i)], h, 198, sl) = some R := hh
  obtain ⟨n, hh⟩ := en_cn (cc := .ge) (off := 89) (t := 122) (b := decide (gc ≤ i)) (hI_ge (by omega) (by omega)) rfl rfl hh
  have hh := en_t (show decide (gc ≤ i) = true from decide_eq_true (by omega)) hh
  have hh : pm_run PT n fr lo 112 (122, [some (.ref 0), some (.int (nI m1)), some (.int (nI m2)), some (.int x3), some (.int x4), some (.int (nI i)), o6], [], h, 198, sl) = some R := hh
  exact ⟨n, hh⟩
theorem v112_24_s {n fr lo sl cc gc : Nat} {q : QT} {h : pm_H} {R : pm_Rs} {m1 : Nat} {m2 : Nat} {i : Nat} {x3 : Int32} {x4 : Int32} {o6 : Option Value} (hw : HC q cc gc h) (h_m1 : m1 < 10000) (h_m2 : m2 < 10000) (hi : i < gc) (hI : i < 1000000) (hh : pm_run PT n fr lo 112 (24, [some (.ref 0), some (.int (nI m1)), some (.int (nI m2)), some (.int x3), some (.int x4), some (.int (nI i)), o6], [], h, 198, sl) = some R) : ∃ m w6, HC q cc gc ((v112_24b q cc gc h m1 m2 i x3 x4).2.2) ∧ frm [19, 20, 21, 22, 23, 24] [(19, 5), (19, 6)] h ((v112_24b q cc gc h m1 m2 i x3 x4).2.2) ∧ pm_run PT m fr lo 112 (24, [some (.ref 0), some (.int (nI m1)), some (.int (nI m2)), some (.int ((v112_24b q cc gc h m1 m2 i x3 x4).1)), some (.int ((v112_24b q cc gc h m1 m2 i x3 x4).2.1)), some (.int (nI (i + 1))), w6], [], (v112_24b q cc gc h m1 m2 i x3 x4).2.2, 198, sl) = some R := by
  have hcc := hw.cb
  have hgc := hw.gb
  have hzr := hw.zr
  obtain ⟨n, hh⟩ := rn_i rfl rfl rfl rfl hh
  obtain ⟨n, hh⟩ := rn_i rfl rfl rfl rfl hh
  have hh : pm_run PT n fr lo 112 (27, [some (.ref 0), some (.int (nI m1)), some (.int (nI m2)), some (.int x3), some (.int x4), some (.int (nI i)), o6], [.ref 0, .int (nI i)], h, 198, sl) = some R := hh
  obtain ⟨n, hh⟩ := rn_gr hw.wt rfl rfl (by decide) rfl (by decide) (show _ = some (2, ((5 : Nat) : Int), 1) from rfl) rfl hh
  have hh : pm_run PT n fr lo 112 (30, [some (.ref 0), some (.int (nI m1)), some (.int (nI m2)), some (.int x3), some (.int x4), some (.int (nI i)), o6], [.ref 5, .int (nI i)], h, 198, sl) = some R := hh
  obtain ⟨n, hh⟩ := rn_gi (x := nI gc) hw.wt rfl rfl (by decide) rfl (by decide) rfl hw.x1 hh
  have hh : pm_run PT n fr lo 112 (33, [some (.ref 0), some (.int (nI m1)), some (.int (nI m2)), some (.int x3), some (.int x4), some (.int (nI i)), o6], [.int (nI gc), .int (nI i)], h, 198, sl) = some R := hh
  obtain ⟨n, hh⟩ := en_cn (cc := .ge) (off := 89) (t := 122) (b := decide (gc ≤ i)) (hI_ge (by omega) (by omega)) rfl rfl hh
  have hh := en_f (show decide (gc ≤ i) = false from decide_eq_false (by omega)) hh
  have hh : pm_run PT n fr lo 112 (36, [some (.ref 0), some (.int (nI m1)), some (.int (nI m2)), some (.int x3), some (.int x4), some (.int (nI i)), o6], [], h, 198, sl) = some R := hh
  obtain ⟨n, hh⟩ := rn_i rfl rfl rfl rfl hh
  have hh : pm_run PT n fr lo 112 (37, [some (.ref 0), some (.int (nI m1)), some (.int (nI m2)), some (.int x3), some (.int x4), some (.int (nI i)), o6], [.ref 0], h, 198, sl) = some R := hh
  obtain ⟨n, hh⟩ := rn_gr hw.wt rfl rfl (by decide) rfl (by decide) (show _ = some (2, ((13 : Nat) : Int), 1) from rfl) rfl hh
  have hh : pm_run PT n fr lo 112 (40, [some (.ref 0), some (.int (nI m1)), some (.int (nI m2)), some (.int x3), some (.int x4), some (.int (nI i)), o6], [.ref 13], h, 198, sl) = some R := hh
  obtain ⟨n, hh⟩ := rn_gr hw.wt rfl rfl (by decide) rfl (by decide) (show _ = some (2, ((17 : Nat) : Int), 1) from rfl) rfl hh
  obtain ⟨n, hh⟩ := rn_i rfl rfl rfl rfl hh
  have hh : pm_run PT n fr lo 112 (45, [some (.ref 0), some (.int (nI m1)), some (.int (nI m2)), some (.int x3), some (.int x4), some (.int (nI i)), o6], [.int (nI i), .ref 17], h, 198, sl) = some R := hh
  obtain ⟨n, hx3, hh⟩ := en_lu (t := i) (f := Ar h 17) (w := (Ar h 17) i) (nI_clamp (by omega)) hw.wt rfl (by decide) rfl (by decide) rfl (fun _ => rfl) hh
  obtain ⟨n, hh⟩ := rn_i rfl rfl rfl rfl hh
  have hh : pm_run PT n fr lo 112 (47, [some (.ref 0), some (.int (nI m1)), some (.int (nI m2)), some (.int x3), some (.int x4), some (.int (nI i)), o6], [.int (nI m1), .int ((Ar h 17) i)], h, 198, sl) = some R := hh
  obtain ⟨n, hh⟩ := en_cn (cc := .ne) (off := 69) (t := 116) (b := pm_cmp .ne ((Ar h 17) i) (nI m1)) rfl rfl rfl hh
  cases z4 : pm_cmp .ne ((Ar h 17) i) (nI m1) with
  | true =>
    have hh := en_t z4 hh
    have hh : pm_run PT n fr lo 112 (116, [some (.ref 0), some (.int (nI m1)), some (.int (nI m2)), some (.int x3), some (.int x4), some (.int (nI i)), o6], [], h, 198, sl) = some R := hh
    have hh : pm_run PT n fr lo 112 (116, [some (.ref 0), some (.int (nI m1)), some (.int (nI m2)), some (.int x3), some (.int x4), some (.int (nI i)), o6], [], h, 198, sl) = some R := hh
    obtain ⟨n, hh⟩ := en_inc (x := i) (c := 1) (j := 5) rfl rfl (by decide) hh
    have hh : pm_run PT n fr lo 112 (119, [some (.ref 0), some (.int (nI m1)), some (.int (nI m2)), some (.int x3), some (.int x4), some (.int (nI (i + 1))), o6], [], h, 198, sl) = some R := hh
    obtain ⟨n, hh⟩ := rn_i rfl rfl rfl rfl hh
    have ed : v112_24b q cc gc h m1 m2 i x3 x4 = (x3, x4, h) := (ct z4).trans rfl
    rw [ed]
    exact ⟨n, o6, hw, fr_0, hh⟩
  | false =>
    have hh := en_f z4 hh
    have hh : pm_run PT n fr lo 112 (50, [some (.ref 0), some (.int (nI m1)), some (.int (nI m2)), some (.int x3), some (.int x4), some (.int (nI i)), o6], [], h, 198, sl) = some R := hh
    obtain ⟨n, hh⟩ := rn_i rfl rfl rfl rfl hh
    have hh : pm_run PT n fr lo 112 (51, [some (.ref 0), some (.int (nI m1)), some (.int (nI m2)), some (.int x3), some (.int x4), some (.int (nI i)), o6], [.ref 0], h, 198, sl) = some R := hh
    obtain ⟨n, hh⟩ := rn_gr hw.wt rfl rfl (by decide) rfl (by decide) (show _ = some (2, ((5 : Nat) : Int), 1) from rfl) rfl hh
    obtain ⟨n, hh⟩ := rn_i rfl rfl rfl rfl hh
    have hh : pm_run PT n fr lo 112 (55, [some (.ref 0), some (.int (nI m1)), some (.int (nI m2)), some (.int x3), some (.int x4), some (.int (nI i)), o6], [.ref 0, .ref 5], h, 198, sl) = some R := hh
    obtain ⟨n, hh⟩ := rn_gr hw.wt rfl rfl (by decide) rfl (by decide) (show _ = some (2, ((13 : Nat) : Int), 1) from rfl) rfl hh
    obtain ⟨n, hh⟩ := rn_i rfl rfl rfl rfl hh
    have hh : pm_run PT n fr lo 112 (60, [some (.ref 0), some (.int (nI m1)), some (.int (nI m2)), some (.int x3), some (.int x4), some (.int (nI i)), o6], [.int (nI i), .ref 13, .ref 5], h, 198, sl) = some R := hh
    obtain ⟨n, fr1, lo1, r1, hh1, hh⟩ := rn_call (w := 0) (t := 41) rfl rfl hh
    have er5 := v41_ok (g := i) hw (by omega) hh1
    subst er5
    have hh : pm_run PT n fr lo 112 (63, [some (.ref 0), some (.int (nI m1)), some (.int (nI m2)), some (.int x3), some (.int x4), some (.int (nI i)), o6], [.int (cond (v41 q cc gc (Ar h 9) (Fi h 13 5) i) 1 0)], h, 198, sl) = some R := hh
    obtain ⟨n, hh⟩ := en_zn (cc := .eq) (off := 53) (t := 116) (b := !(v41 q cc gc (Ar h 9) (Fi h 13 5) i)) eb_eq rfl rfl hh
    cases z6 : v41 q cc gc (Ar h 9) (Fi h 13 5) i with
    | true =>
      have hh := en_nt z6 hh
      have hh : pm_run PT n fr lo 112 (66, [some (.ref 0), some (.int (nI m1)), some (.int (nI m2)), some (.int x3), some (.int x4), some (.int (nI i)), o6], [], h, 198, sl) = some R := hh
      obtain ⟨n, hh⟩ := rn_i rfl rfl rfl rfl hh
      have hh : pm_run PT n fr lo 112 (67, [some (.ref 0), some (.int (nI m1)), some (.int (nI m2)), some (.int x3), some (.int x4), some (.int (nI i)), o6], [.ref 0], h, 198, sl) = some R := hh
      obtain ⟨n, hh⟩ := rn_gr hw.wt rfl rfl (by decide) rfl (by decide) (show _ = some (2, ((19 : Nat) : Int), 1) from rfl) rfl hh
      obtain ⟨n, hh⟩ := rn_i rfl rfl rfl rfl hh
      have hh : pm_run PT n fr lo 112 (71, [some (.ref 0), some (.int (nI m1)), some (.int (nI m2)), some (.int x3), some (.int x4), some (.int (nI i)), o6], [.ref 0, .ref 19], h, 198, sl) = some R := hh
      obtain ⟨n, hh⟩ := rn_gr hw.wt rfl rfl (by decide) rfl (by decide) (show _ = some (2, ((13 : Nat) : Int), 1) from rfl) rfl hh
      have hh : pm_run PT n fr lo 112 (74, [some (.ref 0), some (.int (nI m1)), some (.int (nI m2)), some (.int x3), some (.int x4), some (.int (nI i)), o6], [.ref 13, .ref 19], h, 198, sl) = some R := hh
      obtain ⟨n, fr1, lo1, r1, hh1, hh⟩ := rn_call (w := 0) (t := 73) rfl rfl hh
      obtain ⟨er7, hc8⟩ := cp73_ok rfl rfl (by omega) hw hh1
      subst er7
      obtain ⟨n, hh⟩ := rn_i rfl rfl rfl rfl hh
      have hh : pm_run PT n fr lo 112 (78, [some (.ref 0), some (.int (nI m1)), some (.int (nI m2)), some (.int x3), some (.int x4), some (.int (nI i)), o6], [.ref 0], cp73 h 19 13, 198, sl) = some R := hh
      obtain ⟨n, hh⟩ := rn_gr hc8.wt rfl rfl (by decide) rfl (by decide) (show _ = some (2, ((19 : Nat) : Int), 1) from rfl) rfl hh
      have hh : pm_run PT n fr lo 112 (81, [some (.ref 0), some (.int (nI m1)), some (.int (nI m2)), some (.int x3), some (.int x4), some (.int (nI i)), o6], [.ref 19], cp73 h 19 13, 198, sl) = some R := hh
      obtain ⟨n, hh⟩ := rn_gr hc8.wt rfl rfl (by decide) rfl (by decide) (show _ = some (2, ((23 : Nat) : Int), 1) from rfl) rfl hh
      obtain ⟨n, hh⟩ := rn_i rfl rfl rfl rfl hh
      obtain ⟨n, hh⟩ := rn_i rfl rfl rfl rfl hh
      have hh : pm_run PT n fr lo 112 (87, [some (.ref 0), some (.int (nI m1)), some (.int (nI m2)), some (.int x3), some (.int x4), some (.int (nI i)), o6], [.int (nI m2), .int (nI i), .ref 23], cp73 h 19 13, 198, sl) = some R := hh
      obtain ⟨n, hx9, hh⟩ := en_st (t := i) (f := Ar (cp73 h 19 13) 23) (nI_clamp (by omega)) hc8.wt rfl (by decide) rfl (by decide) rfl hh
      obtain ⟨n, hh⟩ := rn_i rfl rfl rfl rfl hh
      have hh : pm_run PT n fr lo 112 (89, [some (.ref 0), some (.int (nI m1)), some (.int (nI m2)), some (.int x3), some (.int x4), some (.int (nI i)), o6], [.ref 0], aset (cp73 h 19 13) 23 8 (upd (Ar (cp73 h 19 13) 23) i (nI m2)), 198, sl) = some R := hh
      obtain ⟨n, hh⟩ := rn_gr (hc_a rfl rfl hc8).wt rfl rfl (by decide) rfl (by decide) (show _ = some (2, ((5 : Nat) : Int), 1) from rfl) rfl hh
      obtain ⟨n, hh⟩ := rn_i rfl rfl rfl rfl hh
      have hh : pm_run PT n fr lo 112 (93, [some (.ref 0), some (.int (nI m1)), some (.int (nI m2)), some (.int x3), some (.int x4), some (.int (nI i)), o6], [.ref 0, .ref 5], aset (cp73 h 19 13) 23 8 (upd (Ar (cp73 h 19 13) 23) i (nI m2)), 198, sl) = some R := hh
      obtain ⟨n, hh⟩ := rn_gr (hc_a rfl rfl hc8).wt rfl rfl (by decide) rfl (by decide) (show _ = some (2, ((19 : Nat) : Int), 1) from rfl) rfl hh
      obtain ⟨n, hh⟩ := rn_i rfl rfl rfl rfl hh
      have hh : pm_run PT n fr lo 112 (97, [some (.ref 0), some (.int (nI m1)), some (.int (nI m2)), some (.int x3), some (.int x4), some (.int (nI i)), o6], [.int (nI m2), .ref 19, .ref 5], aset (cp73 h 19 13) 23 8 (upd (Ar (cp73 h 19 13) 23) i (nI m2)), 198, sl) = some R := hh
      obtain ⟨n, fr1, lo1, r1, hh1, hh⟩ := rn_call (w := 0) (t := 44) rfl rfl hh
      obtain ⟨er10, hc11, hf12⟩ := v44_ok (c := m2) (hc_a rfl rfl hc8) (by omega) hh1
      subst er10
      obtain ⟨n, hh⟩ := rn_i rfl rfl rfl rfl hh
      obtain ⟨n, hh⟩ := rn_i rfl rfl rfl rfl hh
      obtain ⟨n, hh⟩ := rn_i rfl rfl rfl rfl hh
      have hh : pm_run PT n fr lo 112 (106, [some (.ref 0), some (.int (nI m1)), some (.int (nI m2)), some (.int x3), some (.int x4), some (.int (nI i)), some (.int ((v44 q cc gc (aset (cp73 h 19 13) 23 8 (upd (Ar (cp73 h 19 13) 23) i (nI m2))) m2).1))], [.int x4, .int ((v44 q cc gc (aset (cp73 h 19 13) 23 8 (upd (Ar (cp73 h 19 13) 23) i (nI m2))) m2).1)], (v44 q cc gc (aset (cp73 h 19 13) 23 8 (upd (Ar (cp73 h 19 13) 23) i (nI m2))) m2).2, 198, sl) = some R := hh
      obtain ⟨n, hh⟩ := en_cn (cc := .ge) (off := 10) (t := 116) (b := pm_cmp .ge ((v44 q cc gc (aset (cp73 h 19 13) 23 8 (upd (Ar (cp73 h 19 13) 23) i (nI m2))) m2).1) x4) rfl rfl rfl hh
      have hj14 : ∃ mJ, pm_run PT mJ fr lo 112 (cond (pm_cmp .ge ((v44 q cc gc (aset (cp73 h 19 13) 23 8 (upd (Ar (cp73 h 19 13) 23) i (nI m2))) m2).1) x4) (116, [some (.ref 0), some (.int (nI m1)), some (.int (nI m2)), some (.int x3), some (.int x4), some (.int (nI i)), some (.int ((v44 q cc gc (aset (cp73 h 19 13) 23 8 (upd (Ar (cp73 h 19 13) 23) i (nI m2))) m2).1))], [], (v44 q cc gc (aset (cp73 h 19 13) 23 8 (upd (Ar (cp73 h 19 13) 23) i (nI m2))) m2).2, 198, sl) (116, [some (.ref 0), some (.int (nI m1)), some (.int (nI m2)), some (.int (nI i)), some (.int ((v44 q cc gc (aset (cp73 h 19 13) 23 8 (upd (Ar (cp73 h 19 13) 23) i (nI m2))) m2).1)), some (.int (nI i)), some (.int ((v44 q cc gc (aset (cp73 h 19 13) 23 8 (upd (Ar (cp73 h 19 13) 23) i (nI m2))) m2).1))], [], (v44 q cc gc (aset (cp73 h 19 13) 23 8 (upd (Ar (cp73 h 19 13) 23) i (nI m2))) m2).2, 198, sl)) = some R := en_J (fun z13 => by
          have hh := en_t z13 hh
          have hh : pm_run PT n fr lo 112 (116, [some (.ref 0), some (.int (nI m1)), some (.int (nI m2)), some (.int x3), some (.int x4), some (.int (nI i)), some (.int ((v44 q cc gc (aset (cp73 h 19 13) 23 8 (upd (Ar (cp73 h 19 13) 23) i (nI m2))) m2).1))], [], (v44 q cc gc (aset (cp73 h 19 13) 23 8 (upd (Ar (cp73 h 19 13) 23) i (nI m2))) m2).2, 198, sl) = some R := hh
          exact ⟨n, hh⟩) (fun z13 => by
          have hh := en_f z13 hh
          have hh : pm_run PT n fr lo 112 (109, [some (.ref 0), some (.int (nI m1)), some (.int (nI m2)), some (.int x3), some (.int x4), some (.int (nI i)), some (.int ((v44 q cc gc (aset (cp73 h 19 13) 23 8 (upd (Ar (cp73 h 19 13) 23) i (nI m2))) m2).1))], [], (v44 q cc gc (aset (cp73 h 19 13) 23 8 (upd (Ar (cp73 h 19 13) 23) i (nI m2))) m2).2, 198, sl) = some R := hh
          obtain ⟨n, hh⟩ := rn_i rfl rfl rfl rfl hh
          obtain ⟨n, hh⟩ := rn_i rfl rfl rfl rfl hh
          obtain ⟨n, hh⟩ := rn_i rfl rfl rfl rfl hh
          obtain ⟨n, hh⟩ := rn_i rfl rfl rfl rfl hh
          exact ⟨n, hh⟩)
      obtain ⟨n, hh⟩ := hj14
      rw [show (cond (pm_cmp .ge ((v44 q cc gc (aset (cp73 h 19 13) 23 8 (upd (Ar (cp73 h 19 13) 23) i (nI m2))) m2).1) x4) (116, [some (.ref 0), some (.int (nI m1)), some (.int (nI m2)), some (.int x3), some (.int x4), some (.int (nI i)), some (.int ((v44 q cc gc (aset (cp73 h 19 13) 23 8 (upd (Ar (cp73 h 19 13) 23) i (nI m2))) m2).1))], [], (v44 q cc gc (aset (cp73 h 19 13) 23 8 (upd (Ar (cp73 h 19 13) 23) i (nI m2))) m2).2, 198, sl) (116, [some (.ref 0), some (.int (nI m1)), some (.int (nI m2)), some (.int (nI i)), some (.int ((v44 q cc gc (aset (cp73 h 19 13) 23 8 (upd (Ar (cp73 h 19 13) 23) i (nI m2))) m2).1)), some (.int (nI i)), some (.int ((v44 q cc gc (aset (cp73 h 19 13) 23 8 (upd (Ar (cp73 h 19 13) 23) i (nI m2))) m2).1))], [], (v44 q cc gc (aset (cp73 h 19 13) 23 8 (upd (Ar (cp73 h 19 13) 23) i (nI m2))) m2).2, 198, sl) : pm_St) = (116, [some (.ref 0), some (.int (nI m1)), some (.int (nI m2)), some (.int (cond (pm_cmp .ge ((v44 q cc gc (aset (cp73 h 19 13) 23 8 (upd (Ar (cp73 h 19 13) 23) i (nI m2))) m2).1) x4) x3 (nI i))), some (.int (cond (pm_cmp .ge ((v44 q cc gc (aset (cp73 h 19 13) 23 8 (upd (Ar (cp73 h 19 13) 23) i (nI m2))) m2).1) x4) x4 ((v44 q cc gc (aset (cp73 h 19 13) 23 8 (upd (Ar (cp73 h 19 13) 23) i (nI m2))) m2).1))), some (.int (nI i)), some (.int ((v44 q cc gc (aset (cp73 h 19 13) 23 8 (upd (Ar (cp73 h 19 13) 23) i (nI m2))) m2).1))], [], (v44 q cc gc (aset (cp73 h 19 13) 23 8 (upd (Ar (cp73 h 19 13) 23) i (nI m2))) m2).2, 198, sl) from by cases (pm_cmp .ge ((v44 q cc gc (aset (cp73 h 19 13) 23 8 (upd (Ar (cp73 h 19 13) 23) i (nI m2))) m2).1) x4) <;> rfl] at hh
      have hh : pm_run PT n fr lo 112 (116, [some (.ref 0), some (.int (nI m1)), some (.int (nI m2)), some (.int (cond (pm_cmp .ge ((v44 q cc gc (aset (cp73 h 19 13) 23 8 (upd (Ar (cp73 h 19 13) 23) i (nI m2))) m2).1) x4) x3 (nI i))), some (.int (cond (pm_cmp .ge ((v44 q cc gc (aset (cp73 h 19 13) 23 8 (upd (Ar (cp73 h 19 13) 23) i (nI m2))) m2).1) x4) x4 ((v44 q cc gc (aset (cp73 h 19 13) 23 8 (upd (Ar (cp73 h 19 13) 23) i (nI m2))) m2).1))), some (.int (nI i)), some (.int ((v44 q cc gc (aset (cp73 h 19 13) 23 8 (upd (Ar (cp73 h 19 13) 23) i (nI m2))) m2).1))], [], (v44 q cc gc (aset (cp73 h 19 13) 23 8 (upd (Ar (cp73 h 19 13) 23) i (nI m2))) m2).2, 198, sl) = some R := hh
      obtain ⟨n, hh⟩ := en_inc (x := i) (c := 1) (j := 5) rfl rfl (by decide) hh
      have hh : pm_run PT n fr lo 112 (119, [some (.ref 0), some (.int (nI m1)), some (.int (nI m2)), some (.int (cond (pm_cmp .ge ((v44 q cc gc (aset (cp73 h 19 13) 23 8 (upd (Ar (cp73 h 19 13) 23) i (nI m2))) m2).1) x4) x3 (nI i))), some (.int (cond (pm_cmp .ge ((v44 q cc gc (aset (cp73 h 19 13) 23 8 (upd (Ar (cp73 h 19 13) 23) i (nI m2))) m2).1) x4) x4 ((v44 q cc gc (aset (cp73 h 19 13) 23 8 (upd (Ar (cp73 h 19 13) 23) i (nI m2))) m2).1))), some (.int (nI (i + 1))), some (.int ((v44 q cc gc (aset (cp73 h 19 13) 23 8 (upd (Ar (cp73 h 19 13) 23) i (nI m2))) m2).1))], [], (v44 q cc gc (aset (cp73 h 19 13) 23 8 (upd (Ar (cp73 h 19 13) 23) i (nI m2))) m2).2, 198, sl) = some R := hh
      obtain ⟨n, hh⟩ := rn_i rfl rfl rfl rfl hh
      have ed : v112_24b q cc gc h m1 m2 i x3 x4 = (cond (pm_cmp .ge ((v44 q cc gc (aset (cp73 h 19 13) 23 8 (upd (Ar (cp73 h 19 13) 23) i (nI m2))) m2).1) x4) x3 (nI i), cond (pm_cmp .ge ((v44 q cc gc (aset (cp73 h 19 13) 23 8 (upd (Ar (cp73 h 19 13) 23) i (nI m2))) m2).1) x4) x4 ((v44 q cc gc (aset (cp73 h 19 13) 23 8 (upd (Ar (cp73 h 19 13) 23) i (nI m2))) m2).1), (v44 q cc gc (aset (cp73 h 19 13) 23 8 (upd (Ar (cp73 h 19 13) 23) i (nI m2))) m2).2) := (cf z4).trans ((ct z6).trans rfl)
      rw [ed]
      exact ⟨n, some (.int ((v44 q cc gc (aset (cp73 h 19 13) 23 8 (upd (Ar (cp73 h 19 13) 23) i (nI m2))) m2).1)), hc11, (fr_g rfl rfl hf12 (fr_a rfl rfl (fr_cs rfl hw.wt rfl rfl fr_0))), hh⟩
    | false =>
      have hh := en_nf z6 hh
      have hh : pm_run PT n fr lo 112 (116, [some (.ref 0), some (.int (nI m1)), some (.int (nI m2)), some (.int x3), some (.int x4), some (.int (nI i)), o6], [], h, 198, sl) = some R := hh
      have hh : pm_run PT n fr lo 112 (116, [some (.ref 0), some (.int (nI m1)), some (.int (nI m2)), some (.int x3), some (.int x4), some (.int (nI i)), o6], [], h, 198, sl) = some R := hh
      obtain ⟨n, hh⟩ := en_inc (x := i) (c := 1) (j := 5) rfl rfl (by decide) hh
      have hh : pm_run PT n fr lo 112 (119, [some (.ref 0), some (.int (nI m1)), some (.int (nI m2)), some (.int x3), some (.int x4), some (.int (nI (i + 1))), o6], [], h, 198, sl) = some R := hh
      obtain ⟨n, hh⟩ := rn_i rfl rfl rfl rfl hh
      have ed : v112_24b q cc gc h m1 m2 i x3 x4 = (x3, x4, h) := (cf z4).trans ((cf z6).trans rfl)
      rw [ed]
      exact ⟨n, o6, hw, fr_0, hh⟩
theorem v112_24_ok {fr lo sl cc gc : Nat} {q : QT} {R : pm_Rs} {m1 : Nat} {m2 : Nat} : ∀ {j i : Nat} {x3 : Int32} {x4 : Int32} {o6 : Option Value} {h : pm_H} {n : Nat}, gc - i = j → i + j < 1000000 → HC q cc gc h → m1 < 10000 → m2 < 10000 → pm_run PT n fr lo 112 (24, [some (.ref 0), some (.int (nI m1)), some (.int (nI m2)), some (.int x3), some (.int x4), some (.int (nI i)), o6], [], h, 198, sl) = some R → ∃ m wc w6, HC q cc gc ((v112_24 q cc gc m1 m2 j i (x3, x4, h)).2.2) ∧ frm [19, 20, 21, 22, 23, 24] [(19, 5), (19, 6)] h ((v112_24 q cc gc m1 m2 j i (x3, x4, h)).2.2) ∧ pm_run PT m fr lo 112 (122, [some (.ref 0), some (.int (nI m1)), some (.int (nI m2)), some (.int ((v112_24 q cc gc m1 m2 j i (x3, x4, h)).1)), some (.int ((v112_24 q cc gc m1 m2 j i (x3, x4, h)).2.1)), wc, w6], [], (v112_24 q cc gc m1 m2 j i (x3, x4, h)).2.2, 198, sl) = some R := by
  intro j
  induction j with
  | zero =>
    intro i x3 x4 o6 h n e eI hw h_m1 h_m2 hh
    obtain ⟨n, hh⟩ := v112_24_e hw h_m1 h_m2 (by omega) (by omega) hh
    exact ⟨n, _, o6, hw, fr_0, hh⟩
  | succ j ih =>
    intro i x3 x4 o6 h n e eI hw h_m1 h_m2 hh
    obtain ⟨n, w6, hc, hf, hh⟩ := v112_24_s hw h_m1 h_m2 (by omega) (by omega) hh
    obtain ⟨n, wc, v6, hc2, hf2, hh⟩ := ih (by omega) (by omega) hc h_m1 h_m2 hh
    exact ⟨n, wc, v6, hc2, fr_t hf2 hf, hh⟩
def v112 (q : QT) (cc gc : Nat) (h : pm_H) (a : Nat) (b : Nat) : Int32 × pm_H := cond (pP cc (nI a) (nI b)) (cond (pm_cmp .lt ((v112_24 q cc gc a b gc 0 ((Int32.ofInt (-2)), (nI 100), h)).1) 0) ((v112_24 q cc gc a b gc 0 ((Int32.ofInt (-2)), (nI 100), h)).1, (v112_24 q cc gc a b gc 0 ((Int32.ofInt (-2)), (nI 100), h)).2.2) ((v112_24 q cc gc a b gc 0 ((Int32.ofInt (-2)), (nI 100), h)).1, v55 q cc gc ((v112_24 q cc gc a b gc 0 ((Int32.ofInt (-2)), (nI 100), h)).2.2) (((v112_24 q cc gc a b gc 0 ((Int32.ofInt (-2)), (nI 100), h)).2.1).toInt64))) ((Int32.ofInt (-1)), h)
theorem v112_ok {n fr lo sl cc gc : Nat} {q : QT} {h : pm_H} {R : pm_Rs} {a : Nat} {b : Nat} (hw : HC q cc gc h) (h_a : a < 10000) (h_b : b < 10000) (hh : pm_run PT n fr lo 112 (0, pm_l0 [.ref 0, .int (nI a), .int (nI b)] 7, [], h, 198, sl) = some R) : R = (some (.int ((v112 q cc gc h a b).1)), (v112 q cc gc h a b).2, 198, sl) ∧ HC q cc gc ((v112 q cc gc h a b).2) ∧ frm [3, 4, 19, 20, 21, 22, 23, 24] [(3, 1), (19, 5), (19, 6)] h ((v112 q cc gc h a b).2) := by
  have hcc := hw.cb
  have hgc := hw.gb
  have hzr := hw.zr
  obtain ⟨n, hh⟩ := rn_i rfl rfl rfl rfl hh
  have hh : pm_run PT n fr lo 112 (1, [some (.ref 0), some (.int (nI a)), some (.int (nI b)), none, none, none, none], [.ref 0], h, 198, sl) = some R := hh
  obtain ⟨n, hh⟩ := rn_gr hw.wt rfl rfl (by decide) rfl (by decide) (show _ = some (2, ((5 : Nat) : Int), 1) from rfl) rfl hh
  obtain ⟨n, hh⟩ := rn_i rfl rfl rfl rfl hh
  obtain ⟨n, hh⟩ := rn_i rfl rfl rfl rfl hh
  have hh : pm_run PT n fr lo 112 (6, [some (.ref 0), some (.int (nI a)), some (.int (nI b)), none, none, none, none], [.int (nI b), .int (nI a), .ref 5], h, 198, sl) = some R := hh
  obtain ⟨n, fr1, lo1, r1, hh1, hh⟩ := rn_call (w := 0) (t := 24) rfl rfl hh
  have er1 := xa_run hcc (hc_rC hw) hh1
  subst er1
  have hh : pm_run PT n fr lo 112 (9, [some (.ref 0), some (.int (nI a)), some (.int (nI b)), none, none, none, none], [.int (cond (pP cc (nI a) (nI b)) 1 0)], h, 198, sl) = some R := hh
  obtain ⟨n, hh⟩ := en_zn (cc := .ne) (off := 5) (t := 14) (b := pP cc (nI a) (nI b)) eb_ne rfl rfl hh
  cases z2 : pP cc (nI a) (nI b) with
  | true =>
    have hh := en_t z2 hh
    have hh : pm_run PT n fr lo 112 (14, [some (.ref 0), some (.int (nI a)), some (.int (nI b)), none, none, none, none], [], h, 198, sl) = some R := hh
    obtain ⟨n, hh⟩ := rn_i rfl rfl rfl rfl hh
    obtain ⟨n, hh⟩ := rn_i rfl rfl rfl rfl hh
    obtain ⟨n, hh⟩ := rn_i rfl rfl rfl rfl hh
    obtain ⟨n, hh⟩ := rn_i rfl rfl rfl rfl hh
    obtain ⟨n, hh⟩ := rn_i rfl rfl rfl rfl hh
    obtain ⟨n, hh⟩ := rn_i rfl rfl rfl rfl hh
    have hh : pm_run PT n fr lo 112 (24, [some (.ref 0), some (.int (nI a)), some (.int (nI b)), some (.int (Int32.ofInt (-2))), some (.int (nI 100)), some (.int (nI 0)), none], [], h, 198, sl) = some R := hh
    obtain ⟨n, u4, u3, hc5, hf6, hh⟩ := v112_24_ok (m1 := a) (m2 := b)  (i := 0) (x3 := (Int32.ofInt (-2))) (x4 := (nI 100)) (o6 := none) (j := gc) (by omega) (by omega) hw (by omega) (by omega) hh
    have hh : pm_run PT n fr lo 112 (122, [some (.ref 0), some (.int (nI a)), some (.int (nI b)), some (.int ((v112_24 q cc gc a b gc 0 ((Int32.ofInt (-2)), (nI 100), h)).1)), some (.int ((v112_24 q cc gc a b gc 0 ((Int32.ofInt (-2)), (nI 100), h)).2.1)), u4, u3], [], (v112_24 q cc gc a b gc 0 ((Int32.ofInt (-2)), (nI 100), h)).2.2, 198, sl) = some R := hh
    obtain ⟨n, hh⟩ := rn_i rfl rfl rfl rfl hh
    have hh : pm_run PT n fr lo 112 (123, [some (.ref 0), some (.int (nI a)), some (.int (nI b)), some (.int ((v112_24 q cc gc a b gc 0 ((Int32.ofInt (-2)), (nI 100), h)).1)), some (.int ((v112_24 q cc gc a b gc 0 ((Int32.ofInt (-2)), (nI 100), h)).2.1)), u4, u3], [.int ((v112_24 q cc gc a b gc 0 ((Int32.ofInt (-2)), (nI 100), h)).1)], (v112_24 q cc gc a b gc 0 ((Int32.ofInt (-2)), (nI 100), h)).2.2, 198, sl) = some R := hh
    obtain ⟨n, hh⟩ := en_zn (cc := .lt) (off := 13) (t := 136) (b := pm_cmp .lt ((v112_24 q cc gc a b gc 0 ((Int32.ofInt (-2)), (nI 100), h)).1) 0) rfl rfl rfl hh
    cases z7 : pm_cmp .lt ((v112_24 q cc gc a b gc 0 ((Int32.ofInt (-2)), (nI 100), h)).1) 0 with
    | true =>
      have hh := en_t z7 hh
      have hh : pm_run PT n fr lo 112 (136, [some (.ref 0), some (.int (nI a)), some (.int (nI b)), some (.int ((v112_24 q cc gc a b gc 0 ((Int32.ofInt (-2)), (nI 100), h)).1)), some (.int ((v112_24 q cc gc a b gc 0 ((Int32.ofInt (-2)), (nI 100), h)).2.1)), u4, u3], [], (v112_24 q cc gc a b gc 0 ((Int32.ofInt (-2)), (nI 100), h)).2.2, 198, sl) = some R := hh
      obtain ⟨n, hh⟩ := rn_i rfl rfl rfl rfl hh
      have hh : pm_run PT n fr lo 112 (137, [some (.ref 0), some (.int (nI a)), some (.int (nI b)), some (.int ((v112_24 q cc gc a b gc 0 ((Int32.ofInt (-2)), (nI 100), h)).1)), some (.int ((v112_24 q cc gc a b gc 0 ((Int32.ofInt (-2)), (nI 100), h)).2.1)), u4, u3], [.int ((v112_24 q cc gc a b gc 0 ((Int32.ofInt (-2)), (nI 100), h)).1)], (v112_24 q cc gc a b gc 0 ((Int32.ofInt (-2)), (nI 100), h)).2.2, 198, sl) = some R := hh
      have er8 : R = (some (.int ((v112_24 q cc gc a b gc 0 ((Int32.ofInt (-2)), (nI 100), h)).1)), (v112_24 q cc gc a b gc 0 ((Int32.ofInt (-2)), (nI 100), h)).2.2, 198, sl) := (rn_ret rfl (Or.inl rfl) hh).2
      have ed : v112 q cc gc h a b = ((v112_24 q cc gc a b gc 0 ((Int32.ofInt (-2)), (nI 100), h)).1, (v112_24 q cc gc a b gc 0 ((Int32.ofInt (-2)), (nI 100), h)).2.2) := (ct z2).trans ((ct z7).trans rfl)
      refine ⟨?_, ?_, ?_⟩ <;> rw [ed]
      · exact er8
      · exact hc5
      · exact (fr_g rfl rfl hf6 fr_0)
    | false =>
      have hh := en_f z7 hh
      have hh : pm_run PT n fr lo 112 (126, [some (.ref 0), some (.int (nI a)), some (.int (nI b)), some (.int ((v112_24 q cc gc a b gc 0 ((Int32.ofInt (-2)), (nI 100), h)).1)), some (.int ((v112_24 q cc gc a b gc 0 ((Int32.ofInt (-2)), (nI 100), h)).2.1)), u4, u3], [], (v112_24 q cc gc a b gc 0 ((Int32.ofInt (-2)), (nI 100), h)).2.2, 198, sl) = some R := hh
      obtain ⟨n, hh⟩ := rn_i rfl rfl rfl rfl hh
      have hh : pm_run PT n fr lo 112 (127, [some (.ref 0), some (.int (nI a)), some (.int (nI b)), some (.int ((v112_24 q cc gc a b gc 0 ((Int32.ofInt (-2)), (nI 100), h)).1)), some (.int ((v112_24 q cc gc a b gc 0 ((Int32.ofInt (-2)), (nI 100), h)).2.1)), u4, u3], [.ref 0], (v112_24 q cc gc a b gc 0 ((Int32.ofInt (-2)), (nI 100), h)).2.2, 198, sl) = some R := hh
      obtain ⟨n, hh⟩ := rn_gr hc5.wt rfl rfl (by decide) rfl (by decide) (show _ = some (2, ((3 : Nat) : Int), 1) from rfl) rfl hh
      obtain ⟨n, hh⟩ := rn_i rfl rfl rfl rfl hh
      obtain ⟨n, hh⟩ := rn_i rfl rfl rfl rfl hh
      have hh : pm_run PT n fr lo 112 (133, [some (.ref 0), some (.int (nI a)), some (.int (nI b)), some (.int ((v112_24 q cc gc a b gc 0 ((Int32.ofInt (-2)), (nI 100), h)).1)), some (.int ((v112_24 q cc gc a b gc 0 ((Int32.ofInt (-2)), (nI 100), h)).2.1)), u4, u3], [.long (((v112_24 q cc gc a b gc 0 ((Int32.ofInt (-2)), (nI 100), h)).2.1).toInt64), .ref 3], (v112_24 q cc gc a b gc 0 ((Int32.ofInt (-2)), (nI 100), h)).2.2, 198, sl) = some R := hh
      obtain ⟨n, fr1, lo1, r1, hh1, hh⟩ := rn_call (w := 0) (t := 55) rfl rfl hh
      obtain ⟨er9, hc10, hf11⟩ := v55_ok (v := (((v112_24 q cc gc a b gc 0 ((Int32.ofInt (-2)), (nI 100), h)).2.1).toInt64)) hc5 hh1
      subst er9
      obtain ⟨n, hh⟩ := rn_i rfl rfl rfl rfl hh
      have hh : pm_run PT n fr lo 112 (137, [some (.ref 0), some (.int (nI a)), some (.int (nI b)), some (.int ((v112_24 q cc gc a b gc 0 ((Int32.ofInt (-2)), (nI 100), h)).1)), some (.int ((v112_24 q cc gc a b gc 0 ((Int32.ofInt (-2)), (nI 100), h)).2.1)), u4, u3], [.int ((v112_24 q cc gc a b gc 0 ((Int32.ofInt (-2)), (nI 100), h)).1)], v55 q cc gc ((v112_24 q cc gc a b gc 0 ((Int32.ofInt (-2)), (nI 100), h)).2.2) (((v112_24 q cc gc a b gc 0 ((Int32.ofInt (-2)), (nI 100), h)).2.1).toInt64), 198, sl) = some R := hh
      have er12 : R = (some (.int ((v112_24 q cc gc a b gc 0 ((Int32.ofInt (-2)), (nI 100), h)).1)), v55 q cc gc ((v112_24 q cc gc a b gc 0 ((Int32.ofInt (-2)), (nI 100), h)).2.2) (((v112_24 q cc gc a b gc 0 ((Int32.ofInt (-2)), (nI 100), h)).2.1).toInt64), 198, sl) := (rn_ret rfl (Or.inl rfl) hh).2
      have ed : v112 q cc gc h a b = ((v112_24 q cc gc a b gc 0 ((Int32.ofInt (-2)), (nI 100), h)).1, v55 q cc gc ((v112_24 q cc gc a b gc 0 ((Int32.ofInt (-2)), (nI 100), h)).2.2) (((v112_24 q cc gc a b gc 0 ((Int32.ofInt (-2)), (nI 100), h)).2.1).toInt64)) := (ct z2).trans ((cf z7).trans rfl)
      refine ⟨?_, ?_, ?_⟩ <;> rw [ed]
      · exact er12
      · exact hc10
      · exact (fr_g rfl rfl hf11 (fr_g rfl rfl hf6 fr_0))
  | false =>
    have hh := en_f z2 hh
    have hh : pm_run PT n fr lo 112 (12, [some (.ref 0), some (.int (nI a)), some (.int (nI b)), none, none, none, none], [], h, 198, sl) = some R := hh
    obtain ⟨n, hh⟩ := rn_i rfl rfl rfl rfl hh
    have hh : pm_run PT n fr lo 112 (13, [some (.ref 0), some (.int (nI a)), some (.int (nI b)), none, none, none, none], [.int (Int32.ofInt (-1))], h, 198, sl) = some R := hh
    have er13 : R = (some (.int (Int32.ofInt (-1))), h, 198, sl) := (rn_ret rfl (Or.inl rfl) hh).2
    have ed : v112 q cc gc h a b = ((Int32.ofInt (-1)), h) := (cf z2).trans rfl
    refine ⟨?_, ?_, ?_⟩ <;> rw [ed]
    · exact er13
    · exact hw
    · exact fr_0
def v2 (q : QT) (cc gc : Nat) (a : Int32) (b : Int32) : Bool := cond (pm_cmp .eq a (nI 0)) (cond (pm_cmp .lt b 0) false (cond (pm_cmp .ge b (nI 5)) false true)) (cond (pm_cmp .eq a (nI 1)) (cond (pm_cmp .lt b (nI 1)) false (cond (pm_cmp .gt b (nI 99)) false true)) (cond (pm_cmp .eq a (nI 2)) (cond (pm_cmp .lt b 0) false (cond (pm_cmp .ge b (nI 6)) false true)) (cond (pm_cmp .eq a (nI 3)) (cond (pm_cmp .eq b 0) true (cond (pm_cmp .ne b (nI 1)) false true)) false)))
theorem v2_ok {n fr lo sl cc gc : Nat} {q : QT} {h : pm_H} {R : pm_Rs} {a : Int32} {b : Int32} (hw : HC q cc gc h) (hh : pm_run PT n fr lo 2 (0, pm_l0 [.int a, .int b] 2, [], h, 198, sl) = some R) : R = (some (.int (cond (v2 q cc gc a b) 1 0)), h, 198, sl) := by
  have hcc := hw.cb
  have hgc := hw.gb
  have hzr := hw.zr
  obtain ⟨n, hh⟩ := rn_i rfl rfl rfl rfl hh
  have hh : pm_run PT n fr lo 2 (1, [some (.int a), some (.int b)], [.int a], h, 198, sl) = some R := hh
  cases z1 : pm_cmp .eq a (nI 0) with
  | true =>
    obtain ⟨n, hh⟩ := en_tsc (c := 0) (t := 32) rfl (en_xc (c := 0) (by decide) z1) (by decide) rfl rfl hh
    have hh : pm_run PT n fr lo 2 (32, [some (.int a), some (.int b)], [], h, 198, sl) = some R := hh
    obtain ⟨n, hh⟩ := rn_i rfl rfl rfl rfl hh
    have hh : pm_run PT n fr lo 2 (33, [some (.int a), some (.int b)], [.int b], h, 198, sl) = some R := hh
    obtain ⟨n, hh⟩ := en_zn (cc := .lt) (off := 12) (t := 45) (b := pm_cmp .lt b 0) rfl rfl rfl hh
    have hj5 : ∃ mJ, pm_run PT mJ fr lo 2 (cond (pm_cmp .lt b 0) (46, [some (.int a), some (.int b)], [.int (nI 0)], h, 198, sl) (46, [some (.int a), some (.int b)], [.int (cond (cond (pm_cmp .ge b (nI 5)) false true) 1 0)], h, 198, sl)) = some R := en_J (fun z2 => by
        have hh := en_t z2 hh
        have hh : pm_run PT n fr lo 2 (45, [some (.int a), some (.int b)], [], h, 198, sl) = some R := hh
        obtain ⟨n, hh⟩ := rn_i rfl rfl rfl rfl hh
        exact ⟨n, hh⟩) (fun z2 => by
        have hh := en_f z2 hh
        have hh : pm_run PT n fr lo 2 (36, [some (.int a), some (.int b)], [], h, 198, sl) = some R := hh
        obtain ⟨n, hh⟩ := rn_i rfl rfl rfl rfl hh
        obtain ⟨n, hh⟩ := rn_i rfl rfl rfl rfl hh
        have hh : pm_run PT n fr lo 2 (38, [some (.int a), some (.int b)], [.int (nI 5), .int b], h, 198, sl) = some R := hh
        obtain ⟨n, hh⟩ := en_cn (cc := .ge) (off := 7) (t := 45) (b := pm_cmp .ge b (nI 5)) rfl rfl rfl hh
        have hj4 : ∃ mJ, pm_run PT mJ fr lo 2 (cond (pm_cmp .ge b (nI 5)) (46, [some (.int a), some (.int b)], [.int (nI 0)], h, 198, sl) (46, [some (.int a), some (.int b)], [.int (nI 1)], h, 198, sl)) = some R := en_J (fun z3 => by
            have hh := en_t z3 hh
            have hh : pm_run PT n fr lo 2 (45, [some (.int a), some (.int b)], [], h, 198, sl) = some R := hh
            obtain ⟨n, hh⟩ := rn_i rfl rfl rfl rfl hh
            exact ⟨n, hh⟩) (fun z3 => by
            have hh := en_f z3 hh
            have hh : pm_run PT n fr lo 2 (41, [some (.int a), some (.int b)], [], h, 198, sl) = some R := hh
            obtain ⟨n, hh⟩ := rn_i rfl rfl rfl rfl hh
            obtain ⟨n, hh⟩ := rn_i rfl rfl rfl rfl hh
            exact ⟨n, hh⟩)
        obtain ⟨n, hh⟩ := hj4
        rw [show (cond (pm_cmp .ge b (nI 5)) (46, [some (.int a), some (.int b)], [.int (nI 0)], h, 198, sl) (46, [some (.int a), some (.int b)], [.int (nI 1)], h, 198, sl) : pm_St) = (46, [some (.int a), some (.int b)], [.int (cond (cond (pm_cmp .ge b (nI 5)) false true) 1 0)], h, 198, sl) from by cases (pm_cmp .ge b (nI 5)) <;> rfl] at hh
        exact ⟨n, hh⟩)
    obtain ⟨n, hh⟩ := hj5
    rw [show (cond (pm_cmp .lt b 0) (46, [some (.int a), some (.int b)], [.int (nI 0)], h, 198, sl) (46, [some (.int a), some (.int b)], [.int (cond (cond (pm_cmp .ge b (nI 5)) false true) 1 0)], h, 198, sl) : pm_St) = (46, [some (.int a), some (.int b)], [.int (cond (cond (pm_cmp .lt b 0) false (cond (pm_cmp .ge b (nI 5)) false true)) 1 0)], h, 198, sl) from by cases (pm_cmp .lt b 0) <;> rfl] at hh
    have hh : pm_run PT n fr lo 2 (46, [some (.int a), some (.int b)], [.int (cond (cond (pm_cmp .lt b 0) false (cond (pm_cmp .ge b (nI 5)) false true)) 1 0)], h, 198, sl) = some R := hh
    have er6 : R = (some (.int (cond (cond (pm_cmp .lt b 0) false (cond (pm_cmp .ge b (nI 5)) false true)) 1 0)), h, 198, sl) := (rn_ret rfl (Or.inr rfl) hh).2
    have ed : v2 q cc gc a b = cond (pm_cmp .lt b 0) false (cond (pm_cmp .ge b (nI 5)) false true) := (ct z1).trans rfl
    rw [ed]
    exact er6
  | false =>
    cases z7 : pm_cmp .eq a (nI 1) with
    | true =>
      obtain ⟨n, hh⟩ := en_tsc (c := 1) (t := 47) rfl (en_xc (c := 1) (by decide) z7) (by decide) rfl rfl hh
      have hh : pm_run PT n fr lo 2 (47, [some (.int a), some (.int b)], [], h, 198, sl) = some R := hh
      obtain ⟨n, hh⟩ := rn_i rfl rfl rfl rfl hh
      obtain ⟨n, hh⟩ := rn_i rfl rfl rfl rfl hh
      have hh : pm_run PT n fr lo 2 (49, [some (.int a), some (.int b)], [.int (nI 1), .int b], h, 198, sl) = some R := hh
      obtain ⟨n, hh⟩ := en_cn (cc := .lt) (off := 13) (t := 62) (b := pm_cmp .lt b (nI 1)) rfl rfl rfl hh
      have hj11 : ∃ mJ, pm_run PT mJ fr lo 2 (cond (pm_cmp .lt b (nI 1)) (63, [some (.int a), some (.int b)], [.int (nI 0)], h, 198, sl) (63, [some (.int a), some (.int b)], [.int (cond (cond (pm_cmp .gt b (nI 99)) false true) 1 0)], h, 198, sl)) = some R := en_J (fun z8 => by
          have hh := en_t z8 hh
          have hh : pm_run PT n fr lo 2 (62, [some (.int a), some (.int b)], [], h, 198, sl) = some R := hh
          obtain ⟨n, hh⟩ := rn_i rfl rfl rfl rfl hh
          exact ⟨n, hh⟩) (fun z8 => by
          have hh := en_f z8 hh
          have hh : pm_run PT n fr lo 2 (52, [some (.int a), some (.int b)], [], h, 198, sl) = some R := hh
          obtain ⟨n, hh⟩ := rn_i rfl rfl rfl rfl hh
          obtain ⟨n, hh⟩ := rn_i rfl rfl rfl rfl hh
          have hh : pm_run PT n fr lo 2 (55, [some (.int a), some (.int b)], [.int (nI 99), .int b], h, 198, sl) = some R := hh
          obtain ⟨n, hh⟩ := en_cn (cc := .gt) (off := 7) (t := 62) (b := pm_cmp .gt b (nI 99)) rfl rfl rfl hh
          have hj10 : ∃ mJ, pm_run PT mJ fr lo 2 (cond (pm_cmp .gt b (nI 99)) (63, [some (.int a), some (.int b)], [.int (nI 0)], h, 198, sl) (63, [some (.int a), some (.int b)], [.int (nI 1)], h, 198, sl)) = some R := en_J (fun z9 => by
              have hh := en_t z9 hh
              have hh : pm_run PT n fr lo 2 (62, [some (.int a), some (.int b)], [], h, 198, sl) = some R := hh
              obtain ⟨n, hh⟩ := rn_i rfl rfl rfl rfl hh
              exact ⟨n, hh⟩) (fun z9 => by
              have hh := en_f z9 hh
              have hh : pm_run PT n fr lo 2 (58, [some (.int a), some (.int b)], [], h, 198, sl) = some R := hh
              obtain ⟨n, hh⟩ := rn_i rfl rfl rfl rfl hh
              obtain ⟨n, hh⟩ := rn_i rfl rfl rfl rfl hh
              exact ⟨n, hh⟩)
          obtain ⟨n, hh⟩ := hj10
          rw [show (cond (pm_cmp .gt b (nI 99)) (63, [some (.int a), some (.int b)], [.int (nI 0)], h, 198, sl) (63, [some (.int a), some (.int b)], [.int (nI 1)], h, 198, sl) : pm_St) = (63, [some (.int a), some (.int b)], [.int (cond (cond (pm_cmp .gt b (nI 99)) false true) 1 0)], h, 198, sl) from by cases (pm_cmp .gt b (nI 99)) <;> rfl] at hh
          exact ⟨n, hh⟩)
      obtain ⟨n, hh⟩ := hj11
      rw [show (cond (pm_cmp .lt b (nI 1)) (63, [some (.int a), some (.int b)], [.int (nI 0)], h, 198, sl) (63, [some (.int a), some (.int b)], [.int (cond (cond (pm_cmp .gt b (nI 99)) false true) 1 0)], h, 198, sl) : pm_St) = (63, [some (.int a), some (.int b)], [.int (cond (cond (pm_cmp .lt b (nI 1)) false (cond (pm_cmp .gt b (nI 99)) false true)) 1 0)], h, 198, sl) from by cases (pm_cmp .lt b (nI 1)) <;> rfl] at hh
      have hh : pm_run PT n fr lo 2 (63, [some (.int a), some (.int b)], [.int (cond (cond (pm_cmp .lt b (nI 1)) false (cond (pm_cmp .gt b (nI 99)) false true)) 1 0)], h, 198, sl) = some R := hh
      have er12 : R = (some (.int (cond (cond (pm_cmp .lt b (nI 1)) false (cond (pm_cmp .gt b (nI 99)) false true)) 1 0)), h, 198, sl) := (rn_ret rfl (Or.inr rfl) hh).2
      have ed : v2 q cc gc a b = cond (pm_cmp .lt b (nI 1)) false (cond (pm_cmp .gt b (nI 99)) false true) := (cf z1).trans ((ct z7).trans rfl)
      rw [ed]
      exact er12
    | false =>
      cases z13 : pm_cmp .eq a (nI 2) with
      | true =>
        obtain ⟨n, hh⟩ := en_tsc (c := 2) (t := 64) rfl (en_xc (c := 2) (by decide) z13) (by decide) rfl rfl hh
        have hh : pm_run PT n fr lo 2 (64, [some (.int a), some (.int b)], [], h, 198, sl) = some R := hh
        obtain ⟨n, hh⟩ := rn_i rfl rfl rfl rfl hh
        have hh : pm_run PT n fr lo 2 (65, [some (.int a), some (.int b)], [.int b], h, 198, sl) = some R := hh
        obtain ⟨n, hh⟩ := en_zn (cc := .lt) (off := 13) (t := 78) (b := pm_cmp .lt b 0) rfl rfl rfl hh
        have hj17 : ∃ mJ, pm_run PT mJ fr lo 2 (cond (pm_cmp .lt b 0) (79, [some (.int a), some (.int b)], [.int (nI 0)], h, 198, sl) (79, [some (.int a), some (.int b)], [.int (cond (cond (pm_cmp .ge b (nI 6)) false true) 1 0)], h, 198, sl)) = some R := en_J (fun z14 => by
            have hh := en_t z14 hh
            have hh : pm_run PT n fr lo 2 (78, [some (.int a), some (.int b)], [], h, 198, sl) = some R := hh
            obtain ⟨n, hh⟩ := rn_i rfl rfl rfl rfl hh
            exact ⟨n, hh⟩) (fun z14 => by
            have hh := en_f z14 hh
            have hh : pm_run PT n fr lo 2 (68, [some (.int a), some (.int b)], [], h, 198, sl) = some R := hh
            obtain ⟨n, hh⟩ := rn_i rfl rfl rfl rfl hh
            obtain ⟨n, hh⟩ := rn_i rfl rfl rfl rfl hh
            have hh : pm_run PT n fr lo 2 (71, [some (.int a), some (.int b)], [.int (nI 6), .int b], h, 198, sl) = some R := hh
            obtain ⟨n, hh⟩ := en_cn (cc := .ge) (off := 7) (t := 78) (b := pm_cmp .ge b (nI 6)) rfl rfl rfl hh
            have hj16 : ∃ mJ, pm_run PT mJ fr lo 2 (cond (pm_cmp .ge b (nI 6)) (79, [some (.int a), some (.int b)], [.int (nI 0)], h, 198, sl) (79, [some (.int a), some (.int b)], [.int (nI 1)], h, 198, sl)) = some R := en_J (fun z15 => by
                have hh := en_t z15 hh
                have hh : pm_run PT n fr lo 2 (78, [some (.int a), some (.int b)], [], h, 198, sl) = some R := hh
                obtain ⟨n, hh⟩ := rn_i rfl rfl rfl rfl hh
                exact ⟨n, hh⟩) (fun z15 => by
                have hh := en_f z15 hh
                have hh : pm_run PT n fr lo 2 (74, [some (.int a), some (.int b)], [], h, 198, sl) = some R := hh
                obtain ⟨n, hh⟩ := rn_i rfl rfl rfl rfl hh
                obtain ⟨n, hh⟩ := rn_i rfl rfl rfl rfl hh
                exact ⟨n, hh⟩)
            obtain ⟨n, hh⟩ := hj16
            rw [show (cond (pm_cmp .ge b (nI 6)) (79, [some (.int a), some (.int b)], [.int (nI 0)], h, 198, sl) (79, [some (.int a), some (.int b)], [.int (nI 1)], h, 198, sl) : pm_St) = (79, [some (.int a), some (.int b)], [.int (cond (cond (pm_cmp .ge b (nI 6)) false true) 1 0)], h, 198, sl) from by cases (pm_cmp .ge b (nI 6)) <;> rfl] at hh
            exact ⟨n, hh⟩)
        obtain ⟨n, hh⟩ := hj17
        rw [show (cond (pm_cmp .lt b 0) (79, [some (.int a), some (.int b)], [.int (nI 0)], h, 198, sl) (79, [some (.int a), some (.int b)], [.int (cond (cond (pm_cmp .ge b (nI 6)) false true) 1 0)], h, 198, sl) : pm_St) = (79, [some (.int a), some (.int b)], [.int (cond (cond (pm_cmp .lt b 0) false (cond (pm_cmp .ge b (nI 6)) false true)) 1 0)], h, 198, sl) from by cases (pm_cmp .lt b 0) <;> rfl] at hh
        have hh : pm_run PT n fr lo 2 (79, [some (.int a), some (.int b)], [.int (cond (cond (pm_cmp .lt b 0) false (cond (pm_cmp .ge b (nI 6)) false true)) 1 0)], h, 198, sl) = some R := hh
        have er18 : R = (some (.int (cond (cond (pm_cmp .lt b 0) false (cond (pm_cmp .ge b (nI 6)) false true)) 1 0)), h, 198, sl) := (rn_ret rfl (Or.inr rfl) hh).2
        have ed : v2 q cc gc a b = cond (pm_cmp .lt b 0) false (cond (pm_cmp .ge b (nI 6)) false true) := (cf z1).trans ((cf z7).trans ((ct z13).trans rfl))
        rw [ed]
        exact er18
      | false =>
        cases z19 : pm_cmp .eq a (nI 3) with
        | true =>
          obtain ⟨n, hh⟩ := en_tsc (c := 3) (t := 80) rfl (en_xc (c := 3) (by decide) z19) (by decide) rfl rfl hh
          have hh : pm_run PT n fr lo 2 (80, [some (.int a), some (.int b)], [], h, 198, sl) = some R := hh
          obtain ⟨n, hh⟩ := rn_i rfl rfl rfl rfl hh
          have hh : pm_run PT n fr lo 2 (81, [some (.int a), some (.int b)], [.int b], h, 198, sl) = some R := hh
          obtain ⟨n, hh⟩ := en_zn (cc := .eq) (off := 8) (t := 89) (b := pm_cmp .eq b 0) rfl rfl rfl hh
          have hj23 : ∃ mJ, pm_run PT mJ fr lo 2 (cond (pm_cmp .eq b 0) (94, [some (.int a), some (.int b)], [.int (nI 1)], h, 198, sl) (94, [some (.int a), some (.int b)], [.int (cond (cond (pm_cmp .ne b (nI 1)) false true) 1 0)], h, 198, sl)) = some R := en_J (fun z20 => by
              have hh := en_t z20 hh
              have hh : pm_run PT n fr lo 2 (89, [some (.int a), some (.int b)], [], h, 198, sl) = some R := hh
              obtain ⟨n, hh⟩ := rn_i rfl rfl rfl rfl hh
              obtain ⟨n, hh⟩ := rn_i rfl rfl rfl rfl hh
              exact ⟨n, hh⟩) (fun z20 => by
              have hh := en_f z20 hh
              have hh : pm_run PT n fr lo 2 (84, [some (.int a), some (.int b)], [], h, 198, sl) = some R := hh
              obtain ⟨n, hh⟩ := rn_i rfl rfl rfl rfl hh
              obtain ⟨n, hh⟩ := rn_i rfl rfl rfl rfl hh
              have hh : pm_run PT n fr lo 2 (86, [some (.int a), some (.int b)], [.int (nI 1), .int b], h, 198, sl) = some R := hh
              obtain ⟨n, hh⟩ := en_cn (cc := .ne) (off := 7) (t := 93) (b := pm_cmp .ne b (nI 1)) rfl rfl rfl hh
              have hj22 : ∃ mJ, pm_run PT mJ fr lo 2 (cond (pm_cmp .ne b (nI 1)) (94, [some (.int a), some (.int b)], [.int (nI 0)], h, 198, sl) (94, [some (.int a), some (.int b)], [.int (nI 1)], h, 198, sl)) = some R := en_J (fun z21 => by
                  have hh := en_t z21 hh
                  have hh : pm_run PT n fr lo 2 (93, [some (.int a), some (.int b)], [], h, 198, sl) = some R := hh
                  obtain ⟨n, hh⟩ := rn_i rfl rfl rfl rfl hh
                  exact ⟨n, hh⟩) (fun z21 => by
                  have hh := en_f z21 hh
                  have hh : pm_run PT n fr lo 2 (89, [some (.int a), some (.int b)], [], h, 198, sl) = some R := hh
                  obtain ⟨n, hh⟩ := rn_i rfl rfl rfl rfl hh
                  obtain ⟨n, hh⟩ := rn_i rfl rfl rfl rfl hh
                  exact ⟨n, hh⟩)
              obtain ⟨n, hh⟩ := hj22
              rw [show (cond (pm_cmp .ne b (nI 1)) (94, [some (.int a), some (.int b)], [.int (nI 0)], h, 198, sl) (94, [some (.int a), some (.int b)], [.int (nI 1)], h, 198, sl) : pm_St) = (94, [some (.int a), some (.int b)], [.int (cond (cond (pm_cmp .ne b (nI 1)) false true) 1 0)], h, 198, sl) from by cases (pm_cmp .ne b (nI 1)) <;> rfl] at hh
              exact ⟨n, hh⟩)
          obtain ⟨n, hh⟩ := hj23
          rw [show (cond (pm_cmp .eq b 0) (94, [some (.int a), some (.int b)], [.int (nI 1)], h, 198, sl) (94, [some (.int a), some (.int b)], [.int (cond (cond (pm_cmp .ne b (nI 1)) false true) 1 0)], h, 198, sl) : pm_St) = (94, [some (.int a), some (.int b)], [.int (cond (cond (pm_cmp .eq b 0) true (cond (pm_cmp .ne b (nI 1)) false true)) 1 0)], h, 198, sl) from by cases (pm_cmp .eq b 0) <;> rfl] at hh
          have hh : pm_run PT n fr lo 2 (94, [some (.int a), some (.int b)], [.int (cond (cond (pm_cmp .eq b 0) true (cond (pm_cmp .ne b (nI 1)) false true)) 1 0)], h, 198, sl) = some R := hh
          have er24 : R = (some (.int (cond (cond (pm_cmp .eq b 0) true (cond (pm_cmp .ne b (nI 1)) false true)) 1 0)), h, 198, sl) := (rn_ret rfl (Or.inr rfl) hh).2
          have ed : v2 q cc gc a b = cond (pm_cmp .eq b 0) true (cond (pm_cmp .ne b (nI 1)) false true) := (cf z1).trans ((cf z7).trans ((cf z13).trans ((ct z19).trans rfl)))
          rw [ed]
          exact er24
        | false =>
          obtain ⟨n, hh⟩ := en_tsd (t := 95) [0, 1, 2, 3] rfl (by decide) (by decide) (en_l1 (en_xn (c := 0) (by decide) z1) (en_l1 (en_xn (c := 1) (by decide) z7) (en_l1 (en_xn (c := 2) (by decide) z13) (en_l1 (en_xn (c := 3) (by decide) z19) en_l0)))) rfl hh
          have hh : pm_run PT n fr lo 2 (95, [some (.int a), some (.int b)], [], h, 198, sl) = some R := hh
          obtain ⟨n, hh⟩ := rn_i rfl rfl rfl rfl hh
          have hh : pm_run PT n fr lo 2 (96, [some (.int a), some (.int b)], [.int (nI 0)], h, 198, sl) = some R := hh
          have er25 : R = (some (.int (nI 0)), h, 198, sl) := (rn_ret rfl (Or.inr rfl) hh).2
          have ed : v2 q cc gc a b = false := (cf z1).trans ((cf z7).trans ((cf z13).trans ((cf z19).trans rfl)))
          rw [ed]
          exact er25
def v1 (q : QT) (cc gc : Nat) (h : pm_H) (w : Nat) (a : Int32) (b : Int32) : Bool × pm_H := cond (decide (12 ≤ w)) (false, h) (cond (v2 q cc gc a b) (true, fset (aset (aset h 160 12 (upd (Ar h 160) w a)) 161 12 (upd (Ar h 161) w b)) 159 0 (.int (nI (w + 1)))) (false, h))
theorem v1_ok {n fr lo sl cc gc : Nat} {q : QT} {h : pm_H} {R : pm_Rs} {w : Nat} {a : Int32} {b : Int32} (hw : HC q cc gc h) (hw3 : w ≤ 12) (e3 : Fi h 159 0 = nI w) (hh : pm_run PT n fr lo 1 (0, pm_l0 [.ref 159, .int a, .int b] 3, [], h, 198, sl) = some R) : R = (some (.int (cond (v1 q cc gc h w a b).1 1 0)), (v1 q cc gc h w a b).2, 198, sl) ∧ HC q cc gc ((v1 q cc gc h w a b).2) ∧ frm [159, 160, 161] [(159, 0)] h ((v1 q cc gc h w a b).2) := by
  have hcc := hw.cb
  have hgc := hw.gb
  have hzr := hw.zr
  obtain ⟨n, hh⟩ := rn_i rfl rfl rfl rfl hh
  have hh : pm_run PT n fr lo 1 (1, [some (.ref 159), some (.int a), some (.int b)], [.ref 159], h, 198, sl) = some R := hh
  obtain ⟨n, hh⟩ := rn_gi (x := nI w) hw.wt rfl rfl (by decide) rfl (by decide) rfl e3 hh
  obtain ⟨n, hh⟩ := rn_i rfl rfl rfl rfl hh
  have hh : pm_run PT n fr lo 1 (6, [some (.ref 159), some (.int a), some (.int b)], [.int (nI 12), .int (nI w)], h, 198, sl) = some R := hh
  obtain ⟨n, hh⟩ := en_cn (cc := .ge) (off := 11) (t := 17) (b := decide (12 ≤ w)) (hI_ge (by omega) (by omega)) rfl rfl hh
  cases z1 : decide (12 ≤ w) with
  | true =>
    have hh := en_t z1 hh
    have hh : pm_run PT n fr lo 1 (17, [some (.ref 159), some (.int a), some (.int b)], [], h, 198, sl) = some R := hh
    have y2 := of_decide_eq_true z1
    obtain ⟨n, hh⟩ := rn_i rfl rfl rfl rfl hh
    have hh : pm_run PT n fr lo 1 (18, [some (.ref 159), some (.int a), some (.int b)], [.int (nI 0)], h, 198, sl) = some R := hh
    have er3 : R = (some (.int (nI 0)), h, 198, sl) := (rn_ret rfl (Or.inr rfl) hh).2
    have ed : v1 q cc gc h w a b = (false, h) := (ct z1).trans rfl
    refine ⟨?_, ?_, ?_⟩ <;> rw [ed]
    · exact er3
    · exact hw
    · exact fr_0
  | false =>
    have hh := en_f z1 hh
    have hh : pm_run PT n fr lo 1 (9, [some (.ref 159), some (.int a), some (.int b)], [], h, 198, sl) = some R := hh
    have y4 := of_decide_eq_false z1
    obtain ⟨n, hh⟩ := rn_i rfl rfl rfl rfl hh
    obtain ⟨n, hh⟩ := rn_i rfl rfl rfl rfl hh
    have hh : pm_run PT n fr lo 1 (11, [some (.ref 159), some (.int a), some (.int b)], [.int b, .int a], h, 198, sl) = some R := hh
    obtain ⟨n, fr1, lo1, r1, hh1, hh⟩ := rn_call (w := 2) (t := 2) rfl rfl hh
    have er5 := v2_ok (a := a) (b := b) hw hh1
    subst er5
    have hh : pm_run PT n fr lo 1 (14, [some (.ref 159), some (.int a), some (.int b)], [.int (cond (v2 q cc gc a b) 1 0)], h, 198, sl) = some R := hh
    obtain ⟨n, hh⟩ := en_zn (cc := .ne) (off := 5) (t := 19) (b := v2 q cc gc a b) eb_ne rfl rfl hh
    cases z6 : v2 q cc gc a b with
    | true =>
      have hh := en_t z6 hh
      have hh : pm_run PT n fr lo 1 (19, [some (.ref 159), some (.int a), some (.int b)], [], h, 198, sl) = some R := hh
      obtain ⟨n, hh⟩ := rn_i rfl rfl rfl rfl hh
      have hh : pm_run PT n fr lo 1 (20, [some (.ref 159), some (.int a), some (.int b)], [.ref 159], h, 198, sl) = some R := hh
      obtain ⟨n, hh⟩ := rn_gr hw.wt rfl rfl (by decide) rfl (by decide) (show _ = some (2, ((160 : Nat) : Int), 1) from rfl) rfl hh
      obtain ⟨n, hh⟩ := rn_i rfl rfl rfl rfl hh
      have hh : pm_run PT n fr lo 1 (24, [some (.ref 159), some (.int a), some (.int b)], [.ref 159, .ref 160], h, 198, sl) = some R := hh
      obtain ⟨n, hh⟩ := rn_gi (x := nI w) hw.wt rfl rfl (by decide) rfl (by decide) rfl e3 hh
      obtain ⟨n, hh⟩ := rn_i rfl rfl rfl rfl hh
      have hh : pm_run PT n fr lo 1 (28, [some (.ref 159), some (.int a), some (.int b)], [.int a, .int (nI w), .ref 160], h, 198, sl) = some R := hh
      obtain ⟨n, hx7, hh⟩ := en_st (t := w) (f := Ar h 160) (nI_clamp (by omega)) hw.wt rfl (by decide) rfl (by decide) rfl hh
      obtain ⟨n, hh⟩ := rn_i rfl rfl rfl rfl hh
      have hh : pm_run PT n fr lo 1 (30, [some (.ref 159), some (.int a), some (.int b)], [.ref 159], aset h 160 12 (upd (Ar h 160) w a), 198, sl) = some R := hh
      obtain ⟨n, hh⟩ := rn_gr (hc_a rfl rfl hw).wt rfl rfl (by decide) rfl (by decide) (show _ = some (2, ((161 : Nat) : Int), 1) from rfl) rfl hh
      obtain ⟨n, hh⟩ := rn_i rfl rfl rfl rfl hh
      have hh : pm_run PT n fr lo 1 (34, [some (.ref 159), some (.int a), some (.int b)], [.ref 159, .ref 161], aset h 160 12 (upd (Ar h 160) w a), 198, sl) = some R := hh
      obtain ⟨n, hh⟩ := rn_gi (x := nI w) (hc_a rfl rfl hw).wt rfl rfl (by decide) rfl (by decide) rfl ((Fi_a (by decide)).trans e3) hh
      obtain ⟨n, hh⟩ := rn_i rfl rfl rfl rfl hh
      have hh : pm_run PT n fr lo 1 (38, [some (.ref 159), some (.int a), some (.int b)], [.int b, .int (nI w), .ref 161], aset h 160 12 (upd (Ar h 160) w a), 198, sl) = some R := hh
      obtain ⟨n, hx8, hh⟩ := en_st (t := w) (f := Ar h 161) (nI_clamp (by omega)) (hc_a rfl rfl hw).wt rfl (by decide) rfl (by decide) ((Ar_n (by decide)).trans rfl) hh
      obtain ⟨n, hh⟩ := rn_i rfl rfl rfl rfl hh
      obtain ⟨n, hh⟩ := rn_i rfl rfl rfl rfl hh
      have hh : pm_run PT n fr lo 1 (41, [some (.ref 159), some (.int a), some (.int b)], [.ref 159, .ref 159], aset (aset h 160 12 (upd (Ar h 160) w a)) 161 12 (upd (Ar h 161) w b), 198, sl) = some R := hh
      obtain ⟨n, hh⟩ := rn_gi (x := nI w) (hc_a rfl rfl (hc_a rfl rfl hw)).wt rfl rfl (by decide) rfl (by decide) rfl ((Fi_a (by decide)).trans ((Fi_a (by decide)).trans e3)) hh
      obtain ⟨n, hh⟩ := rn_i rfl rfl rfl rfl hh
      have hh : pm_run PT n fr lo 1 (45, [some (.ref 159), some (.int a), some (.int b)], [.int (nI 1), .int (nI w), .ref 159], aset (aset h 160 12 (upd (Ar h 160) w a)) 161 12 (upd (Ar h 161) w b), 198, sl) = some R := hh
      obtain ⟨n, hh⟩ := en_add rfl hh
      have hh : pm_run PT n fr lo 1 (46, [some (.ref 159), some (.int a), some (.int b)], [.int (nI (w + 1)), .ref 159], aset (aset h 160 12 (upd (Ar h 160) w a)) 161 12 (upd (Ar h 161) w b), 198, sl) = some R := hh
      have hh : pm_run PT n fr lo 1 (46, [some (.ref 159), some (.int a), some (.int b)], [.int (nI (w + 1)), .ref 159], aset (aset h 160 12 (upd (Ar h 160) w a)) 161 12 (upd (Ar h 161) w b), 198, sl) = some R := hh
      obtain ⟨n, hh⟩ := rn_pi (hc_a rfl rfl (hc_a rfl rfl hw)).wt rfl rfl (by decide) rfl (by decide) rfl hh
      obtain ⟨n, hh⟩ := rn_i rfl rfl rfl rfl hh
      have hh : pm_run PT n fr lo 1 (50, [some (.ref 159), some (.int a), some (.int b)], [.int (nI 1)], fset (aset (aset h 160 12 (upd (Ar h 160) w a)) 161 12 (upd (Ar h 161) w b)) 159 0 (.int (nI (w + 1))), 198, sl) = some R := hh
      have er9 : R = (some (.int (nI 1)), fset (aset (aset h 160 12 (upd (Ar h 160) w a)) 161 12 (upd (Ar h 161) w b)) 159 0 (.int (nI (w + 1))), 198, sl) := (rn_ret rfl (Or.inr rfl) hh).2
      have ed : v1 q cc gc h w a b = (true, fset (aset (aset h 160 12 (upd (Ar h 160) w a)) 161 12 (upd (Ar h 161) w b)) 159 0 (.int (nI (w + 1)))) := (cf z1).trans ((ct z6).trans rfl)
      refine ⟨?_, ?_, ?_⟩ <;> rw [ed]
      · exact er9
      · exact (hc_f rfl rfl (by decide) rfl (hc_a rfl rfl (hc_a rfl rfl hw)))
      · exact (fr_f rfl rfl (fr_a rfl rfl (fr_a rfl rfl fr_0)))
    | false =>
      have hh := en_f z6 hh
      have hh : pm_run PT n fr lo 1 (17, [some (.ref 159), some (.int a), some (.int b)], [], h, 198, sl) = some R := hh
      obtain ⟨n, hh⟩ := rn_i rfl rfl rfl rfl hh
      have hh : pm_run PT n fr lo 1 (18, [some (.ref 159), some (.int a), some (.int b)], [.int (nI 0)], h, 198, sl) = some R := hh
      have er10 : R = (some (.int (nI 0)), h, 198, sl) := (rn_ret rfl (Or.inr rfl) hh).2
      have ed : v1 q cc gc h w a b = (false, h) := (cf z1).trans ((cf z6).trans rfl)
      refine ⟨?_, ?_, ?_⟩ <;> rw [ed]
      · exact er10
      · exact hw
      · exact fr_0
def v75i (q : QT) (cc gc : Nat) (d0 : Nat → Int32) (g : Nat) (c : Int32) : Bool := cond (pm_cmp .eq ((shr ((d0) g) c) &&& (nI 1)) 0) false true
def v5 (q : QT) (cc gc : Nat) (d0 : Nat → Int32) (d1 : Nat → Int32) (d2 : Nat → Int32) (d3 : Int32) (g : Nat) (a : Int32) (b : Int32) : Bool := cond (pm_cmp .eq a (nI 0)) (cond (pm_cmp .ne ((d0) g) b) false true) (cond (pm_cmp .eq a (nI 1)) (cond (pm_cmp .lt ((d1) g) b) false true) (cond (pm_cmp .eq a (nI 2)) (v75i q cc gc (d2) g b) (cond (pm_cmp .ne (cond (v74 q cc gc (d3) g) 1 0) (cond (cond (pm_cmp .ne b (nI 1)) false true) 1 0)) false true)))
def v4_2b (q : QT) (cc gc : Nat) (d0 : Nat → Int32) (d1 : Nat → Int32) (d2 : Nat → Int32) (d3 : Nat → Int32) (d4 : Nat → Int32) (d5 : Int32) (w : Nat) (m2 : Nat) (i : Nat) : (Unit) ⊕ (Bool) := cond (v5 q cc gc (d0) (d1) (d2) (d5) m2 ((d3) i) ((d4) i)) (.inl ()) (.inr false)
def v4_2 (q : QT) (cc gc : Nat) (d0 : Nat → Int32) (d1 : Nat → Int32) (d2 : Nat → Int32) (d3 : Nat → Int32) (d4 : Nat → Int32) (d5 : Int32) (w : Nat) (m2 : Nat) (j i : Nat) (a : Unit) : (Unit) ⊕ (Bool) := lpE (fun i a => v4_2b q cc gc d0 d1 d2 d3 d4 d5 w m2 i) j i a
def v4 (q : QT) (cc gc : Nat) (d0 : Nat → Int32) (d1 : Nat → Int32) (d2 : Nat → Int32) (d3 : Nat → Int32) (d4 : Nat → Int32) (d5 : Int32) (w : Nat) (g : Nat) : Bool := Sum.elim (fun a2 => true) (fun r3 => r3) (v4_2 q cc gc (d0) (d1) (d2) (d3) (d4) (d5) w g w 0 ())
def v3_4b (q : QT) (cc gc : Nat) (d0 : Nat → Int32) (d1 : Nat → Int32) (d2 : Nat → Int32) (d3 : Nat → Int32) (d4 : Nat → Int32) (d5 : Int32) (w : Nat) (i : Nat) (x2 : Int32) : Int32 := cond (v4 q cc gc (d0) (d1) (d2) (d3) (d4) (d5) w i) (x2 ||| (shl (nI 1) (nI i))) x2
def v3_4 (q : QT) (cc gc : Nat) (d0 : Nat → Int32) (d1 : Nat → Int32) (d2 : Nat → Int32) (d3 : Nat → Int32) (d4 : Nat → Int32) (d5 : Int32) (w : Nat) (j i : Nat) (a : Int32) : Int32 := lp (fun i a => v3_4b q cc gc d0 d1 d2 d3 d4 d5 w i a) j i a
def v3 (q : QT) (cc gc : Nat) (d0 : Nat → Int32) (d1 : Nat → Int32) (d2 : Nat → Int32) (d3 : Nat → Int32) (d4 : Nat → Int32) (d5 : Int32) (w : Nat) : Int32 := (v3_4 q cc gc (d0) (d1) (d2) (d3) (d4) (d5) w gc 0 (nI 0))
def v149_4b (q : QT) (cc gc : Nat) (h : pm_H) (i : Nat) (x2 : Int32) : Int32 × pm_H := (x2 + ((v39 q cc gc h i (((Ar h 17) i).toNatClampNeg)).1), (v39 q cc gc h i (((Ar h 17) i).toNatClampNeg)).2)
def v149_4 (q : QT) (cc gc : Nat) (j i : Nat) (a : Int32 × pm_H) : Int32 × pm_H := lp (fun i a => v149_4b q cc gc a.2 i a.1) j i a
theorem v149_4_e {n fr lo sl cc gc : Nat} {q : QT} {h : pm_H} {R : pm_Rs} {i : Nat} {x2 : Int32} (hw : HC q cc gc h) (hol : NA h 17 0 8 6) (hi : gc ≤ i) (hI : i < 1000000) (hh : pm_run PT n fr lo 149 (4, [some (.ref 0), some (.ref q.1), some (.int x2), some (.int (nI i))], [], h, 198, sl) = some R) : ∃ m, pm_run PT m fr lo 149 (46, [some (.ref 0), some (.ref q.1), some (.int x2), some (.int (nI i))], [], h, 198, sl) = some R := by
  have hcc := hw.cb
  have hgc := hw.gb
  have hzr := hw.zr
  obtain ⟨n, hh⟩ := rn_i rfl rfl rfl rfl hh
  obtain ⟨n, hh⟩ := rn_i rfl rfl rfl rfl hh
  have hh : pm_run PT n fr lo 149 (6, [some (.ref 0), some (.ref q.1), some (.int x2), some (.int (nI i))], [.ref 0, .int (nI i)], h, 198, sl) = some R := hh
  obtain ⟨n, hh⟩ := rn_gr hw.wt rfl rfl (by decide) rfl (by decide) (show _ = some (2, ((5 : Nat) : Int), 1) from rfl) rfl hh
  have hh : pm_run PT n fr lo 149 (9, [some (.ref 0), some (.ref q.1), some (.int x2), some (.int (nI i))], [.ref 5, .int (nI i)], h, 198, sl) = some R := hh
  obtain ⟨n, hh⟩ := rn_gi (x := nI gc) hw.wt rfl rfl (by decide) rfl (by decide) rfl hw.x1 hh
  have hh : pm_run PT n fr lo 149 (12, [some (.ref 0), some (.ref q.1), some (.int x2), some (.int (nI i))], [.int (nI gc), .int (nI i)], h, 198, sl) = some R := hh
  obtain ⟨n, hh⟩ := en_cn (cc := .ge) (off := 34) (t := 46) (b := decide (gc ≤ i)) (hI_ge (by omega) (by omega)) rfl rfl hh
  have hh := en_t (show decide (gc ≤ i) = true from decide_eq_true (by omega)) hh
  have hh : pm_run PT n fr lo 149 (46, [some (.ref 0), some (.ref q.1), some (.int x2), some (.int (nI i))], [], h, 198, sl) = some R := hh
  exact ⟨n, hh⟩
theorem v149_4_s {n fr lo sl cc gc : Nat} {q : QT} {h : pm_H} {R : pm_Rs} {i : Nat} {x2 : Int32} (hw : HC q cc gc h) (hol : NA h 17 0 8 6) (hi : i < gc) (hI : i < 1000000) (hh : pm_run PT n fr lo 149 (4, [some (.ref 0), some (.ref q.1), some (.int x2), some (.int (nI i))], [], h, 198, sl) = some R) : ∃ m, HC q cc gc ((v149_4b q cc gc h i x2).2) ∧ frm [12, 142, 144, 145, 147] [(142, 3), (145, 3)] h ((v149_4b q cc gc h i x2).2) ∧ NA ((v149_4b q cc gc h i x2).2) 17 0 8 6 ∧ pm_run PT m fr lo 149 (4, [some (.ref 0), some (.ref q.1), some (.int ((v149_4b q cc gc h i x2).1)), some (.int (nI (i + 1)))], [], (v149_4b q cc gc h i x2).2, 198, sl) = some R := by
  have hcc := hw.cb
  have hgc := hw.gb
  have hzr := hw.zr
  obtain ⟨n, hh⟩ := rn_i rfl rfl rfl rfl hh
  obtain ⟨n, hh⟩ := rn_i rfl rfl rfl rfl hh
  have hh : pm_run PT n fr lo 149 (6, [some (.ref 0), some (.ref q.1), some (.int x2), some (.int (nI i))], [.ref 0, .int (nI i)], h, 198, sl) = some R := hh
  obtain ⟨n, hh⟩ := rn_gr hw.wt rfl rfl (by decide) rfl (by decide) (show _ = some (2, ((5 : Nat) : Int), 1) from rfl) rfl hh
  have hh : pm_run PT n fr lo 149 (9, [some (.ref 0), some (.ref q.1), some (.int x2), some (.int (nI i))], [.ref 5, .int (nI i)], h, 198, sl) = some R := hh
  obtain ⟨n, hh⟩ := rn_gi (x := nI gc) hw.wt rfl rfl (by decide) rfl (by decide) rfl hw.x1 hh
  have hh : pm_run PT n fr lo 149 (12, [some (.ref 0), some (.ref q.1), some (.int x2), some (.int (nI i))], [.int (nI gc), .int (nI i)], h, 198, sl) = some R := hh
  obtain ⟨n, hh⟩ := en_cn (cc := .ge) (off := 34) (t := 46) (b := decide (gc ≤ i)) (hI_ge (by omega) (by omega)) rfl rfl hh
  have hh := en_f (show decide (gc ≤ i) = false from decide_eq_false (by omega)) hh
  have hh : pm_run PT n fr lo 149 (15, [some (.ref 0), some (.ref q.1), some (.int x2), some (.int (nI i))], [], h, 198, sl) = some R := hh
  obtain ⟨n, hh⟩ := rn_i rfl rfl rfl rfl hh
  obtain ⟨n, hh⟩ := rn_i rfl rfl rfl rfl hh
  have hh : pm_run PT n fr lo 149 (17, [some (.ref 0), some (.ref q.1), some (.int x2), some (.int (nI i))], [.ref 0, .int x2], h, 198, sl) = some R := hh
  obtain ⟨n, hh⟩ := rn_gr hw.wt rfl rfl (by decide) rfl (by decide) (show _ = some (2, ((5 : Nat) : Int), 1) from rfl) rfl hh
  obtain ⟨n, hh⟩ := rn_i rfl rfl rfl rfl hh
  obtain ⟨n, hh⟩ := rn_i rfl rfl rfl rfl hh
  have hh : pm_run PT n fr lo 149 (22, [some (.ref 0), some (.ref q.1), some (.int x2), some (.int (nI i))], [.ref 0, .ref q.1, .ref 5, .int x2], h, 198, sl) = some R := hh
  obtain ⟨n, hh⟩ := rn_gr hw.wt rfl rfl (by decide) rfl (by decide) (show _ = some (2, ((13 : Nat) : Int), 1) from rfl) rfl hh
  obtain ⟨n, hh⟩ := rn_i rfl rfl rfl rfl hh
  obtain ⟨n, hh⟩ := rn_i rfl rfl rfl rfl hh
  have hh : pm_run PT n fr lo 149 (27, [some (.ref 0), some (.ref q.1), some (.int x2), some (.int (nI i))], [.ref 0, .int (nI i), .ref 13, .ref q.1, .ref 5, .int x2], h, 198, sl) = some R := hh
  obtain ⟨n, hh⟩ := rn_gr hw.wt rfl rfl (by decide) rfl (by decide) (show _ = some (2, ((13 : Nat) : Int), 1) from rfl) rfl hh
  have hh : pm_run PT n fr lo 149 (30, [some (.ref 0), some (.ref q.1), some (.int x2), some (.int (nI i))], [.ref 13, .int (nI i), .ref 13, .ref q.1, .ref 5, .int x2], h, 198, sl) = some R := hh
  obtain ⟨n, hh⟩ := rn_gr hw.wt rfl rfl (by decide) rfl (by decide) (show _ = some (2, ((17 : Nat) : Int), 1) from rfl) rfl hh
  obtain ⟨n, hh⟩ := rn_i rfl rfl rfl rfl hh
  have hh : pm_run PT n fr lo 149 (34, [some (.ref 0), some (.ref q.1), some (.int x2), some (.int (nI i))], [.int (nI i), .ref 17, .int (nI i), .ref 13, .ref q.1, .ref 5, .int x2], h, 198, sl) = some R := hh
  obtain ⟨n, hx1, hh⟩ := en_lu (t := i) (f := Ar h 17) (w := nI (((Ar h 17) i).toNatClampNeg)) (nI_clamp (by omega)) hw.wt rfl (by decide) rfl (by decide) rfl (fun z => (hol _ (by omega) (by omega)).1) hh
  have hb2 := (hol i (by omega) (by omega)).2
  have hh : pm_run PT n fr lo 149 (35, [some (.ref 0), some (.ref q.1), some (.int x2), some (.int (nI i))], [.int (nI (((Ar h 17) i).toNatClampNeg)), .int (nI i), .ref 13, .ref q.1, .ref 5, .int x2], h, 198, sl) = some R := hh
  obtain ⟨n, fr1, lo1, r1, hh1, hh⟩ := rn_call (w := 0) (t := 39) rfl rfl hh
  obtain ⟨er3, hc4, hf5⟩ := v39_ok (g := i) (c := (((Ar h 17) i).toNatClampNeg)) hw (by omega) (by omega) hh1
  subst er3
  obtain ⟨n, hh⟩ := rn_i rfl rfl rfl rfl hh
  obtain ⟨n, hh⟩ := rn_i rfl rfl rfl rfl hh
  have hh : pm_run PT n fr lo 149 (40, [some (.ref 0), some (.ref q.1), some (.int (x2 + ((v39 q cc gc h i (((Ar h 17) i).toNatClampNeg)).1))), some (.int (nI i))], [], (v39 q cc gc h i (((Ar h 17) i).toNatClampNeg)).2, 198, sl) = some R := hh
  obtain ⟨n, hh⟩ := en_inc (x := i) (c := 1) (j := 3) rfl rfl (by decide) hh
  have hh : pm_run PT n fr lo 149 (43, [some (.ref 0), some (.ref q.1), some (.int (x2 + ((v39 q cc gc h i (((Ar h 17) i).toNatClampNeg)).1))), some (.int (nI (i + 1)))], [], (v39 q cc gc h i (((Ar h 17) i).toNatClampNeg)).2, 198, sl) = some R := hh
  obtain ⟨n, hh⟩ := rn_i rfl rfl rfl rfl hh
  have ed : v149_4b q cc gc h i x2 = (x2 + ((v39 q cc gc h i (((Ar h 17) i).toNatClampNeg)).1), (v39 q cc gc h i (((Ar h 17) i).toNatClampNeg)).2) := rfl
  rw [ed]
  exact ⟨n, hc4, (fr_g rfl rfl hf5 fr_0), (NA_e ((Ar_e (hf5.1 17 rfl)).trans rfl) hol), hh⟩
theorem v149_4_ok {fr lo sl cc gc : Nat} {q : QT} {R : pm_Rs} : ∀ {j i : Nat} {x2 : Int32} {h : pm_H} {n : Nat}, gc - i = j → i + j < 1000000 → HC q cc gc h → NA h 17 0 8 6 → pm_run PT n fr lo 149 (4, [some (.ref 0), some (.ref q.1), some (.int x2), some (.int (nI i))], [], h, 198, sl) = some R → ∃ m wc, HC q cc gc ((v149_4 q cc gc j i (x2, h)).2) ∧ frm [12, 142, 144, 145, 147] [(142, 3), (145, 3)] h ((v149_4 q cc gc j i (x2, h)).2) ∧ NA ((v149_4 q cc gc j i (x2, h)).2) 17 0 8 6 ∧ pm_run PT m fr lo 149 (46, [some (.ref 0), some (.ref q.1), some (.int ((v149_4 q cc gc j i (x2, h)).1)), wc], [], (v149_4 q cc gc j i (x2, h)).2, 198, sl) = some R := by
  intro j
  induction j with
  | zero =>
    intro i x2 h n e eI hw hol hh
    obtain ⟨n, hh⟩ := v149_4_e hw hol (by omega) (by omega) hh
    exact ⟨n, _, hw, fr_0, hol, hh⟩
  | succ j ih =>
    intro i x2 h n e eI hw hol hh
    obtain ⟨n, hc, hf, hol', hh⟩ := v149_4_s hw hol (by omega) (by omega) hh
    obtain ⟨n, wc, hc2, hf2, hol'', hh⟩ := ih (by omega) (by omega) hc hol' hh
    exact ⟨n, wc, hc2, fr_t hf2 hf, hol'', hh⟩
def v149 (q : QT) (cc gc : Nat) (h : pm_H) : Int32 × pm_H := ((v149_4 q cc gc gc 0 ((nI 0), h)).1, (v149_4 q cc gc gc 0 ((nI 0), h)).2)
theorem v149_ok {n fr lo sl cc gc : Nat} {q : QT} {h : pm_H} {R : pm_Rs} (hw : HC q cc gc h) (hol : NA h 17 0 8 6) (hh : pm_run PT n fr lo 149 (0, pm_l0 [.ref 0, .ref q.1] 4, [], h, 198, sl) = some R) : R = (some (.int ((v149 q cc gc h).1)), (v149 q cc gc h).2, 198, sl) ∧ HC q cc gc ((v149 q cc gc h).2) ∧ frm [12, 142, 144, 145, 147] [(142, 3), (145, 3)] h ((v149 q cc gc h).2) := by
  have hcc := hw.cb
  have hgc := hw.gb
  have hzr := hw.zr
  obtain ⟨n, hh⟩ := rn_i rfl rfl rfl rfl hh
  obtain ⟨n, hh⟩ := rn_i rfl rfl rfl rfl hh
  obtain ⟨n, hh⟩ := rn_i rfl rfl rfl rfl hh
  obtain ⟨n, hh⟩ := rn_i rfl rfl rfl rfl hh
  have hh : pm_run PT n fr lo 149 (4, [some (.ref 0), some (.ref q.1), some (.int (nI 0)), some (.int (nI 0))], [], h, 198, sl) = some R := hh
  obtain ⟨n, u1, hc3, hf4, hn2, hh⟩ := v149_4_ok  (i := 0) (x2 := (nI 0)) (j := gc) (by omega) (by omega) hw hol hh
  have hh : pm_run PT n fr lo 149 (46, [some (.ref 0), some (.ref q.1), some (.int ((v149_4 q cc gc gc 0 ((nI 0), h)).1)), u1], [], (v149_4 q cc gc gc 0 ((nI 0), h)).2, 198, sl) = some R := hh
  obtain ⟨n, hh⟩ := rn_i rfl rfl rfl rfl hh
  have hh : pm_run PT n fr lo 149 (47, [some (.ref 0), some (.ref q.1), some (.int ((v149_4 q cc gc gc 0 ((nI 0), h)).1)), u1], [.int ((v149_4 q cc gc gc 0 ((nI 0), h)).1)], (v149_4 q cc gc gc 0 ((nI 0), h)).2, 198, sl) = some R := hh
  have er5 : R = (some (.int ((v149_4 q cc gc gc 0 ((nI 0), h)).1)), (v149_4 q cc gc gc 0 ((nI 0), h)).2, 198, sl) := (rn_ret rfl (Or.inl rfl) hh).2
  have ed : v149 q cc gc h = ((v149_4 q cc gc gc 0 ((nI 0), h)).1, (v149_4 q cc gc gc 0 ((nI 0), h)).2) := rfl
  refine ⟨?_, ?_, ?_⟩ <;> rw [ed]
  · exact er5
  · exact hc3
  · exact (fr_g rfl rfl hf4 fr_0)
def v155 (q : QT) (cc gc : Nat) (r : Int32) : Int32 := (r * (nI 1103515245)) + (nI 12345)
theorem v155_ok {n fr lo sl cc gc : Nat} {q : QT} {h : pm_H} {R : pm_Rs} {r : Int32} (hw : HC q cc gc h) (hh : pm_run PT n fr lo 155 (0, pm_l0 [.int r] 1, [], h, 198, sl) = some R) : R = (some (.int (v155 q cc gc r)), h, 198, sl) := by
  have hcc := hw.cb
  have hgc := hw.gb
  have hzr := hw.zr
  obtain ⟨n, hh⟩ := rn_i rfl rfl rfl rfl hh
  obtain ⟨n, hh⟩ := rn_i rfl rfl rfl rfl hh
  obtain ⟨n, hh⟩ := rn_i rfl rfl rfl rfl hh
  obtain ⟨n, hh⟩ := rn_i rfl rfl rfl rfl hh
  obtain ⟨n, hh⟩ := rn_i rfl rfl rfl rfl hh
  have hh : pm_run PT n fr lo 155 (9, [some (.int r)], [.int ((r * (nI 1103515245)) + (nI 12345))], h, 198, sl) = some R := hh
  have er1 : R = (some (.int ((r * (nI 1103515245)) + (nI 12345))), h, 198, sl) := (rn_ret rfl (Or.inl rfl) hh).2
  have ed : v155 q cc gc r = (r * (nI 1103515245)) + (nI 12345) := rfl
  rw [ed]
  exact er1
def v156 (q : QT) (cc gc : Nat) (r : Int32) (m : Nat) : Int32 := cond (decide (m ≤ 0)) (nI 0) (irm (ushr r (nI 16)) (nI m))
theorem v156_ok {n fr lo sl cc gc : Nat} {q : QT} {h : pm_H} {R : pm_Rs} {r : Int32} {m : Nat} (hw : HC q cc gc h) (h_m : m < 10000) (hh : pm_run PT n fr lo 156 (0, pm_l0 [.int r, .int (nI m)] 2, [], h, 198, sl) = some R) : R = (some (.int (v156 q cc gc r m)), h, 198, sl) := by
  have hcc := hw.cb
  have hgc := hw.gb
  have hzr := hw.zr
  obtain ⟨n, hh⟩ := rn_i rfl rfl rfl rfl hh
  have hh : pm_run PT n fr lo 156 (1, [some (.int r), some (.int (nI m))], [.int (nI m)], h, 198, sl) = some R := hh
  obtain ⟨n, hh⟩ := en_zn (cc := .le) (off := 12) (t := 13) (b := decide (m ≤ 0)) (hI_le (b := 0) (by omega) (by omega)) rfl rfl hh
  have hj3 : ∃ mJ, pm_run PT mJ fr lo 156 (cond (decide (m ≤ 0)) (14, [some (.int r), some (.int (nI m))], [.int (nI 0)], h, 198, sl) (14, [some (.int r), some (.int (nI m))], [.int (irm (ushr r (nI 16)) (nI m))], h, 198, sl)) = some R := en_J (fun z1 => by
      have hh := en_t z1 hh
      have hh : pm_run PT n fr lo 156 (13, [some (.int r), some (.int (nI m))], [], h, 198, sl) = some R := hh
      have y_z1 := of_decide_eq_true z1
      obtain ⟨n, hh⟩ := rn_i rfl rfl rfl rfl hh
      exact ⟨n, hh⟩) (fun z1 => by
      have hh := en_f z1 hh
      have hh : pm_run PT n fr lo 156 (4, [some (.int r), some (.int (nI m))], [], h, 198, sl) = some R := hh
      have y_z1 := of_decide_eq_false z1
      obtain ⟨n, hh⟩ := rn_i rfl rfl rfl rfl hh
      obtain ⟨n, hh⟩ := rn_i rfl rfl rfl rfl hh
      obtain ⟨n, hh⟩ := rn_i rfl rfl rfl rfl hh
      obtain ⟨n, hh⟩ := rn_i rfl rfl rfl rfl hh
      have hh : pm_run PT n fr lo 156 (9, [some (.int r), some (.int (nI m))], [.int (nI m), .int (ushr r (nI 16))], h, 198, sl) = some R := hh
      obtain ⟨n, hz2, hh⟩ := rn_rm rfl hh
      obtain ⟨n, hh⟩ := rn_i rfl rfl rfl rfl hh
      exact ⟨n, hh⟩)
  obtain ⟨n, hh⟩ := hj3
  rw [show (cond (decide (m ≤ 0)) (14, [some (.int r), some (.int (nI m))], [.int (nI 0)], h, 198, sl) (14, [some (.int r), some (.int (nI m))], [.int (irm (ushr r (nI 16)) (nI m))], h, 198, sl) : pm_St) = (14, [some (.int r), some (.int (nI m))], [.int (cond (decide (m ≤ 0)) (nI 0) (irm (ushr r (nI 16)) (nI m)))], h, 198, sl) from by cases (decide (m ≤ 0)) <;> rfl] at hh
  have hh : pm_run PT n fr lo 156 (14, [some (.int r), some (.int (nI m))], [.int (cond (decide (m ≤ 0)) (nI 0) (irm (ushr r (nI 16)) (nI m)))], h, 198, sl) = some R := hh
  have er4 : R = (some (.int (cond (decide (m ≤ 0)) (nI 0) (irm (ushr r (nI 16)) (nI m)))), h, 198, sl) := (rn_ret rfl (Or.inl rfl) hh).2
  have ed : v156 q cc gc r m = cond (decide (m ≤ 0)) (nI 0) (irm (ushr r (nI 16)) (nI m)) := rfl
  rw [ed]
  exact er4
end EF
