/-! runs told exactly, written by ext.py -/
section EH
theorem p2s {α β : Type} {a : α} {b : β} : (a, b).2 = b := Eq.trans (Eq.refl b) rfl
theorem p1s {α β : Type} {a : α} {b : β} : (a, b).1 = a := Eq.trans (Eq.refl a) rfl
theorem lp_s {α : Type} {f : Nat → α → α} {j i : Nat} {a : α} : lp f (j + 1) i a = lp f j (i + 1) (f i a) := rfl
def v124_32b (q : QT) (cc gc : Nat) (h : pm_H) (t1 : Int32) (m2 : Nat) (i : Nat) (x3 : Int32) (x4 : Int32) : Int32 × Int32 × pm_H := cond (decide (¬ (dN (v156 q cc gc (v155 q cc gc x3) 3)) = 0)) (cond (decide (gc ≤ 0)) (v155 q cc gc x3, x4, h) (v155 q cc gc (v155 q cc gc (v155 q cc gc x3)), x4 + (cond (cond ((v145 q cc gc h (dN (v156 q cc gc (v155 q cc gc (v155 q cc gc x3)) gc)) (dN (v156 q cc gc (v155 q cc gc (v155 q cc gc (v155 q cc gc x3))) cc))).1) true false) 1 0), (v145 q cc gc h (dN (v156 q cc gc (v155 q cc gc (v155 q cc gc x3)) gc)) (dN (v156 q cc gc (v155 q cc gc (v155 q cc gc (v155 q cc gc x3))) cc))).2)) (v155 q cc gc x3, x4, v42t q cc gc h)
def v124_32 (q : QT) (cc gc : Nat) (t1 : Int32) (m2 : Nat) (j i : Nat) (a : Int32 × Int32 × pm_H) : Int32 × Int32 × pm_H := lp (fun i a => v124_32b q cc gc a.2.2 t1 m2 i a.1 a.2.1) j i a
theorem v124_32_e {n fr lo sl cc gc : Nat} {q : QT} {h : pm_H} {R : pm_Rs} {t1 : Int32} {m2 : Nat} {i : Nat} {x3 : Int32} {x4 : Int32} {o6 : Option Value} {o7 : Option Value} (hw : HC q cc gc h) (h_m2 : m2 < 10000) (hol : NA h 23 0 8 6) (hi : m2 ≤ i) (hI : i < 1000000) (hh : pm_run PT n fr lo 124 (32, [some (.ref 0), some (.int t1), some (.int (nI m2)), some (.int x3), some (.int x4), some (.int (nI i)), o6, o7], [], h, 198, sl) = some R) : ∃ m, pm_run PT m fr lo 124 (138, [some (.ref 0), some (.int t1), some (.int (nI m2)), some (.int x3), some (.int x4), some (.int (nI i)), o6, o7], [], h, 198, sl) = some R := by
  have hcc := hw.cb
  have hgc := hw.gb
  have hzr := hw.zr
  obtain ⟨n, hh⟩ := rn_i rfl rfl rfl rfl hh
  obtain ⟨n, hh⟩ := rn_i rfl rfl rfl rfl hh
  have hh : pm_run PT n fr lo 124 (35, [some (.ref 0), some (.int t1), some (.int (nI m2)), some (.int x3), some (.int x4), some (.int (nI i)), o6, o7], [.int (nI m2), .int (nI i)], h, 198, sl) = some R := hh
  obtain ⟨n, hh⟩ := en_cn (cc := .ge) (off := 103) (t := 138) (b := decide (m2 ≤ i)) (hI_ge (by omega) (by omega)) rfl rfl hh
  have hh := en_t (show decide (m2 ≤ i) = true from decide_eq_true (by omega)) hh
  have hh : pm_run PT n fr lo 124 (138, [some (.ref 0), some (.int t1), some (.int (nI m2)), some (.int x3), some (.int x4), some (.int (nI i)), o6, o7], [], h, 198, sl) = some R := hh
  exact ⟨n, hh⟩
theorem v124_32_s {n fr lo sl cc gc : Nat} {q : QT} {h : pm_H} {R : pm_Rs} {t1 : Int32} {m2 : Nat} {i : Nat} {x3 : Int32} {x4 : Int32} {o6 : Option Value} {o7 : Option Value} (hw : HC q cc gc h) (h_m2 : m2 < 10000) (hol : NA h 23 0 8 6) (hi : i < m2) (hI : i < 1000000) (hh : pm_run PT n fr lo 124 (32, [some (.ref 0), some (.int t1), some (.int (nI m2)), some (.int x3), some (.int x4), some (.int (nI i)), o6, o7], [], h, 198, sl) = some R) : ∃ m w6 w7, HC q cc gc ((v124_32b q cc gc h t1 m2 i x3 x4).2.2) ∧ frm [12, 19, 20, 21, 22, 23, 24, 142, 144, 145, 147] [(19, 5), (19, 6), (142, 3), (145, 3)] h ((v124_32b q cc gc h t1 m2 i x3 x4).2.2) ∧ NA ((v124_32b q cc gc h t1 m2 i x3 x4).2.2) 23 0 8 6 ∧ pm_run PT m fr lo 124 (32, [some (.ref 0), some (.int t1), some (.int (nI m2)), some (.int ((v124_32b q cc gc h t1 m2 i x3 x4).1)), some (.int ((v124_32b q cc gc h t1 m2 i x3 x4).2.1)), some (.int (nI (i + 1))), w6, w7], [], (v124_32b q cc gc h t1 m2 i x3 x4).2.2, 198, sl) = some R := by
  have hcc := hw.cb
  have hgc := hw.gb
  have hzr := hw.zr
  obtain ⟨n, hh⟩ := rn_i rfl rfl rfl rfl hh
  obtain ⟨n, hh⟩ := rn_i rfl rfl rfl rfl hh
  have hh : pm_run PT n fr lo 124 (35, [some (.ref 0), some (.int t1), some (.int (nI m2)), some (.int x3), some (.int x4), some (.int (nI i)), o6, o7], [.int (nI m2), .int (nI i)], h, 198, sl) = some R := hh
  obtain ⟨n, hh⟩ := en_cn (cc := .ge) (off := 103) (t := 138) (b := decide (m2 ≤ i)) (hI_ge (by omega) (by omega)) rfl rfl hh
  have hh := en_f (show decide (m2 ≤ i) = false from decide_eq_false (by omega)) hh
  have hh : pm_run PT n fr lo 124 (38, [some (.ref 0), some (.int t1), some (.int (nI m2)), some (.int x3), some (.int x4), some (.int (nI i)), o6, o7], [], h, 198, sl) = some R := hh
  obtain ⟨n, hh⟩ := rn_i rfl rfl rfl rfl hh
  have hh : pm_run PT n fr lo 124 (39, [some (.ref 0), some (.int t1), some (.int (nI m2)), some (.int x3), some (.int x4), some (.int (nI i)), o6, o7], [.int x3], h, 198, sl) = some R := hh
  obtain ⟨n, fr1, lo1, r1, hh1, hh⟩ := rn_call (w := 2) (t := 155) rfl rfl hh
  have er9 := v155_ok (r := x3) hw hh1
  subst er9
  obtain ⟨n, hh⟩ := rn_i rfl rfl rfl rfl hh
  obtain ⟨n, hh⟩ := rn_i rfl rfl rfl rfl hh
  obtain ⟨n, hh⟩ := rn_i rfl rfl rfl rfl hh
  have hh : pm_run PT n fr lo 124 (45, [some (.ref 0), some (.int t1), some (.int (nI m2)), some (.int (v155 q cc gc x3)), some (.int x4), some (.int (nI i)), o6, o7], [.int (nI 3), .int (v155 q cc gc x3)], h, 198, sl) = some R := hh
  obtain ⟨n, fr1, lo1, r1, hh1, hh⟩ := rn_call (w := 2) (t := 156) rfl rfl hh
  have er10 := v156_ok (r := v155 q cc gc x3) (m := 3) hw (by omega) hh1
  subst er10
  have hh : pm_run PT n fr lo 124 (48, [some (.ref 0), some (.int t1), some (.int (nI m2)), some (.int (v155 q cc gc x3)), some (.int x4), some (.int (nI i)), o6, o7], [.int (v156 q cc gc (v155 q cc gc x3) 3)], h, 198, sl) = some R := hh
  have hd11 : v156 q cc gc (v155 q cc gc x3) 3 = nI (dN (v156 q cc gc (v155 q cc gc x3) 3)) ∧ dN (v156 q cc gc (v155 q cc gc x3) 3) ≤ 3 - 1 := en_d156 (by omega)
  rw [hd11.1] at hh
  have hb12 := hd11.2
  have hh : pm_run PT n fr lo 124 (48, [some (.ref 0), some (.int t1), some (.int (nI m2)), some (.int (v155 q cc gc x3)), some (.int x4), some (.int (nI i)), o6, o7], [.int (nI (dN (v156 q cc gc (v155 q cc gc x3) 3)))], h, 198, sl) = some R := hh
  obtain ⟨n, hh⟩ := en_zn (cc := .ne) (off := 17) (t := 65) (b := decide (¬ (dN (v156 q cc gc (v155 q cc gc x3) 3)) = 0)) (hI_ne (b := 0) (by omega) (by omega)) rfl rfl hh
  cases z13 : decide (¬ (dN (v156 q cc gc (v155 q cc gc x3) 3)) = 0) with
  | true =>
    have hh := en_t z13 hh
    have hh : pm_run PT n fr lo 124 (65, [some (.ref 0), some (.int t1), some (.int (nI m2)), some (.int (v155 q cc gc x3)), some (.int x4), some (.int (nI i)), o6, o7], [], h, 198, sl) = some R := hh
    have y14 := of_decide_eq_true z13
    obtain ⟨n, hh⟩ := rn_i rfl rfl rfl rfl hh
    have hh : pm_run PT n fr lo 124 (66, [some (.ref 0), some (.int t1), some (.int (nI m2)), some (.int (v155 q cc gc x3)), some (.int x4), some (.int (nI i)), o6, o7], [.ref 0], h, 198, sl) = some R := hh
    obtain ⟨n, hh⟩ := rn_gr hw.wt rfl rfl (by decide) rfl (by decide) (show _ = some (2, ((5 : Nat) : Int), 1) from rfl) rfl hh
    have hh : pm_run PT n fr lo 124 (69, [some (.ref 0), some (.int t1), some (.int (nI m2)), some (.int (v155 q cc gc x3)), some (.int x4), some (.int (nI i)), o6, o7], [.ref 5], h, 198, sl) = some R := hh
    obtain ⟨n, hh⟩ := rn_gi (x := nI gc) hw.wt rfl rfl (by decide) rfl (by decide) rfl hw.x1 hh
    have hh : pm_run PT n fr lo 124 (72, [some (.ref 0), some (.int t1), some (.int (nI m2)), some (.int (v155 q cc gc x3)), some (.int x4), some (.int (nI i)), o6, o7], [.int (nI gc)], h, 198, sl) = some R := hh
    obtain ⟨n, hh⟩ := en_zn (cc := .le) (off := 60) (t := 132) (b := decide (gc ≤ 0)) (hI_le (b := 0) (by omega) (by omega)) rfl rfl hh
    cases z15 : decide (gc ≤ 0) with
    | true =>
      have hh := en_t z15 hh
      have hh : pm_run PT n fr lo 124 (132, [some (.ref 0), some (.int t1), some (.int (nI m2)), some (.int (v155 q cc gc x3)), some (.int x4), some (.int (nI i)), o6, o7], [], h, 198, sl) = some R := hh
      have y16 := of_decide_eq_true z15
      have hh : pm_run PT n fr lo 124 (132, [some (.ref 0), some (.int t1), some (.int (nI m2)), some (.int (v155 q cc gc x3)), some (.int x4), some (.int (nI i)), o6, o7], [], h, 198, sl) = some R := hh
      obtain ⟨n, hh⟩ := en_inc (x := i) (c := 1) (j := 5) rfl rfl (by decide) hh
      have hh : pm_run PT n fr lo 124 (135, [some (.ref 0), some (.int t1), some (.int (nI m2)), some (.int (v155 q cc gc x3)), some (.int x4), some (.int (nI (i + 1))), o6, o7], [], h, 198, sl) = some R := hh
      obtain ⟨n, hh⟩ := rn_i rfl rfl rfl rfl hh
      have ed : v124_32b q cc gc h t1 m2 i x3 x4 = (v155 q cc gc x3, x4, h) := (ct z13).trans ((ct z15).trans rfl)
      rw [ed]
      rw [p2s, p2s, p1s, p1s]
      exact ⟨n, o6, o7, hw, fr_0, hol, hh⟩
    | false =>
      have hh := en_f z15 hh
      have hh : pm_run PT n fr lo 124 (75, [some (.ref 0), some (.int t1), some (.int (nI m2)), some (.int (v155 q cc gc x3)), some (.int x4), some (.int (nI i)), o6, o7], [], h, 198, sl) = some R := hh
      have y17 := of_decide_eq_false z15
      obtain ⟨n, hh⟩ := rn_i rfl rfl rfl rfl hh
      have hh : pm_run PT n fr lo 124 (76, [some (.ref 0), some (.int t1), some (.int (nI m2)), some (.int (v155 q cc gc x3)), some (.int x4), some (.int (nI i)), o6, o7], [.int (v155 q cc gc x3)], h, 198, sl) = some R := hh
      obtain ⟨n, fr1, lo1, r1, hh1, hh⟩ := rn_call (w := 2) (t := 155) rfl rfl hh
      have er18 := v155_ok (r := (v155 q cc gc x3)) hw hh1
      subst er18
      obtain ⟨n, hh⟩ := rn_i rfl rfl rfl rfl hh
      obtain ⟨n, hh⟩ := rn_i rfl rfl rfl rfl hh
      obtain ⟨n, hh⟩ := rn_i rfl rfl rfl rfl hh
      have hh : pm_run PT n fr lo 124 (82, [some (.ref 0), some (.int t1), some (.int (nI m2)), some (.int (v155 q cc gc (v155 q cc gc x3))), some (.int x4), some (.int (nI i)), o6, o7], [.ref 0, .int (v155 q cc gc (v155 q cc gc x3))], h, 198, sl) = some R := hh
      obtain ⟨n, hh⟩ := rn_gr hw.wt rfl rfl (by decide) rfl (by decide) (show _ = some (2, ((5 : Nat) : Int), 1) from rfl) rfl hh
      have hh : pm_run PT n fr lo 124 (85, [some (.ref 0), some (.int t1), some (.int (nI m2)), some (.int (v155 q cc gc (v155 q cc gc x3))), some (.int x4), some (.int (nI i)), o6, o7], [.ref 5, .int (v155 q cc gc (v155 q cc gc x3))], h, 198, sl) = some R := hh
      obtain ⟨n, hh⟩ := rn_gi (x := nI gc) hw.wt rfl rfl (by decide) rfl (by decide) rfl hw.x1 hh
      have hh : pm_run PT n fr lo 124 (88, [some (.ref 0), some (.int t1), some (.int (nI m2)), some (.int (v155 q cc gc (v155 q cc gc x3))), some (.int x4), some (.int (nI i)), o6, o7], [.int (nI gc), .int (v155 q cc gc (v155 q cc gc x3))], h, 198, sl) = some R := hh
      obtain ⟨n, fr1, lo1, r1, hh1, hh⟩ := rn_call (w := 2) (t := 156) rfl rfl hh
      have er19 := v156_ok (r := v155 q cc gc (v155 q cc gc x3)) (m := gc) hw (by omega) hh1
      subst er19
      have hh : pm_run PT n fr lo 124 (91, [some (.ref 0), some (.int t1), some (.int (nI m2)), some (.int (v155 q cc gc (v155 q cc gc x3))), some (.int x4), some (.int (nI i)), o6, o7], [.int (v156 q cc gc (v155 q cc gc (v155 q cc gc x3)) gc)], h, 198, sl) = some R := hh
      have hd20 : v156 q cc gc (v155 q cc gc (v155 q cc gc x3)) gc = nI (dN (v156 q cc gc (v155 q cc gc (v155 q cc gc x3)) gc)) ∧ dN (v156 q cc gc (v155 q cc gc (v155 q cc gc x3)) gc) ≤ gc - 1 := en_d156 (by omega)
      rw [hd20.1] at hh
      have hb21 := hd20.2
      obtain ⟨n, hh⟩ := rn_i rfl rfl rfl rfl hh
      obtain ⟨n, hh⟩ := rn_i rfl rfl rfl rfl hh
      have hh : pm_run PT n fr lo 124 (94, [some (.ref 0), some (.int t1), some (.int (nI m2)), some (.int (v155 q cc gc (v155 q cc gc x3))), some (.int x4), some (.int (nI i)), some (.int (nI (dN (v156 q cc gc (v155 q cc gc (v155 q cc gc x3)) gc)))), o7], [.int (v155 q cc gc (v155 q cc gc x3))], h, 198, sl) = some R := hh
      obtain ⟨n, fr1, lo1, r1, hh1, hh⟩ := rn_call (w := 2) (t := 155) rfl rfl hh
      have er22 := v155_ok (r := (v155 q cc gc (v155 q cc gc x3))) hw hh1
      subst er22
      obtain ⟨n, hh⟩ := rn_i rfl rfl rfl rfl hh
      obtain ⟨n, hh⟩ := rn_i rfl rfl rfl rfl hh
      obtain ⟨n, hh⟩ := rn_i rfl rfl rfl rfl hh
      have hh : pm_run PT n fr lo 124 (100, [some (.ref 0), some (.int t1), some (.int (nI m2)), some (.int (v155 q cc gc (v155 q cc gc (v155 q cc gc x3)))), some (.int x4), some (.int (nI i)), some (.int (nI (dN (v156 q cc gc (v155 q cc gc (v155 q cc gc x3)) gc)))), o7], [.ref 0, .int (v155 q cc gc (v155 q cc gc (v155 q cc gc x3)))], h, 198, sl) = some R := hh
      obtain ⟨n, hh⟩ := rn_gr hw.wt rfl rfl (by decide) rfl (by decide) (show _ = some (2, ((5 : Nat) : Int), 1) from rfl) rfl hh
      have hh : pm_run PT n fr lo 124 (103, [some (.ref 0), some (.int t1), some (.int (nI m2)), some (.int (v155 q cc gc (v155 q cc gc (v155 q cc gc x3)))), some (.int x4), some (.int (nI i)), some (.int (nI (dN (v156 q cc gc (v155 q cc gc (v155 q cc gc x3)) gc)))), o7], [.ref 5, .int (v155 q cc gc (v155 q cc gc (v155 q cc gc x3)))], h, 198, sl) = some R := hh
      obtain ⟨n, hh⟩ := rn_gi (x := nI cc) hw.wt rfl rfl (by decide) rfl (by decide) rfl hw.x0 hh
      have hh : pm_run PT n fr lo 124 (106, [some (.ref 0), some (.int t1), some (.int (nI m2)), some (.int (v155 q cc gc (v155 q cc gc (v155 q cc gc x3)))), some (.int x4), some (.int (nI i)), some (.int (nI (dN (v156 q cc gc (v155 q cc gc (v155 q cc gc x3)) gc)))), o7], [.int (nI cc), .int (v155 q cc gc (v155 q cc gc (v155 q cc gc x3)))], h, 198, sl) = some R := hh
      obtain ⟨n, fr1, lo1, r1, hh1, hh⟩ := rn_call (w := 2) (t := 156) rfl rfl hh
      have er23 := v156_ok (r := v155 q cc gc (v155 q cc gc (v155 q cc gc x3))) (m := cc) hw (by omega) hh1
      subst er23
      have hh : pm_run PT n fr lo 124 (109, [some (.ref 0), some (.int t1), some (.int (nI m2)), some (.int (v155 q cc gc (v155 q cc gc (v155 q cc gc x3)))), some (.int x4), some (.int (nI i)), some (.int (nI (dN (v156 q cc gc (v155 q cc gc (v155 q cc gc x3)) gc)))), o7], [.int (v156 q cc gc (v155 q cc gc (v155 q cc gc (v155 q cc gc x3))) cc)], h, 198, sl) = some R := hh
      have hd24 : v156 q cc gc (v155 q cc gc (v155 q cc gc (v155 q cc gc x3))) cc = nI (dN (v156 q cc gc (v155 q cc gc (v155 q cc gc (v155 q cc gc x3))) cc)) ∧ dN (v156 q cc gc (v155 q cc gc (v155 q cc gc (v155 q cc gc x3))) cc) ≤ cc - 1 := en_d156 (by omega)
      rw [hd24.1] at hh
      have hb25 := hd24.2
      obtain ⟨n, hh⟩ := rn_i rfl rfl rfl rfl hh
      obtain ⟨n, hh⟩ := rn_i rfl rfl rfl rfl hh
      obtain ⟨n, hh⟩ := rn_i rfl rfl rfl rfl hh
      obtain ⟨n, hh⟩ := rn_i rfl rfl rfl rfl hh
      obtain ⟨n, hh⟩ := rn_i rfl rfl rfl rfl hh
      have hh : pm_run PT n fr lo 124 (118, [some (.ref 0), some (.int t1), some (.int (nI m2)), some (.int (v155 q cc gc (v155 q cc gc (v155 q cc gc x3)))), some (.int x4), some (.int (nI i)), some (.int (nI (dN (v156 q cc gc (v155 q cc gc (v155 q cc gc x3)) gc)))), some (.int (nI (dN (v156 q cc gc (v155 q cc gc (v155 q cc gc (v155 q cc gc x3))) cc))))], [.int (nI (dN (v156 q cc gc (v155 q cc gc (v155 q cc gc (v155 q cc gc x3))) cc))), .int (nI (dN (v156 q cc gc (v155 q cc gc (v155 q cc gc x3)) gc))), .ref 0, .int x4], h, 198, sl) = some R := hh
      obtain ⟨n, fr1, lo1, r1, hh1, hh⟩ := rn_call (w := 0) (t := 145) rfl rfl hh
      obtain ⟨er26, hc27, hf28⟩ := v145_ok (g := (dN (v156 q cc gc (v155 q cc gc (v155 q cc gc x3)) gc))) (c := (dN (v156 q cc gc (v155 q cc gc (v155 q cc gc (v155 q cc gc x3))) cc))) hw (by omega) (by omega) hol hh1
      subst er26
      have hh : pm_run PT n fr lo 124 (121, [some (.ref 0), some (.int t1), some (.int (nI m2)), some (.int (v155 q cc gc (v155 q cc gc (v155 q cc gc x3)))), some (.int x4), some (.int (nI i)), some (.int (nI (dN (v156 q cc gc (v155 q cc gc (v155 q cc gc x3)) gc)))), some (.int (nI (dN (v156 q cc gc (v155 q cc gc (v155 q cc gc (v155 q cc gc x3))) cc))))], [.int (cond ((v145 q cc gc h (dN (v156 q cc gc (v155 q cc gc (v155 q cc gc x3)) gc)) (dN (v156 q cc gc (v155 q cc gc (v155 q cc gc (v155 q cc gc x3))) cc))).1) 1 0), .int x4], (v145 q cc gc h (dN (v156 q cc gc (v155 q cc gc (v155 q cc gc x3)) gc)) (dN (v156 q cc gc (v155 q cc gc (v155 q cc gc (v155 q cc gc x3))) cc))).2, 198, sl) = some R := hh
      obtain ⟨n, hh⟩ := en_zn (cc := .eq) (off := 7) (t := 128) (b := !((v145 q cc gc h (dN (v156 q cc gc (v155 q cc gc (v155 q cc gc x3)) gc)) (dN (v156 q cc gc (v155 q cc gc (v155 q cc gc (v155 q cc gc x3))) cc))).1)) eb_eq rfl rfl hh
      have hj30 : ∃ mJ, pm_run PT mJ fr lo 124 (cond ((v145 q cc gc h (dN (v156 q cc gc (v155 q cc gc (v155 q cc gc x3)) gc)) (dN (v156 q cc gc (v155 q cc gc (v155 q cc gc (v155 q cc gc x3))) cc))).1) (129, [some (.ref 0), some (.int t1), some (.int (nI m2)), some (.int (v155 q cc gc (v155 q cc gc (v155 q cc gc x3)))), some (.int x4), some (.int (nI i)), some (.int (nI (dN (v156 q cc gc (v155 q cc gc (v155 q cc gc x3)) gc)))), some (.int (nI (dN (v156 q cc gc (v155 q cc gc (v155 q cc gc (v155 q cc gc x3))) cc))))], [.int (nI 1), .int x4], (v145 q cc gc h (dN (v156 q cc gc (v155 q cc gc (v155 q cc gc x3)) gc)) (dN (v156 q cc gc (v155 q cc gc (v155 q cc gc (v155 q cc gc x3))) cc))).2, 198, sl) (129, [some (.ref 0), some (.int t1), some (.int (nI m2)), some (.int (v155 q cc gc (v155 q cc gc (v155 q cc gc x3)))), some (.int x4), some (.int (nI i)), some (.int (nI (dN (v156 q cc gc (v155 q cc gc (v155 q cc gc x3)) gc)))), some (.int (nI (dN (v156 q cc gc (v155 q cc gc (v155 q cc gc (v155 q cc gc x3))) cc))))], [.int (nI 0), .int x4], (v145 q cc gc h (dN (v156 q cc gc (v155 q cc gc (v155 q cc gc x3)) gc)) (dN (v156 q cc gc (v155 q cc gc (v155 q cc gc (v155 q cc gc x3))) cc))).2, 198, sl)) = some R := en_J (fun z29 => by
          have hh := en_nt z29 hh
          have hh : pm_run PT n fr lo 124 (124, [some (.ref 0), some (.int t1), some (.int (nI m2)), some (.int (v155 q cc gc (v155 q cc gc (v155 q cc gc x3)))), some (.int x4), some (.int (nI i)), some (.int (nI (dN (v156 q cc gc (v155 q cc gc (v155 q cc gc x3)) gc)))), some (.int (nI (dN (v156 q cc gc (v155 q cc gc (v155 q cc gc (v155 q cc gc x3))) cc))))], [.int x4], (v145 q cc gc h (dN (v156 q cc gc (v155 q cc gc (v155 q cc gc x3)) gc)) (dN (v156 q cc gc (v155 q cc gc (v155 q cc gc (v155 q cc gc x3))) cc))).2, 198, sl) = some R := hh
          obtain ⟨n, hh⟩ := rn_i rfl rfl rfl rfl hh
          obtain ⟨n, hh⟩ := rn_i rfl rfl rfl rfl hh
          exact ⟨n, hh⟩) (fun z29 => by
          have hh := en_nf z29 hh
          have hh : pm_run PT n fr lo 124 (128, [some (.ref 0), some (.int t1), some (.int (nI m2)), some (.int (v155 q cc gc (v155 q cc gc (v155 q cc gc x3)))), some (.int x4), some (.int (nI i)), some (.int (nI (dN (v156 q cc gc (v155 q cc gc (v155 q cc gc x3)) gc)))), some (.int (nI (dN (v156 q cc gc (v155 q cc gc (v155 q cc gc (v155 q cc gc x3))) cc))))], [.int x4], (v145 q cc gc h (dN (v156 q cc gc (v155 q cc gc (v155 q cc gc x3)) gc)) (dN (v156 q cc gc (v155 q cc gc (v155 q cc gc (v155 q cc gc x3))) cc))).2, 198, sl) = some R := hh
          obtain ⟨n, hh⟩ := rn_i rfl rfl rfl rfl hh
          exact ⟨n, hh⟩)
      obtain ⟨n, hh⟩ := hj30
      rw [show (cond ((v145 q cc gc h (dN (v156 q cc gc (v155 q cc gc (v155 q cc gc x3)) gc)) (dN (v156 q cc gc (v155 q cc gc (v155 q cc gc (v155 q cc gc x3))) cc))).1) (129, [some (.ref 0), some (.int t1), some (.int (nI m2)), some (.int (v155 q cc gc (v155 q cc gc (v155 q cc gc x3)))), some (.int x4), some (.int (nI i)), some (.int (nI (dN (v156 q cc gc (v155 q cc gc (v155 q cc gc x3)) gc)))), some (.int (nI (dN (v156 q cc gc (v155 q cc gc (v155 q cc gc (v155 q cc gc x3))) cc))))], [.int (nI 1), .int x4], (v145 q cc gc h (dN (v156 q cc gc (v155 q cc gc (v155 q cc gc x3)) gc)) (dN (v156 q cc gc (v155 q cc gc (v155 q cc gc (v155 q cc gc x3))) cc))).2, 198, sl) (129, [some (.ref 0), some (.int t1), some (.int (nI m2)), some (.int (v155 q cc gc (v155 q cc gc (v155 q cc gc x3)))), some (.int x4), some (.int (nI i)), some (.int (nI (dN (v156 q cc gc (v155 q cc gc (v155 q cc gc x3)) gc)))), some (.int (nI (dN (v156 q cc gc (v155 q cc gc (v155 q cc gc (v155 q cc gc x3))) cc))))], [.int (nI 0), .int x4], (v145 q cc gc h (dN (v156 q cc gc (v155 q cc gc (v155 q cc gc x3)) gc)) (dN (v156 q cc gc (v155 q cc gc (v155 q cc gc (v155 q cc gc x3))) cc))).2, 198, sl) : pm_St) = (129, [some (.ref 0), some (.int t1), some (.int (nI m2)), some (.int (v155 q cc gc (v155 q cc gc (v155 q cc gc x3)))), some (.int x4), some (.int (nI i)), some (.int (nI (dN (v156 q cc gc (v155 q cc gc (v155 q cc gc x3)) gc)))), some (.int (nI (dN (v156 q cc gc (v155 q cc gc (v155 q cc gc (v155 q cc gc x3))) cc))))], [.int (cond (cond ((v145 q cc gc h (dN (v156 q cc gc (v155 q cc gc (v155 q cc gc x3)) gc)) (dN (v156 q cc gc (v155 q cc gc (v155 q cc gc (v155 q cc gc x3))) cc))).1) true false) 1 0), .int x4], (v145 q cc gc h (dN (v156 q cc gc (v155 q cc gc (v155 q cc gc x3)) gc)) (dN (v156 q cc gc (v155 q cc gc (v155 q cc gc (v155 q cc gc x3))) cc))).2, 198, sl) from by cases ((v145 q cc gc h (dN (v156 q cc gc (v155 q cc gc (v155 q cc gc x3)) gc)) (dN (v156 q cc gc (v155 q cc gc (v155 q cc gc (v155 q cc gc x3))) cc))).1) <;> rfl] at hh
      obtain ⟨n, hh⟩ := rn_i rfl rfl rfl rfl hh
      obtain ⟨n, hh⟩ := rn_i rfl rfl rfl rfl hh
      have hh : pm_run PT n fr lo 124 (132, [some (.ref 0), some (.int t1), some (.int (nI m2)), some (.int (v155 q cc gc (v155 q cc gc (v155 q cc gc x3)))), some (.int (x4 + (cond (cond ((v145 q cc gc h (dN (v156 q cc gc (v155 q cc gc (v155 q cc gc x3)) gc)) (dN (v156 q cc gc (v155 q cc gc (v155 q cc gc (v155 q cc gc x3))) cc))).1) true false) 1 0))), some (.int (nI i)), some (.int (nI (dN (v156 q cc gc (v155 q cc gc (v155 q cc gc x3)) gc)))), some (.int (nI (dN (v156 q cc gc (v155 q cc gc (v155 q cc gc (v155 q cc gc x3))) cc))))], [], (v145 q cc gc h (dN (v156 q cc gc (v155 q cc gc (v155 q cc gc x3)) gc)) (dN (v156 q cc gc (v155 q cc gc (v155 q cc gc (v155 q cc gc x3))) cc))).2, 198, sl) = some R := hh
      obtain ⟨n, hh⟩ := en_inc (x := i) (c := 1) (j := 5) rfl rfl (by decide) hh
      have hh : pm_run PT n fr lo 124 (135, [some (.ref 0), some (.int t1), some (.int (nI m2)), some (.int (v155 q cc gc (v155 q cc gc (v155 q cc gc x3)))), some (.int (x4 + (cond (cond ((v145 q cc gc h (dN (v156 q cc gc (v155 q cc gc (v155 q cc gc x3)) gc)) (dN (v156 q cc gc (v155 q cc gc (v155 q cc gc (v155 q cc gc x3))) cc))).1) true false) 1 0))), some (.int (nI (i + 1))), some (.int (nI (dN (v156 q cc gc (v155 q cc gc (v155 q cc gc x3)) gc)))), some (.int (nI (dN (v156 q cc gc (v155 q cc gc (v155 q cc gc (v155 q cc gc x3))) cc))))], [], (v145 q cc gc h (dN (v156 q cc gc (v155 q cc gc (v155 q cc gc x3)) gc)) (dN (v156 q cc gc (v155 q cc gc (v155 q cc gc (v155 q cc gc x3))) cc))).2, 198, sl) = some R := hh
      obtain ⟨n, hh⟩ := rn_i rfl rfl rfl rfl hh
      have ed : v124_32b q cc gc h t1 m2 i x3 x4 = (v155 q cc gc (v155 q cc gc (v155 q cc gc x3)), x4 + (cond (cond ((v145 q cc gc h (dN (v156 q cc gc (v155 q cc gc (v155 q cc gc x3)) gc)) (dN (v156 q cc gc (v155 q cc gc (v155 q cc gc (v155 q cc gc x3))) cc))).1) true false) 1 0), (v145 q cc gc h (dN (v156 q cc gc (v155 q cc gc (v155 q cc gc x3)) gc)) (dN (v156 q cc gc (v155 q cc gc (v155 q cc gc (v155 q cc gc x3))) cc))).2) := (ct z13).trans ((cf z15).trans rfl)
      rw [ed]
      rw [p2s, p2s, p1s, p1s]
      exact ⟨n, some (.int (nI (dN (v156 q cc gc (v155 q cc gc (v155 q cc gc x3)) gc)))), some (.int (nI (dN (v156 q cc gc (v155 q cc gc (v155 q cc gc (v155 q cc gc x3))) cc)))), hc27, (fr_g rfl rfl hf28 fr_0), (v145_na hw (by omega) hol), hh⟩
  | false =>
    have hh := en_f z13 hh
    have hh : pm_run PT n fr lo 124 (51, [some (.ref 0), some (.int t1), some (.int (nI m2)), some (.int (v155 q cc gc x3)), some (.int x4), some (.int (nI i)), o6, o7], [], h, 198, sl) = some R := hh
    have y31 := of_decide_eq_false z13
    obtain ⟨n, hh⟩ := rn_i rfl rfl rfl rfl hh
    have hh : pm_run PT n fr lo 124 (52, [some (.ref 0), some (.int t1), some (.int (nI m2)), some (.int (v155 q cc gc x3)), some (.int x4), some (.int (nI i)), o6, o7], [.ref 0], h, 198, sl) = some R := hh
    obtain ⟨n, hh⟩ := rn_gr hw.wt rfl rfl (by decide) rfl (by decide) (show _ = some (2, ((5 : Nat) : Int), 1) from rfl) rfl hh
    obtain ⟨n, hh⟩ := rn_i rfl rfl rfl rfl hh
    have hh : pm_run PT n fr lo 124 (56, [some (.ref 0), some (.int t1), some (.int (nI m2)), some (.int (v155 q cc gc x3)), some (.int x4), some (.int (nI i)), o6, o7], [.ref 0, .ref 5], h, 198, sl) = some R := hh
    obtain ⟨n, hh⟩ := rn_gr hw.wt rfl rfl (by decide) rfl (by decide) (show _ = some (2, ((19 : Nat) : Int), 1) from rfl) rfl hh
    have hh : pm_run PT n fr lo 124 (59, [some (.ref 0), some (.int t1), some (.int (nI m2)), some (.int (v155 q cc gc x3)), some (.int x4), some (.int (nI i)), o6, o7], [.ref 19, .ref 5], h, 198, sl) = some R := hh
    obtain ⟨n, fr1, lo1, r1, hh1, hh⟩ := rn_call (w := 0) (t := 42) rfl rfl hh
    obtain ⟨er32, hc33, hf34⟩ := v42t_ok hw hh1
    subst er32
    obtain ⟨n, hh⟩ := rn_i rfl rfl rfl rfl hh
    have hh : pm_run PT n fr lo 124 (132, [some (.ref 0), some (.int t1), some (.int (nI m2)), some (.int (v155 q cc gc x3)), some (.int x4), some (.int (nI i)), o6, o7], [], v42t q cc gc h, 198, sl) = some R := hh
    obtain ⟨n, hh⟩ := en_inc (x := i) (c := 1) (j := 5) rfl rfl (by decide) hh
    have hh : pm_run PT n fr lo 124 (135, [some (.ref 0), some (.int t1), some (.int (nI m2)), some (.int (v155 q cc gc x3)), some (.int x4), some (.int (nI (i + 1))), o6, o7], [], v42t q cc gc h, 198, sl) = some R := hh
    obtain ⟨n, hh⟩ := rn_i rfl rfl rfl rfl hh
    have ed : v124_32b q cc gc h t1 m2 i x3 x4 = (v155 q cc gc x3, x4, v42t q cc gc h) := (cf z13).trans rfl
    rw [ed]
    rw [p2s, p2s, p1s, p1s]
    exact ⟨n, o6, o7, hc33, (fr_g rfl rfl hf34 fr_0), (NA_e ((Ar_e (hf34.1 23 rfl)).trans rfl) hol), hh⟩
theorem v124_32_ok {fr lo sl cc gc : Nat} {q : QT} {R : pm_Rs} {t1 : Int32} {m2 : Nat} : ∀ {j i : Nat} {x3 : Int32} {x4 : Int32} {o6 : Option Value} {o7 : Option Value} {h : pm_H} {n : Nat}, m2 - i = j → i + j < 1000000 → HC q cc gc h → m2 < 10000 → NA h 23 0 8 6 → pm_run PT n fr lo 124 (32, [some (.ref 0), some (.int t1), some (.int (nI m2)), some (.int x3), some (.int x4), some (.int (nI i)), o6, o7], [], h, 198, sl) = some R → ∃ m wc w6 w7, HC q cc gc ((v124_32 q cc gc t1 m2 j i (x3, x4, h)).2.2) ∧ frm [12, 19, 20, 21, 22, 23, 24, 142, 144, 145, 147] [(19, 5), (19, 6), (142, 3), (145, 3)] h ((v124_32 q cc gc t1 m2 j i (x3, x4, h)).2.2) ∧ NA ((v124_32 q cc gc t1 m2 j i (x3, x4, h)).2.2) 23 0 8 6 ∧ pm_run PT m fr lo 124 (138, [some (.ref 0), some (.int t1), some (.int (nI m2)), some (.int ((v124_32 q cc gc t1 m2 j i (x3, x4, h)).1)), some (.int ((v124_32 q cc gc t1 m2 j i (x3, x4, h)).2.1)), wc, w6, w7], [], (v124_32 q cc gc t1 m2 j i (x3, x4, h)).2.2, 198, sl) = some R := by
  intro j
  induction j with
  | zero =>
    intro i x3 x4 o6 o7 h n e eI hw h_m2 hol hh
    obtain ⟨n, hh⟩ := v124_32_e hw h_m2 hol (by omega) (by omega) hh
    exact ⟨n, _, o6, o7, hw, fr_0, hol, hh⟩
  | succ j ih =>
    intro i x3 x4 o6 o7 h n e eI hw h_m2 hol hh
    obtain ⟨n, w6, w7, hc, hf, hol', hh⟩ := v124_32_s hw h_m2 hol (by omega) (by omega) hh
    have eL : v124_32 q cc gc t1 m2 (j + 1) i (x3, x4, h) = v124_32 q cc gc t1 m2 j (i + 1) (v124_32b q cc gc h t1 m2 i x3 x4) := by
      unfold v124_32
      exact lp_s
    rw [eL]
    generalize v124_32b q cc gc h t1 m2 i x3 x4 = X at *
    obtain ⟨X0, X1, X2⟩ := X
    obtain ⟨n, wc, v6, v7, hc2, hf2, hol'', hh⟩ := ih (by omega) (by omega) hc h_m2 hol' hh
    exact ⟨n, wc, v6, v7, hc2, fr_t hf2 hf, hol'', hh⟩
def v124 (q : QT) (cc gc : Nat) (h : pm_H) (r : Int32) (m : Nat) : Int32 × pm_H := cond (decide (m < 1)) ((Int32.ofInt (-1)), h) (cond (decide (m ≤ 60)) ((v124_32 q cc gc r m m 0 (r, (nI 0), cp73 h 19 13)).2.1, v56 q cc gc ((v124_32 q cc gc r m m 0 (r, (nI 0), cp73 h 19 13)).2.2) ((v270 q cc gc (Fi ((v124_32 q cc gc r m m 0 (r, (nI 0), cp73 h 19 13)).2.2) 19 5)).toInt64) ((v38 q cc gc (Ar ((v124_32 q cc gc r m m 0 (r, (nI 0), cp73 h 19 13)).2.2) 21)).toInt64)) ((Int32.ofInt (-1)), h))
theorem v124_ok {n fr lo sl cc gc : Nat} {q : QT} {h : pm_H} {R : pm_Rs} {r : Int32} {m : Nat} (hw : HC q cc gc h) (h_m : m < 10000) (hol : NA h 17 0 8 6) (hh : pm_run PT n fr lo 124 (0, pm_l0 [.ref 0, .int r, .int (nI m)] 8, [], h, 198, sl) = some R) : R = (some (.int ((v124 q cc gc h r m).1)), (v124 q cc gc h r m).2, 198, sl) ∧ HC q cc gc ((v124 q cc gc h r m).2) ∧ frm [3, 4, 12, 19, 20, 21, 22, 23, 24, 142, 144, 145, 147] [(3, 1), (19, 5), (19, 6), (142, 3), (145, 3)] h ((v124 q cc gc h r m).2) := by
  have hcc := hw.cb
  have hgc := hw.gb
  have hzr := hw.zr
  obtain ⟨n, hh⟩ := rn_i rfl rfl rfl rfl hh
  obtain ⟨n, hh⟩ := rn_i rfl rfl rfl rfl hh
  have hh : pm_run PT n fr lo 124 (2, [some (.ref 0), some (.int r), some (.int (nI m)), none, none, none, none, none], [.int (nI 1), .int (nI m)], h, 198, sl) = some R := hh
  obtain ⟨n, hh⟩ := en_cn (cc := .lt) (off := 9) (t := 11) (b := decide (m < 1)) (hI_lt (by omega) (by omega)) rfl rfl hh
  cases z1 : decide (m < 1) with
  | true =>
    have hh := en_t z1 hh
    have hh : pm_run PT n fr lo 124 (11, [some (.ref 0), some (.int r), some (.int (nI m)), none, none, none, none, none], [], h, 198, sl) = some R := hh
    have y2 := of_decide_eq_true z1
    obtain ⟨n, hh⟩ := rn_i rfl rfl rfl rfl hh
    have hh : pm_run PT n fr lo 124 (12, [some (.ref 0), some (.int r), some (.int (nI m)), none, none, none, none, none], [.int (Int32.ofInt (-1))], h, 198, sl) = some R := hh
    have er3 : R = (some (.int (Int32.ofInt (-1))), h, 198, sl) := (rn_ret rfl (Or.inl rfl) hh).2
    have ed : v124 q cc gc h r m = ((Int32.ofInt (-1)), h) := (ct z1).trans rfl
    refine ⟨?_, ?_, ?_⟩ <;> rw [ed]
    · exact er3
    · exact hw
    · exact fr_0
  | false =>
    have hh := en_f z1 hh
    have hh : pm_run PT n fr lo 124 (5, [some (.ref 0), some (.int r), some (.int (nI m)), none, none, none, none, none], [], h, 198, sl) = some R := hh
    have y4 := of_decide_eq_false z1
    obtain ⟨n, hh⟩ := rn_i rfl rfl rfl rfl hh
    obtain ⟨n, hh⟩ := rn_i rfl rfl rfl rfl hh
    have hh : pm_run PT n fr lo 124 (8, [some (.ref 0), some (.int r), some (.int (nI m)), none, none, none, none, none], [.int (nI 60), .int (nI m)], h, 198, sl) = some R := hh
    obtain ⟨n, hh⟩ := en_cn (cc := .le) (off := 5) (t := 13) (b := decide (m ≤ 60)) (hI_le (by omega) (by omega)) rfl rfl hh
    cases z5 : decide (m ≤ 60) with
    | true =>
      have hh := en_t z5 hh
      have hh : pm_run PT n fr lo 124 (13, [some (.ref 0), some (.int r), some (.int (nI m)), none, none, none, none, none], [], h, 198, sl) = some R := hh
      have y6 := of_decide_eq_true z5
      obtain ⟨n, hh⟩ := rn_i rfl rfl rfl rfl hh
      have hh : pm_run PT n fr lo 124 (14, [some (.ref 0), some (.int r), some (.int (nI m)), none, none, none, none, none], [.ref 0], h, 198, sl) = some R := hh
      obtain ⟨n, hh⟩ := rn_gr hw.wt rfl rfl (by decide) rfl (by decide) (show _ = some (2, ((19 : Nat) : Int), 1) from rfl) rfl hh
      obtain ⟨n, hh⟩ := rn_i rfl rfl rfl rfl hh
      have hh : pm_run PT n fr lo 124 (18, [some (.ref 0), some (.int r), some (.int (nI m)), none, none, none, none, none], [.ref 0, .ref 19], h, 198, sl) = some R := hh
      obtain ⟨n, hh⟩ := rn_gr hw.wt rfl rfl (by decide) rfl (by decide) (show _ = some (2, ((13 : Nat) : Int), 1) from rfl) rfl hh
      have hh : pm_run PT n fr lo 124 (21, [some (.ref 0), some (.int r), some (.int (nI m)), none, none, none, none, none], [.ref 13, .ref 19], h, 198, sl) = some R := hh
      obtain ⟨n, fr1, lo1, r1, hh1, hh⟩ := rn_call (w := 0) (t := 73) rfl rfl hh
      obtain ⟨er7, hc8⟩ := cp73_ok rfl rfl (by omega) hw hh1
      subst er7
      obtain ⟨n, hh⟩ := rn_i rfl rfl rfl rfl hh
      obtain ⟨n, hh⟩ := rn_i rfl rfl rfl rfl hh
      obtain ⟨n, hh⟩ := rn_i rfl rfl rfl rfl hh
      obtain ⟨n, hh⟩ := rn_i rfl rfl rfl rfl hh
      obtain ⟨n, hh⟩ := rn_i rfl rfl rfl rfl hh
      obtain ⟨n, hh⟩ := rn_i rfl rfl rfl rfl hh
      have hh : pm_run PT n fr lo 124 (32, [some (.ref 0), some (.int r), some (.int (nI m)), some (.int r), some (.int (nI 0)), some (.int (nI 0)), none, none], [], cp73 h 19 13, 198, sl) = some R := hh
      obtain ⟨n, u11, u9, u10, hc13, hf14, hn12, hh⟩ := v124_32_ok (t1 := r) (m2 := m)  (i := 0) (x3 := r) (x4 := (nI 0)) (o6 := none) (o7 := none) (j := m) (by omega) (by omega) hc8 (by omega) (cp73_na hw hol) hh
      have hh : pm_run PT n fr lo 124 (138, [some (.ref 0), some (.int r), some (.int (nI m)), some (.int ((v124_32 q cc gc r m m 0 (r, (nI 0), cp73 h 19 13)).1)), some (.int ((v124_32 q cc gc r m m 0 (r, (nI 0), cp73 h 19 13)).2.1)), u11, u9, u10], [], (v124_32 q cc gc r m m 0 (r, (nI 0), cp73 h 19 13)).2.2, 198, sl) = some R := hh
      obtain ⟨n, hh⟩ := rn_i rfl rfl rfl rfl hh
      have hh : pm_run PT n fr lo 124 (139, [some (.ref 0), some (.int r), some (.int (nI m)), some (.int ((v124_32 q cc gc r m m 0 (r, (nI 0), cp73 h 19 13)).1)), some (.int ((v124_32 q cc gc r m m 0 (r, (nI 0), cp73 h 19 13)).2.1)), u11, u9, u10], [.ref 0], (v124_32 q cc gc r m m 0 (r, (nI 0), cp73 h 19 13)).2.2, 198, sl) = some R := hh
      obtain ⟨n, hh⟩ := rn_gr hc13.wt rfl rfl (by decide) rfl (by decide) (show _ = some (2, ((3 : Nat) : Int), 1) from rfl) rfl hh
      obtain ⟨n, hh⟩ := rn_i rfl rfl rfl rfl hh
      have hh : pm_run PT n fr lo 124 (143, [some (.ref 0), some (.int r), some (.int (nI m)), some (.int ((v124_32 q cc gc r m m 0 (r, (nI 0), cp73 h 19 13)).1)), some (.int ((v124_32 q cc gc r m m 0 (r, (nI 0), cp73 h 19 13)).2.1)), u11, u9, u10], [.ref 0, .ref 3], (v124_32 q cc gc r m m 0 (r, (nI 0), cp73 h 19 13)).2.2, 198, sl) = some R := hh
      obtain ⟨n, hh⟩ := rn_gr hc13.wt rfl rfl (by decide) rfl (by decide) (show _ = some (2, ((19 : Nat) : Int), 1) from rfl) rfl hh
      have hh : pm_run PT n fr lo 124 (146, [some (.ref 0), some (.int r), some (.int (nI m)), some (.int ((v124_32 q cc gc r m m 0 (r, (nI 0), cp73 h 19 13)).1)), some (.int ((v124_32 q cc gc r m m 0 (r, (nI 0), cp73 h 19 13)).2.1)), u11, u9, u10], [.ref 19, .ref 3], (v124_32 q cc gc r m m 0 (r, (nI 0), cp73 h 19 13)).2.2, 198, sl) = some R := hh
      obtain ⟨n, hh⟩ := rn_gi (x := Fi ((v124_32 q cc gc r m m 0 (r, (nI 0), cp73 h 19 13)).2.2) 19 5) hc13.wt rfl rfl (by decide) rfl (by decide) rfl rfl hh
      have hh : pm_run PT n fr lo 124 (149, [some (.ref 0), some (.int r), some (.int (nI m)), some (.int ((v124_32 q cc gc r m m 0 (r, (nI 0), cp73 h 19 13)).1)), some (.int ((v124_32 q cc gc r m m 0 (r, (nI 0), cp73 h 19 13)).2.1)), u11, u9, u10], [.int (Fi ((v124_32 q cc gc r m m 0 (r, (nI 0), cp73 h 19 13)).2.2) 19 5), .ref 3], (v124_32 q cc gc r m m 0 (r, (nI 0), cp73 h 19 13)).2.2, 198, sl) = some R := hh
      obtain ⟨n, fr1, lo1, r1, hh1, hh⟩ := rn_call (w := 2) (t := 270) rfl rfl hh
      have er15 := v270_ok (a := (Fi ((v124_32 q cc gc r m m 0 (r, (nI 0), cp73 h 19 13)).2.2) 19 5)) hc13 hh1
      subst er15
      obtain ⟨n, hh⟩ := rn_i rfl rfl rfl rfl hh
      obtain ⟨n, hh⟩ := rn_i rfl rfl rfl rfl hh
      have hh : pm_run PT n fr lo 124 (154, [some (.ref 0), some (.int r), some (.int (nI m)), some (.int ((v124_32 q cc gc r m m 0 (r, (nI 0), cp73 h 19 13)).1)), some (.int ((v124_32 q cc gc r m m 0 (r, (nI 0), cp73 h 19 13)).2.1)), u11, u9, u10], [.ref 0, .long ((v270 q cc gc (Fi ((v124_32 q cc gc r m m 0 (r, (nI 0), cp73 h 19 13)).2.2) 19 5)).toInt64), .ref 3], (v124_32 q cc gc r m m 0 (r, (nI 0), cp73 h 19 13)).2.2, 198, sl) = some R := hh
      obtain ⟨n, hh⟩ := rn_gr hc13.wt rfl rfl (by decide) rfl (by decide) (show _ = some (2, ((5 : Nat) : Int), 1) from rfl) rfl hh
      obtain ⟨n, hh⟩ := rn_i rfl rfl rfl rfl hh
      have hh : pm_run PT n fr lo 124 (158, [some (.ref 0), some (.int r), some (.int (nI m)), some (.int ((v124_32 q cc gc r m m 0 (r, (nI 0), cp73 h 19 13)).1)), some (.int ((v124_32 q cc gc r m m 0 (r, (nI 0), cp73 h 19 13)).2.1)), u11, u9, u10], [.ref 0, .ref 5, .long ((v270 q cc gc (Fi ((v124_32 q cc gc r m m 0 (r, (nI 0), cp73 h 19 13)).2.2) 19 5)).toInt64), .ref 3], (v124_32 q cc gc r m m 0 (r, (nI 0), cp73 h 19 13)).2.2, 198, sl) = some R := hh
      obtain ⟨n, hh⟩ := rn_gr hc13.wt rfl rfl (by decide) rfl (by decide) (show _ = some (2, ((19 : Nat) : Int), 1) from rfl) rfl hh
      have hh : pm_run PT n fr lo 124 (161, [some (.ref 0), some (.int r), some (.int (nI m)), some (.int ((v124_32 q cc gc r m m 0 (r, (nI 0), cp73 h 19 13)).1)), some (.int ((v124_32 q cc gc r m m 0 (r, (nI 0), cp73 h 19 13)).2.1)), u11, u9, u10], [.ref 19, .ref 5, .long ((v270 q cc gc (Fi ((v124_32 q cc gc r m m 0 (r, (nI 0), cp73 h 19 13)).2.2) 19 5)).toInt64), .ref 3], (v124_32 q cc gc r m m 0 (r, (nI 0), cp73 h 19 13)).2.2, 198, sl) = some R := hh
      obtain ⟨n, fr1, lo1, r1, hh1, hh⟩ := rn_call (w := 0) (t := 38) rfl rfl hh
      have er16 := v38t_ok hc13 hh1
      subst er16
      obtain ⟨n, hh⟩ := rn_i rfl rfl rfl rfl hh
      have hh : pm_run PT n fr lo 124 (165, [some (.ref 0), some (.int r), some (.int (nI m)), some (.int ((v124_32 q cc gc r m m 0 (r, (nI 0), cp73 h 19 13)).1)), some (.int ((v124_32 q cc gc r m m 0 (r, (nI 0), cp73 h 19 13)).2.1)), u11, u9, u10], [.long ((v38 q cc gc (Ar ((v124_32 q cc gc r m m 0 (r, (nI 0), cp73 h 19 13)).2.2) 21)).toInt64), .long ((v270 q cc gc (Fi ((v124_32 q cc gc r m m 0 (r, (nI 0), cp73 h 19 13)).2.2) 19 5)).toInt64), .ref 3], (v124_32 q cc gc r m m 0 (r, (nI 0), cp73 h 19 13)).2.2, 198, sl) = some R := hh
      obtain ⟨n, fr1, lo1, r1, hh1, hh⟩ := rn_call (w := 0) (t := 56) rfl rfl hh
      obtain ⟨er17, hc18, hf19⟩ := v56_ok (v := ((v270 q cc gc (Fi ((v124_32 q cc gc r m m 0 (r, (nI 0), cp73 h 19 13)).2.2) 19 5)).toInt64)) (w := ((v38 q cc gc (Ar ((v124_32 q cc gc r m m 0 (r, (nI 0), cp73 h 19 13)).2.2) 21)).toInt64)) hc13 hh1
      subst er17
      obtain ⟨n, hh⟩ := rn_i rfl rfl rfl rfl hh
      have hh : pm_run PT n fr lo 124 (170, [some (.ref 0), some (.int r), some (.int (nI m)), some (.int ((v124_32 q cc gc r m m 0 (r, (nI 0), cp73 h 19 13)).1)), some (.int ((v124_32 q cc gc r m m 0 (r, (nI 0), cp73 h 19 13)).2.1)), u11, u9, u10], [.int ((v124_32 q cc gc r m m 0 (r, (nI 0), cp73 h 19 13)).2.1)], v56 q cc gc ((v124_32 q cc gc r m m 0 (r, (nI 0), cp73 h 19 13)).2.2) ((v270 q cc gc (Fi ((v124_32 q cc gc r m m 0 (r, (nI 0), cp73 h 19 13)).2.2) 19 5)).toInt64) ((v38 q cc gc (Ar ((v124_32 q cc gc r m m 0 (r, (nI 0), cp73 h 19 13)).2.2) 21)).toInt64), 198, sl) = some R := hh
      have er20 : R = (some (.int ((v124_32 q cc gc r m m 0 (r, (nI 0), cp73 h 19 13)).2.1)), v56 q cc gc ((v124_32 q cc gc r m m 0 (r, (nI 0), cp73 h 19 13)).2.2) ((v270 q cc gc (Fi ((v124_32 q cc gc r m m 0 (r, (nI 0), cp73 h 19 13)).2.2) 19 5)).toInt64) ((v38 q cc gc (Ar ((v124_32 q cc gc r m m 0 (r, (nI 0), cp73 h 19 13)).2.2) 21)).toInt64), 198, sl) := (rn_ret rfl (Or.inl rfl) hh).2
      have ed : v124 q cc gc h r m = ((v124_32 q cc gc r m m 0 (r, (nI 0), cp73 h 19 13)).2.1, v56 q cc gc ((v124_32 q cc gc r m m 0 (r, (nI 0), cp73 h 19 13)).2.2) ((v270 q cc gc (Fi ((v124_32 q cc gc r m m 0 (r, (nI 0), cp73 h 19 13)).2.2) 19 5)).toInt64) ((v38 q cc gc (Ar ((v124_32 q cc gc r m m 0 (r, (nI 0), cp73 h 19 13)).2.2) 21)).toInt64)) := (cf z1).trans ((ct z5).trans rfl)
      refine ⟨?_, ?_, ?_⟩ <;> rw [ed]
      · exact er20
      · exact hc18
      · exact (fr_g rfl rfl hf19 (fr_g rfl rfl hf14 (fr_cs rfl hw.wt rfl rfl fr_0)))
    | false =>
      have hh := en_f z5 hh
      have hh : pm_run PT n fr lo 124 (11, [some (.ref 0), some (.int r), some (.int (nI m)), none, none, none, none, none], [], h, 198, sl) = some R := hh
      have y21 := of_decide_eq_false z5
      obtain ⟨n, hh⟩ := rn_i rfl rfl rfl rfl hh
      have hh : pm_run PT n fr lo 124 (12, [some (.ref 0), some (.int r), some (.int (nI m)), none, none, none, none, none], [.int (Int32.ofInt (-1))], h, 198, sl) = some R := hh
      have er22 : R = (some (.int (Int32.ofInt (-1))), h, 198, sl) := (rn_ret rfl (Or.inl rfl) hh).2
      have ed : v124 q cc gc h r m = ((Int32.ofInt (-1)), h) := (cf z1).trans ((cf z5).trans rfl)
      refine ⟨?_, ?_, ?_⟩ <;> rw [ed]
      · exact er22
      · exact hw
      · exact fr_0
def v263_33b (q : QT) (cc gc : Nat) (h : pm_H) (t1 : Int32) (m2 : Nat) (i : Nat) (x3 : Int32) : Int32 × pm_H := cond (decide (¬ (dN ((v262 q cc gc h 3).1)) = 0)) (cond (decide (gc ≤ 0)) (x3, (v262 q cc gc h 3).2) (x3 + (cond (cond (pm_cmp .lt ((v217t q cc gc ((v262 q cc gc ((v262 q cc gc ((v262 q cc gc h 3).2) gc).2) cc).2) (dN ((v262 q cc gc ((v262 q cc gc h 3).2) gc).1)) (dN ((v262 q cc gc ((v262 q cc gc ((v262 q cc gc h 3).2) gc).2) cc).1))).1) 0) false true) 1 0), (v217t q cc gc ((v262 q cc gc ((v262 q cc gc ((v262 q cc gc h 3).2) gc).2) cc).2) (dN ((v262 q cc gc ((v262 q cc gc h 3).2) gc).1)) (dN ((v262 q cc gc ((v262 q cc gc ((v262 q cc gc h 3).2) gc).2) cc).1))).2)) (x3, v219t q cc gc ((v262 q cc gc h 3).2))
def v263_33 (q : QT) (cc gc : Nat) (t1 : Int32) (m2 : Nat) (j i : Nat) (a : Int32 × pm_H) : Int32 × pm_H := lp (fun i a => v263_33b q cc gc a.2 t1 m2 i a.1) j i a
theorem v263_33_e {n fr lo sl cc gc : Nat} {q : QT} {h : pm_H} {R : pm_Rs} {t1 : Int32} {m2 : Nat} {i : Nat} {x3 : Int32} {o5 : Option Value} (hw : HC q cc gc h) (h_m2 : m2 < 10000) (hg0 : 0 < gc → 0 < cc) (hol : NA h 171 78 86 6) (hi : m2 ≤ i) (hI : i < 1000000) (hh : pm_run PT n fr lo 263 (33, [some (.ref 162), some (.int t1), some (.int (nI m2)), some (.int x3), some (.int (nI i)), o5, none], [], h, 198, sl) = some R) : ∃ m, pm_run PT m fr lo 263 (113, [some (.ref 162), some (.int t1), some (.int (nI m2)), some (.int x3), some (.int (nI i)), o5, none], [], h, 198, sl) = some R := by
  have hcc := hw.cb
  have hgc := hw.gb
  have hzr := hw.zr
  obtain ⟨n, hh⟩ := rn_i rfl rfl rfl rfl hh
  obtain ⟨n, hh⟩ := rn_i rfl rfl rfl rfl hh
  have hh : pm_run PT n fr lo 263 (36, [some (.ref 162), some (.int t1), some (.int (nI m2)), some (.int x3), some (.int (nI i)), o5, none], [.int (nI m2), .int (nI i)], h, 198, sl) = some R := hh
  obtain ⟨n, hh⟩ := en_cn (cc := .ge) (off := 77) (t := 113) (b := decide (m2 ≤ i)) (hI_ge (by omega) (by omega)) rfl rfl hh
  have hh := en_t (show decide (m2 ≤ i) = true from decide_eq_true (by omega)) hh
  have hh : pm_run PT n fr lo 263 (113, [some (.ref 162), some (.int t1), some (.int (nI m2)), some (.int x3), some (.int (nI i)), o5, none], [], h, 198, sl) = some R := hh
  exact ⟨n, hh⟩
theorem v263_33_s {n fr lo sl cc gc : Nat} {q : QT} {h : pm_H} {R : pm_Rs} {t1 : Int32} {m2 : Nat} {i : Nat} {x3 : Int32} {o5 : Option Value} (hw : HC q cc gc h) (h_m2 : m2 < 10000) (hg0 : 0 < gc → 0 < cc) (hol : NA h 171 78 86 6) (hi : i < m2) (hI : i < 1000000) (hh : pm_run PT n fr lo 263 (33, [some (.ref 162), some (.int t1), some (.int (nI m2)), some (.int x3), some (.int (nI i)), o5, none], [], h, 198, sl) = some R) : ∃ m w5, HC q cc gc ((v263_33b q cc gc h t1 m2 i x3).2) ∧ frm [162, 171, 176, 177] [(162, 29), (162, 30), (162, 51)] h ((v263_33b q cc gc h t1 m2 i x3).2) ∧ NA ((v263_33b q cc gc h t1 m2 i x3).2) 171 78 86 6 ∧ pm_run PT m fr lo 263 (33, [some (.ref 162), some (.int t1), some (.int (nI m2)), some (.int ((v263_33b q cc gc h t1 m2 i x3).1)), some (.int (nI (i + 1))), w5, none], [], (v263_33b q cc gc h t1 m2 i x3).2, 198, sl) = some R := by
  have hcc := hw.cb
  have hgc := hw.gb
  have hzr := hw.zr
  obtain ⟨n, hh⟩ := rn_i rfl rfl rfl rfl hh
  obtain ⟨n, hh⟩ := rn_i rfl rfl rfl rfl hh
  have hh : pm_run PT n fr lo 263 (36, [some (.ref 162), some (.int t1), some (.int (nI m2)), some (.int x3), some (.int (nI i)), o5, none], [.int (nI m2), .int (nI i)], h, 198, sl) = some R := hh
  obtain ⟨n, hh⟩ := en_cn (cc := .ge) (off := 77) (t := 113) (b := decide (m2 ≤ i)) (hI_ge (by omega) (by omega)) rfl rfl hh
  have hh := en_f (show decide (m2 ≤ i) = false from decide_eq_false (by omega)) hh
  have hh : pm_run PT n fr lo 263 (39, [some (.ref 162), some (.int t1), some (.int (nI m2)), some (.int x3), some (.int (nI i)), o5, none], [], h, 198, sl) = some R := hh
  obtain ⟨n, hh⟩ := rn_i rfl rfl rfl rfl hh
  obtain ⟨n, hh⟩ := rn_i rfl rfl rfl rfl hh
  have hh : pm_run PT n fr lo 263 (41, [some (.ref 162), some (.int t1), some (.int (nI m2)), some (.int x3), some (.int (nI i)), o5, none], [.int (nI 3), .ref 162], h, 198, sl) = some R := hh
  obtain ⟨n, fr1, lo1, r1, hh1, hh⟩ := rn_call (w := 0) (t := 262) rfl rfl hh
  obtain ⟨er6, hc7, hf8⟩ := v262_ok (m := 3) hw (by omega) hh1
  subst er6
  have hh : pm_run PT n fr lo 263 (44, [some (.ref 162), some (.int t1), some (.int (nI m2)), some (.int x3), some (.int (nI i)), o5, none], [.int ((v262 q cc gc h 3).1)], (v262 q cc gc h 3).2, 198, sl) = some R := hh
  have hd9 : (v262 q cc gc h 3).1 = nI (dN ((v262 q cc gc h 3).1)) ∧ dN ((v262 q cc gc h 3).1) < 3 := en_d262 (by omega) (by omega)
  rw [hd9.1] at hh
  have hb10 := hd9.2
  have hh : pm_run PT n fr lo 263 (44, [some (.ref 162), some (.int t1), some (.int (nI m2)), some (.int x3), some (.int (nI i)), o5, none], [.int (nI (dN ((v262 q cc gc h 3).1)))], (v262 q cc gc h 3).2, 198, sl) = some R := hh
  obtain ⟨n, hh⟩ := en_zn (cc := .ne) (off := 14) (t := 58) (b := decide (¬ (dN ((v262 q cc gc h 3).1)) = 0)) (hI_ne (b := 0) (by omega) (by omega)) rfl rfl hh
  cases z11 : decide (¬ (dN ((v262 q cc gc h 3).1)) = 0) with
  | true =>
    have hh := en_t z11 hh
    have hh : pm_run PT n fr lo 263 (58, [some (.ref 162), some (.int t1), some (.int (nI m2)), some (.int x3), some (.int (nI i)), o5, none], [], (v262 q cc gc h 3).2, 198, sl) = some R := hh
    have y12 := of_decide_eq_true z11
    obtain ⟨n, hh⟩ := rn_i rfl rfl rfl rfl hh
    have hh : pm_run PT n fr lo 263 (59, [some (.ref 162), some (.int t1), some (.int (nI m2)), some (.int x3), some (.int (nI i)), o5, none], [.ref 162], (v262 q cc gc h 3).2, 198, sl) = some R := hh
    obtain ⟨n, hh⟩ := rn_gi (x := nI gc) hc7.wt rfl rfl (by decide) rfl (by decide) rfl hc7.m4 hh
    have hh : pm_run PT n fr lo 263 (62, [some (.ref 162), some (.int t1), some (.int (nI m2)), some (.int x3), some (.int (nI i)), o5, none], [.int (nI gc)], (v262 q cc gc h 3).2, 198, sl) = some R := hh
    obtain ⟨n, hh⟩ := en_zn (cc := .le) (off := 45) (t := 107) (b := decide (gc ≤ 0)) (hI_le (b := 0) (by omega) (by omega)) rfl rfl hh
    cases z13 : decide (gc ≤ 0) with
    | true =>
      have hh := en_t z13 hh
      have hh : pm_run PT n fr lo 263 (107, [some (.ref 162), some (.int t1), some (.int (nI m2)), some (.int x3), some (.int (nI i)), o5, none], [], (v262 q cc gc h 3).2, 198, sl) = some R := hh
      have y14 := of_decide_eq_true z13
      have hh : pm_run PT n fr lo 263 (107, [some (.ref 162), some (.int t1), some (.int (nI m2)), some (.int x3), some (.int (nI i)), o5, none], [], (v262 q cc gc h 3).2, 198, sl) = some R := hh
      obtain ⟨n, hh⟩ := en_inc (x := i) (c := 1) (j := 4) rfl rfl (by decide) hh
      have hh : pm_run PT n fr lo 263 (110, [some (.ref 162), some (.int t1), some (.int (nI m2)), some (.int x3), some (.int (nI (i + 1))), o5, none], [], (v262 q cc gc h 3).2, 198, sl) = some R := hh
      obtain ⟨n, hh⟩ := rn_i rfl rfl rfl rfl hh
      have ed : v263_33b q cc gc h t1 m2 i x3 = (x3, (v262 q cc gc h 3).2) := (ct z11).trans ((ct z13).trans rfl)
      rw [ed]
      rw [p2s, p1s]
      exact ⟨n, o5, hc7, (fr_g rfl rfl hf8 fr_0), (NA_e ((Ar_e (hf8.1 171 rfl)).trans rfl) hol), hh⟩
    | false =>
      have hh := en_f z13 hh
      have hh : pm_run PT n fr lo 263 (65, [some (.ref 162), some (.int t1), some (.int (nI m2)), some (.int x3), some (.int (nI i)), o5, none], [], (v262 q cc gc h 3).2, 198, sl) = some R := hh
      have y15 := of_decide_eq_false z13
      obtain ⟨n, hh⟩ := rn_i rfl rfl rfl rfl hh
      obtain ⟨n, hh⟩ := rn_i rfl rfl rfl rfl hh
      have hh : pm_run PT n fr lo 263 (67, [some (.ref 162), some (.int t1), some (.int (nI m2)), some (.int x3), some (.int (nI i)), o5, none], [.ref 162, .ref 162], (v262 q cc gc h 3).2, 198, sl) = some R := hh
      obtain ⟨n, hh⟩ := rn_gi (x := nI gc) hc7.wt rfl rfl (by decide) rfl (by decide) rfl hc7.m4 hh
      have hh : pm_run PT n fr lo 263 (70, [some (.ref 162), some (.int t1), some (.int (nI m2)), some (.int x3), some (.int (nI i)), o5, none], [.int (nI gc), .ref 162], (v262 q cc gc h 3).2, 198, sl) = some R := hh
      obtain ⟨n, fr1, lo1, r1, hh1, hh⟩ := rn_call (w := 0) (t := 262) rfl rfl hh
      obtain ⟨er16, hc17, hf18⟩ := v262_ok (m := gc) hc7 (by omega) hh1
      subst er16
      have hh : pm_run PT n fr lo 263 (73, [some (.ref 162), some (.int t1), some (.int (nI m2)), some (.int x3), some (.int (nI i)), o5, none], [.int ((v262 q cc gc ((v262 q cc gc h 3).2) gc).1)], (v262 q cc gc ((v262 q cc gc h 3).2) gc).2, 198, sl) = some R := hh
      have hd19 : (v262 q cc gc ((v262 q cc gc h 3).2) gc).1 = nI (dN ((v262 q cc gc ((v262 q cc gc h 3).2) gc).1)) ∧ dN ((v262 q cc gc ((v262 q cc gc h 3).2) gc).1) < gc := en_d262 (by omega) (by omega)
      rw [hd19.1] at hh
      have hb20 := hd19.2
      obtain ⟨n, hh⟩ := rn_i rfl rfl rfl rfl hh
      obtain ⟨n, hh⟩ := rn_i rfl rfl rfl rfl hh
      obtain ⟨n, hh⟩ := rn_i rfl rfl rfl rfl hh
      obtain ⟨n, hh⟩ := rn_i rfl rfl rfl rfl hh
      have hh : pm_run PT n fr lo 263 (78, [some (.ref 162), some (.int t1), some (.int (nI m2)), some (.int x3), some (.int (nI i)), some (.int (nI (dN ((v262 q cc gc ((v262 q cc gc h 3).2) gc).1)))), none], [.ref 162, .ref 162, .int x3], (v262 q cc gc ((v262 q cc gc h 3).2) gc).2, 198, sl) = some R := hh
      obtain ⟨n, hh⟩ := rn_gr hc17.wt rfl rfl (by decide) rfl (by decide) (show _ = some (2, ((171 : Nat) : Int), 1) from rfl) rfl hh
      obtain ⟨n, hh⟩ := rn_i rfl rfl rfl rfl hh
      obtain ⟨n, hh⟩ := rn_i rfl rfl rfl rfl hh
      obtain ⟨n, hh⟩ := rn_i rfl rfl rfl rfl hh
      have hh : pm_run PT n fr lo 263 (85, [some (.ref 162), some (.int t1), some (.int (nI m2)), some (.int x3), some (.int (nI i)), some (.int (nI (dN ((v262 q cc gc ((v262 q cc gc h 3).2) gc).1)))), none], [.ref 162, .ref 162, .int (nI (dN ((v262 q cc gc ((v262 q cc gc h 3).2) gc).1))), .ref 171, .ref 162, .int x3], (v262 q cc gc ((v262 q cc gc h 3).2) gc).2, 198, sl) = some R := hh
      obtain ⟨n, hh⟩ := rn_gi (x := nI cc) hc17.wt rfl rfl (by decide) rfl (by decide) rfl hc17.m3 hh
      have hh : pm_run PT n fr lo 263 (88, [some (.ref 162), some (.int t1), some (.int (nI m2)), some (.int x3), some (.int (nI i)), some (.int (nI (dN ((v262 q cc gc ((v262 q cc gc h 3).2) gc).1)))), none], [.int (nI cc), .ref 162, .int (nI (dN ((v262 q cc gc ((v262 q cc gc h 3).2) gc).1))), .ref 171, .ref 162, .int x3], (v262 q cc gc ((v262 q cc gc h 3).2) gc).2, 198, sl) = some R := hh
      obtain ⟨n, fr1, lo1, r1, hh1, hh⟩ := rn_call (w := 0) (t := 262) rfl rfl hh
      obtain ⟨er21, hc22, hf23⟩ := v262_ok (m := cc) hc17 (by omega) hh1
      subst er21
      have hh : pm_run PT n fr lo 263 (91, [some (.ref 162), some (.int t1), some (.int (nI m2)), some (.int x3), some (.int (nI i)), some (.int (nI (dN ((v262 q cc gc ((v262 q cc gc h 3).2) gc).1)))), none], [.int ((v262 q cc gc ((v262 q cc gc ((v262 q cc gc h 3).2) gc).2) cc).1), .int (nI (dN ((v262 q cc gc ((v262 q cc gc h 3).2) gc).1))), .ref 171, .ref 162, .int x3], (v262 q cc gc ((v262 q cc gc ((v262 q cc gc h 3).2) gc).2) cc).2, 198, sl) = some R := hh
      have hd24 : (v262 q cc gc ((v262 q cc gc ((v262 q cc gc h 3).2) gc).2) cc).1 = nI (dN ((v262 q cc gc ((v262 q cc gc ((v262 q cc gc h 3).2) gc).2) cc).1)) ∧ dN ((v262 q cc gc ((v262 q cc gc ((v262 q cc gc h 3).2) gc).2) cc).1) < cc := en_d262 (by omega) (by omega)
      rw [hd24.1] at hh
      have hb25 := hd24.2
      have hh : pm_run PT n fr lo 263 (91, [some (.ref 162), some (.int t1), some (.int (nI m2)), some (.int x3), some (.int (nI i)), some (.int (nI (dN ((v262 q cc gc ((v262 q cc gc h 3).2) gc).1)))), none], [.int (nI (dN ((v262 q cc gc ((v262 q cc gc ((v262 q cc gc h 3).2) gc).2) cc).1))), .int (nI (dN ((v262 q cc gc ((v262 q cc gc h 3).2) gc).1))), .ref 171, .ref 162, .int x3], (v262 q cc gc ((v262 q cc gc ((v262 q cc gc h 3).2) gc).2) cc).2, 198, sl) = some R := hh
      obtain ⟨n, fr1, lo1, r1, hh1, hh⟩ := rn_call (w := 0) (t := 217) rfl rfl hh
      obtain ⟨er26, hc27, hf28⟩ := v217t_ok (g := (dN ((v262 q cc gc ((v262 q cc gc h 3).2) gc).1))) (c := (dN ((v262 q cc gc ((v262 q cc gc ((v262 q cc gc h 3).2) gc).2) cc).1))) hc22 (by omega) (by omega) (NA_e ((Ar_e (hf23.1 171 rfl)).trans ((Ar_e (hf18.1 171 rfl)).trans ((Ar_e (hf8.1 171 rfl)).trans rfl))) hol) hh1
      subst er26
      have hh : pm_run PT n fr lo 263 (94, [some (.ref 162), some (.int t1), some (.int (nI m2)), some (.int x3), some (.int (nI i)), some (.int (nI (dN ((v262 q cc gc ((v262 q cc gc h 3).2) gc).1)))), none], [.int ((v217t q cc gc ((v262 q cc gc ((v262 q cc gc ((v262 q cc gc h 3).2) gc).2) cc).2) (dN ((v262 q cc gc ((v262 q cc gc h 3).2) gc).1)) (dN ((v262 q cc gc ((v262 q cc gc ((v262 q cc gc h 3).2) gc).2) cc).1))).1), .int x3], (v217t q cc gc ((v262 q cc gc ((v262 q cc gc ((v262 q cc gc h 3).2) gc).2) cc).2) (dN ((v262 q cc gc ((v262 q cc gc h 3).2) gc).1)) (dN ((v262 q cc gc ((v262 q cc gc ((v262 q cc gc h 3).2) gc).2) cc).1))).2, 198, sl) = some R := hh
      obtain ⟨n, hh⟩ := en_zn (cc := .lt) (off := 7) (t := 101) (b := pm_cmp .lt ((v217t q cc gc ((v262 q cc gc ((v262 q cc gc ((v262 q cc gc h 3).2) gc).2) cc).2) (dN ((v262 q cc gc ((v262 q cc gc h 3).2) gc).1)) (dN ((v262 q cc gc ((v262 q cc gc ((v262 q cc gc h 3).2) gc).2) cc).1))).1) 0) rfl rfl rfl hh
      have hj30 : ∃ mJ, pm_run PT mJ fr lo 263 (cond (pm_cmp .lt ((v217t q cc gc ((v262 q cc gc ((v262 q cc gc ((v262 q cc gc h 3).2) gc).2) cc).2) (dN ((v262 q cc gc ((v262 q cc gc h 3).2) gc).1)) (dN ((v262 q cc gc ((v262 q cc gc ((v262 q cc gc h 3).2) gc).2) cc).1))).1) 0) (102, [some (.ref 162), some (.int t1), some (.int (nI m2)), some (.int x3), some (.int (nI i)), some (.int (nI (dN ((v262 q cc gc ((v262 q cc gc h 3).2) gc).1)))), none], [.int (nI 0), .int x3], (v217t q cc gc ((v262 q cc gc ((v262 q cc gc ((v262 q cc gc h 3).2) gc).2) cc).2) (dN ((v262 q cc gc ((v262 q cc gc h 3).2) gc).1)) (dN ((v262 q cc gc ((v262 q cc gc ((v262 q cc gc h 3).2) gc).2) cc).1))).2, 198, sl) (102, [some (.ref 162), some (.int t1), some (.int (nI m2)), some (.int x3), some (.int (nI i)), some (.int (nI (dN ((v262 q cc gc ((v262 q cc gc h 3).2) gc).1)))), none], [.int (nI 1), .int x3], (v217t q cc gc ((v262 q cc gc ((v262 q cc gc ((v262 q cc gc h 3).2) gc).2) cc).2) (dN ((v262 q cc gc ((v262 q cc gc h 3).2) gc).1)) (dN ((v262 q cc gc ((v262 q cc gc ((v262 q cc gc h 3).2) gc).2) cc).1))).2, 198, sl)) = some R := en_J (fun z29 => by
          have hh := en_t z29 hh
          have hh : pm_run PT n fr lo 263 (101, [some (.ref 162), some (.int t1), some (.int (nI m2)), some (.int x3), some (.int (nI i)), some (.int (nI (dN ((v262 q cc gc ((v262 q cc gc h 3).2) gc).1)))), none], [.int x3], (v217t q cc gc ((v262 q cc gc ((v262 q cc gc ((v262 q cc gc h 3).2) gc).2) cc).2) (dN ((v262 q cc gc ((v262 q cc gc h 3).2) gc).1)) (dN ((v262 q cc gc ((v262 q cc gc ((v262 q cc gc h 3).2) gc).2) cc).1))).2, 198, sl) = some R := hh
          obtain ⟨n, hh⟩ := rn_i rfl rfl rfl rfl hh
          exact ⟨n, hh⟩) (fun z29 => by
          have hh := en_f z29 hh
          have hh : pm_run PT n fr lo 263 (97, [some (.ref 162), some (.int t1), some (.int (nI m2)), some (.int x3), some (.int (nI i)), some (.int (nI (dN ((v262 q cc gc ((v262 q cc gc h 3).2) gc).1)))), none], [.int x3], (v217t q cc gc ((v262 q cc gc ((v262 q cc gc ((v262 q cc gc h 3).2) gc).2) cc).2) (dN ((v262 q cc gc ((v262 q cc gc h 3).2) gc).1)) (dN ((v262 q cc gc ((v262 q cc gc ((v262 q cc gc h 3).2) gc).2) cc).1))).2, 198, sl) = some R := hh
          obtain ⟨n, hh⟩ := rn_i rfl rfl rfl rfl hh
          obtain ⟨n, hh⟩ := rn_i rfl rfl rfl rfl hh
          exact ⟨n, hh⟩)
      obtain ⟨n, hh⟩ := hj30
      rw [show (cond (pm_cmp .lt ((v217t q cc gc ((v262 q cc gc ((v262 q cc gc ((v262 q cc gc h 3).2) gc).2) cc).2) (dN ((v262 q cc gc ((v262 q cc gc h 3).2) gc).1)) (dN ((v262 q cc gc ((v262 q cc gc ((v262 q cc gc h 3).2) gc).2) cc).1))).1) 0) (102, [some (.ref 162), some (.int t1), some (.int (nI m2)), some (.int x3), some (.int (nI i)), some (.int (nI (dN ((v262 q cc gc ((v262 q cc gc h 3).2) gc).1)))), none], [.int (nI 0), .int x3], (v217t q cc gc ((v262 q cc gc ((v262 q cc gc ((v262 q cc gc h 3).2) gc).2) cc).2) (dN ((v262 q cc gc ((v262 q cc gc h 3).2) gc).1)) (dN ((v262 q cc gc ((v262 q cc gc ((v262 q cc gc h 3).2) gc).2) cc).1))).2, 198, sl) (102, [some (.ref 162), some (.int t1), some (.int (nI m2)), some (.int x3), some (.int (nI i)), some (.int (nI (dN ((v262 q cc gc ((v262 q cc gc h 3).2) gc).1)))), none], [.int (nI 1), .int x3], (v217t q cc gc ((v262 q cc gc ((v262 q cc gc ((v262 q cc gc h 3).2) gc).2) cc).2) (dN ((v262 q cc gc ((v262 q cc gc h 3).2) gc).1)) (dN ((v262 q cc gc ((v262 q cc gc ((v262 q cc gc h 3).2) gc).2) cc).1))).2, 198, sl) : pm_St) = (102, [some (.ref 162), some (.int t1), some (.int (nI m2)), some (.int x3), some (.int (nI i)), some (.int (nI (dN ((v262 q cc gc ((v262 q cc gc h 3).2) gc).1)))), none], [.int (cond (cond (pm_cmp .lt ((v217t q cc gc ((v262 q cc gc ((v262 q cc gc ((v262 q cc gc h 3).2) gc).2) cc).2) (dN ((v262 q cc gc ((v262 q cc gc h 3).2) gc).1)) (dN ((v262 q cc gc ((v262 q cc gc ((v262 q cc gc h 3).2) gc).2) cc).1))).1) 0) false true) 1 0), .int x3], (v217t q cc gc ((v262 q cc gc ((v262 q cc gc ((v262 q cc gc h 3).2) gc).2) cc).2) (dN ((v262 q cc gc ((v262 q cc gc h 3).2) gc).1)) (dN ((v262 q cc gc ((v262 q cc gc ((v262 q cc gc h 3).2) gc).2) cc).1))).2, 198, sl) from by cases (pm_cmp .lt ((v217t q cc gc ((v262 q cc gc ((v262 q cc gc ((v262 q cc gc h 3).2) gc).2) cc).2) (dN ((v262 q cc gc ((v262 q cc gc h 3).2) gc).1)) (dN ((v262 q cc gc ((v262 q cc gc ((v262 q cc gc h 3).2) gc).2) cc).1))).1) 0) <;> rfl] at hh
      have hh : pm_run PT n fr lo 263 (102, [some (.ref 162), some (.int t1), some (.int (nI m2)), some (.int x3), some (.int (nI i)), some (.int (nI (dN ((v262 q cc gc ((v262 q cc gc h 3).2) gc).1)))), none], [.int (cond (cond (pm_cmp .lt ((v217t q cc gc ((v262 q cc gc ((v262 q cc gc ((v262 q cc gc h 3).2) gc).2) cc).2) (dN ((v262 q cc gc ((v262 q cc gc h 3).2) gc).1)) (dN ((v262 q cc gc ((v262 q cc gc ((v262 q cc gc h 3).2) gc).2) cc).1))).1) 0) false true) 1 0), .int x3], (v217t q cc gc ((v262 q cc gc ((v262 q cc gc ((v262 q cc gc h 3).2) gc).2) cc).2) (dN ((v262 q cc gc ((v262 q cc gc h 3).2) gc).1)) (dN ((v262 q cc gc ((v262 q cc gc ((v262 q cc gc h 3).2) gc).2) cc).1))).2, 198, sl) = some R := hh
      obtain ⟨n, fr1, lo1, r1, hh1, hh⟩ := rn_call (w := 2) (t := 165) rfl rfl hh
      have er31 := rn_dt (F := 10) (Lo := 1000) (hd_flag (fr := 10) (lo := 1000) (h := (v217t q cc gc ((v262 q cc gc ((v262 q cc gc ((v262 q cc gc h 3).2) gc).2) cc).2) (dN ((v262 q cc gc ((v262 q cc gc h 3).2) gc).1)) (dN ((v262 q cc gc ((v262 q cc gc ((v262 q cc gc h 3).2) gc).2) cc).1))).2) (sl := sl) (cond (pm_cmp .lt ((v217t q cc gc ((v262 q cc gc ((v262 q cc gc ((v262 q cc gc h 3).2) gc).2) cc).2) (dN ((v262 q cc gc ((v262 q cc gc h 3).2) gc).1)) (dN ((v262 q cc gc ((v262 q cc gc ((v262 q cc gc h 3).2) gc).2) cc).1))).1) 0) false true)) hh1
      subst er31
      obtain ⟨n, hh⟩ := rn_i rfl rfl rfl rfl hh
      obtain ⟨n, hh⟩ := rn_i rfl rfl rfl rfl hh
      have hh : pm_run PT n fr lo 263 (107, [some (.ref 162), some (.int t1), some (.int (nI m2)), some (.int (x3 + (cond (cond (pm_cmp .lt ((v217t q cc gc ((v262 q cc gc ((v262 q cc gc ((v262 q cc gc h 3).2) gc).2) cc).2) (dN ((v262 q cc gc ((v262 q cc gc h 3).2) gc).1)) (dN ((v262 q cc gc ((v262 q cc gc ((v262 q cc gc h 3).2) gc).2) cc).1))).1) 0) false true) 1 0))), some (.int (nI i)), some (.int (nI (dN ((v262 q cc gc ((v262 q cc gc h 3).2) gc).1)))), none], [], (v217t q cc gc ((v262 q cc gc ((v262 q cc gc ((v262 q cc gc h 3).2) gc).2) cc).2) (dN ((v262 q cc gc ((v262 q cc gc h 3).2) gc).1)) (dN ((v262 q cc gc ((v262 q cc gc ((v262 q cc gc h 3).2) gc).2) cc).1))).2, 198, sl) = some R := hh
      obtain ⟨n, hh⟩ := en_inc (x := i) (c := 1) (j := 4) rfl rfl (by decide) hh
      have hh : pm_run PT n fr lo 263 (110, [some (.ref 162), some (.int t1), some (.int (nI m2)), some (.int (x3 + (cond (cond (pm_cmp .lt ((v217t q cc gc ((v262 q cc gc ((v262 q cc gc ((v262 q cc gc h 3).2) gc).2) cc).2) (dN ((v262 q cc gc ((v262 q cc gc h 3).2) gc).1)) (dN ((v262 q cc gc ((v262 q cc gc ((v262 q cc gc h 3).2) gc).2) cc).1))).1) 0) false true) 1 0))), some (.int (nI (i + 1))), some (.int (nI (dN ((v262 q cc gc ((v262 q cc gc h 3).2) gc).1)))), none], [], (v217t q cc gc ((v262 q cc gc ((v262 q cc gc ((v262 q cc gc h 3).2) gc).2) cc).2) (dN ((v262 q cc gc ((v262 q cc gc h 3).2) gc).1)) (dN ((v262 q cc gc ((v262 q cc gc ((v262 q cc gc h 3).2) gc).2) cc).1))).2, 198, sl) = some R := hh
      obtain ⟨n, hh⟩ := rn_i rfl rfl rfl rfl hh
      have ed : v263_33b q cc gc h t1 m2 i x3 = (x3 + (cond (cond (pm_cmp .lt ((v217t q cc gc ((v262 q cc gc ((v262 q cc gc ((v262 q cc gc h 3).2) gc).2) cc).2) (dN ((v262 q cc gc ((v262 q cc gc h 3).2) gc).1)) (dN ((v262 q cc gc ((v262 q cc gc ((v262 q cc gc h 3).2) gc).2) cc).1))).1) 0) false true) 1 0), (v217t q cc gc ((v262 q cc gc ((v262 q cc gc ((v262 q cc gc h 3).2) gc).2) cc).2) (dN ((v262 q cc gc ((v262 q cc gc h 3).2) gc).1)) (dN ((v262 q cc gc ((v262 q cc gc ((v262 q cc gc h 3).2) gc).2) cc).1))).2) := (ct z11).trans ((cf z13).trans rfl)
      rw [ed]
      rw [p2s, p1s]
      exact ⟨n, some (.int (nI (dN ((v262 q cc gc ((v262 q cc gc h 3).2) gc).1)))), hc27, (fr_g rfl rfl hf28 (fr_g rfl rfl hf23 (fr_g rfl rfl hf18 (fr_g rfl rfl hf8 fr_0)))), (v217t_na hc22 (NA_e ((Ar_e (hf23.1 171 rfl)).trans ((Ar_e (hf18.1 171 rfl)).trans ((Ar_e (hf8.1 171 rfl)).trans rfl))) hol)), hh⟩
  | false =>
    have hh := en_f z11 hh
    have hh : pm_run PT n fr lo 263 (47, [some (.ref 162), some (.int t1), some (.int (nI m2)), some (.int x3), some (.int (nI i)), o5, none], [], (v262 q cc gc h 3).2, 198, sl) = some R := hh
    have y32 := of_decide_eq_false z11
    obtain ⟨n, hh⟩ := rn_i rfl rfl rfl rfl hh
    obtain ⟨n, hh⟩ := rn_i rfl rfl rfl rfl hh
    have hh : pm_run PT n fr lo 263 (49, [some (.ref 162), some (.int t1), some (.int (nI m2)), some (.int x3), some (.int (nI i)), o5, none], [.ref 162, .ref 162], (v262 q cc gc h 3).2, 198, sl) = some R := hh
    obtain ⟨n, hh⟩ := rn_gr hc7.wt rfl rfl (by decide) rfl (by decide) (show _ = some (2, ((171 : Nat) : Int), 1) from rfl) rfl hh
    have hh : pm_run PT n fr lo 263 (52, [some (.ref 162), some (.int t1), some (.int (nI m2)), some (.int x3), some (.int (nI i)), o5, none], [.ref 171, .ref 162], (v262 q cc gc h 3).2, 198, sl) = some R := hh
    obtain ⟨n, fr1, lo1, r1, hh1, hh⟩ := rn_call (w := 0) (t := 219) rfl rfl hh
    obtain ⟨er33, hc34, hf35⟩ := v219t_ok hc7 hh1
    subst er33
    obtain ⟨n, hh⟩ := rn_i rfl rfl rfl rfl hh
    have hh : pm_run PT n fr lo 263 (107, [some (.ref 162), some (.int t1), some (.int (nI m2)), some (.int x3), some (.int (nI i)), o5, none], [], v219t q cc gc ((v262 q cc gc h 3).2), 198, sl) = some R := hh
    obtain ⟨n, hh⟩ := en_inc (x := i) (c := 1) (j := 4) rfl rfl (by decide) hh
    have hh : pm_run PT n fr lo 263 (110, [some (.ref 162), some (.int t1), some (.int (nI m2)), some (.int x3), some (.int (nI (i + 1))), o5, none], [], v219t q cc gc ((v262 q cc gc h 3).2), 198, sl) = some R := hh
    obtain ⟨n, hh⟩ := rn_i rfl rfl rfl rfl hh
    have ed : v263_33b q cc gc h t1 m2 i x3 = (x3, v219t q cc gc ((v262 q cc gc h 3).2)) := (cf z11).trans rfl
    rw [ed]
    rw [p2s, p1s]
    exact ⟨n, o5, hc34, (fr_g rfl rfl hf35 (fr_g rfl rfl hf8 fr_0)), (v219t_na hc7 (NA_e ((Ar_e (hf8.1 171 rfl)).trans rfl) hol)), hh⟩
theorem v263_33_ok {fr lo sl cc gc : Nat} {q : QT} {R : pm_Rs} {t1 : Int32} {m2 : Nat} : ∀ {j i : Nat} {x3 : Int32} {o5 : Option Value} {h : pm_H} {n : Nat}, m2 - i = j → i + j < 1000000 → HC q cc gc h → m2 < 10000 → (0 < gc → 0 < cc) → NA h 171 78 86 6 → pm_run PT n fr lo 263 (33, [some (.ref 162), some (.int t1), some (.int (nI m2)), some (.int x3), some (.int (nI i)), o5, none], [], h, 198, sl) = some R → ∃ m wc w5, HC q cc gc ((v263_33 q cc gc t1 m2 j i (x3, h)).2) ∧ frm [162, 171, 176, 177] [(162, 29), (162, 30), (162, 51)] h ((v263_33 q cc gc t1 m2 j i (x3, h)).2) ∧ NA ((v263_33 q cc gc t1 m2 j i (x3, h)).2) 171 78 86 6 ∧ pm_run PT m fr lo 263 (113, [some (.ref 162), some (.int t1), some (.int (nI m2)), some (.int ((v263_33 q cc gc t1 m2 j i (x3, h)).1)), wc, w5, none], [], (v263_33 q cc gc t1 m2 j i (x3, h)).2, 198, sl) = some R := by
  intro j
  induction j with
  | zero =>
    intro i x3 o5 h n e eI hw h_m2 hg0 hol hh
    obtain ⟨n, hh⟩ := v263_33_e hw h_m2 hg0 hol (by omega) (by omega) hh
    exact ⟨n, _, o5, hw, fr_0, hol, hh⟩
  | succ j ih =>
    intro i x3 o5 h n e eI hw h_m2 hg0 hol hh
    obtain ⟨n, w5, hc, hf, hol', hh⟩ := v263_33_s hw h_m2 hg0 hol (by omega) (by omega) hh
    have eL : v263_33 q cc gc t1 m2 (j + 1) i (x3, h) = v263_33 q cc gc t1 m2 j (i + 1) (v263_33b q cc gc h t1 m2 i x3) := by
      unfold v263_33
      exact lp_s
    rw [eL]
    generalize v263_33b q cc gc h t1 m2 i x3 = X at *
    obtain ⟨X0, X1⟩ := X
    obtain ⟨n, wc, v5, hc2, hf2, hol'', hh⟩ := ih (by omega) (by omega) hc h_m2 hg0 hol' hh
    exact ⟨n, wc, v5, hc2, fr_t hf2 hf, hol'', hh⟩
def v263_131b (q : QT) (cc gc : Nat) (d0 : Nat → Int32) (t1 : Int32) (m2 : Nat) (t3 : Int32) (m5 : Nat) (i : Nat) (x4 : Int32) : Int32 := x4 + (cond (decide (¬ m5 = i)) ((d0) (6 + 6 * m5 + i)) (nI 0))
def v263_131 (q : QT) (cc gc : Nat) (d0 : Nat → Int32) (t1 : Int32) (m2 : Nat) (t3 : Int32) (m5 : Nat) (j i : Nat) (a : Int32) : Int32 := lp (fun i a => v263_131b q cc gc d0 t1 m2 t3 m5 i a) j i a
theorem v263_131_e {n fr lo sl cc gc : Nat} {q : QT} {h : pm_H} {R : pm_Rs} {t1 : Int32} {m2 : Nat} {t3 : Int32} {m5 : Nat} {i : Nat} {x4 : Int32} (hw : HC q cc gc h) (h_m2 : m2 < 10000) (h_m5 : m5 < 10000) (hg0 : 0 < gc → 0 < cc) (hol : NA h 171 78 86 6) (hi : cc ≤ i) (hI : i < 1000000) (hh : pm_run PT n fr lo 263 (131, [some (.ref 162), some (.int t1), some (.int (nI m2)), some (.int t3), some (.int x4), some (.int (nI m5)), some (.int (nI i))], [], h, 198, sl) = some R) : ∃ m, pm_run PT m fr lo 263 (173, [some (.ref 162), some (.int t1), some (.int (nI m2)), some (.int t3), some (.int x4), some (.int (nI m5)), some (.int (nI i))], [], h, 198, sl) = some R := by
  have hcc := hw.cb
  have hgc := hw.gb
  have hzr := hw.zr
  obtain ⟨n, hh⟩ := rn_i rfl rfl rfl rfl hh
  obtain ⟨n, hh⟩ := rn_i rfl rfl rfl rfl hh
  have hh : pm_run PT n fr lo 263 (134, [some (.ref 162), some (.int t1), some (.int (nI m2)), some (.int t3), some (.int x4), some (.int (nI m5)), some (.int (nI i))], [.ref 162, .int (nI i)], h, 198, sl) = some R := hh
  obtain ⟨n, hh⟩ := rn_gi (x := nI cc) hw.wt rfl rfl (by decide) rfl (by decide) rfl hw.m3 hh
  have hh : pm_run PT n fr lo 263 (137, [some (.ref 162), some (.int t1), some (.int (nI m2)), some (.int t3), some (.int x4), some (.int (nI m5)), some (.int (nI i))], [.int (nI cc), .int (nI i)], h, 198, sl) = some R := hh
  obtain ⟨n, hh⟩ := en_cn (cc := .ge) (off := 36) (t := 173) (b := decide (cc ≤ i)) (hI_ge (by omega) (by omega)) rfl rfl hh
  have hh := en_t (show decide (cc ≤ i) = true from decide_eq_true (by omega)) hh
  have hh : pm_run PT n fr lo 263 (173, [some (.ref 162), some (.int t1), some (.int (nI m2)), some (.int t3), some (.int x4), some (.int (nI m5)), some (.int (nI i))], [], h, 198, sl) = some R := hh
  exact ⟨n, hh⟩
theorem v263_131_s {n fr lo sl cc gc : Nat} {q : QT} {h : pm_H} {R : pm_Rs} {t1 : Int32} {m2 : Nat} {t3 : Int32} {m5 : Nat} {i : Nat} {x4 : Int32} (hw : HC q cc gc h) (h_m2 : m2 < 10000) (h_m5 : m5 < 10000) (hg0 : 0 < gc → 0 < cc) (hol : NA h 171 78 86 6) (hi : i < cc) (hI : i < 1000000) (hh : pm_run PT n fr lo 263 (131, [some (.ref 162), some (.int t1), some (.int (nI m2)), some (.int t3), some (.int x4), some (.int (nI m5)), some (.int (nI i))], [], h, 198, sl) = some R) : ∃ m, pm_run PT m fr lo 263 (131, [some (.ref 162), some (.int t1), some (.int (nI m2)), some (.int t3), some (.int (v263_131b q cc gc (Ar h 171) t1 m2 t3 m5 i x4)), some (.int (nI m5)), some (.int (nI (i + 1)))], [], h, 198, sl) = some R := by
  have hcc := hw.cb
  have hgc := hw.gb
  have hzr := hw.zr
  obtain ⟨n, hh⟩ := rn_i rfl rfl rfl rfl hh
  obtain ⟨n, hh⟩ := rn_i rfl rfl rfl rfl hh
  have hh : pm_run PT n fr lo 263 (134, [some (.ref 162), some (.int t1), some (.int (nI m2)), some (.int t3), some (.int x4), some (.int (nI m5)), some (.int (nI i))], [.ref 162, .int (nI i)], h, 198, sl) = some R := hh
  obtain ⟨n, hh⟩ := rn_gi (x := nI cc) hw.wt rfl rfl (by decide) rfl (by decide) rfl hw.m3 hh
  have hh : pm_run PT n fr lo 263 (137, [some (.ref 162), some (.int t1), some (.int (nI m2)), some (.int t3), some (.int x4), some (.int (nI m5)), some (.int (nI i))], [.int (nI cc), .int (nI i)], h, 198, sl) = some R := hh
  obtain ⟨n, hh⟩ := en_cn (cc := .ge) (off := 36) (t := 173) (b := decide (cc ≤ i)) (hI_ge (by omega) (by omega)) rfl rfl hh
  have hh := en_f (show decide (cc ≤ i) = false from decide_eq_false (by omega)) hh
  have hh : pm_run PT n fr lo 263 (140, [some (.ref 162), some (.int t1), some (.int (nI m2)), some (.int t3), some (.int x4), some (.int (nI m5)), some (.int (nI i))], [], h, 198, sl) = some R := hh
  obtain ⟨n, hh⟩ := rn_i rfl rfl rfl rfl hh
  obtain ⟨n, hh⟩ := rn_i rfl rfl rfl rfl hh
  obtain ⟨n, hh⟩ := rn_i rfl rfl rfl rfl hh
  have hh : pm_run PT n fr lo 263 (146, [some (.ref 162), some (.int t1), some (.int (nI m2)), some (.int t3), some (.int x4), some (.int (nI m5)), some (.int (nI i))], [.int (nI i), .int (nI m5), .int x4], h, 198, sl) = some R := hh
  obtain ⟨n, hh⟩ := en_cn (cc := .ne) (off := 7) (t := 153) (b := decide (¬ m5 = i)) (hI_ne (by omega) (by omega)) rfl rfl hh
  have hj14 : ∃ mJ, pm_run PT mJ fr lo 263 (cond (decide (¬ m5 = i)) (164, [some (.ref 162), some (.int t1), some (.int (nI m2)), some (.int t3), some (.int x4), some (.int (nI m5)), some (.int (nI i))], [.int ((Ar h 171) (6 + 6 * m5 + i)), .int x4], h, 198, sl) (164, [some (.ref 162), some (.int t1), some (.int (nI m2)), some (.int t3), some (.int x4), some (.int (nI m5)), some (.int (nI i))], [.int (nI 0), .int x4], h, 198, sl)) = some R := en_J (fun z11 => by
      have hh := en_t z11 hh
      have hh : pm_run PT n fr lo 263 (153, [some (.ref 162), some (.int t1), some (.int (nI m2)), some (.int t3), some (.int x4), some (.int (nI m5)), some (.int (nI i))], [.int x4], h, 198, sl) = some R := hh
      have y_z11 := of_decide_eq_true z11
      obtain ⟨n, hh⟩ := rn_i rfl rfl rfl rfl hh
      have hh : pm_run PT n fr lo 263 (154, [some (.ref 162), some (.int t1), some (.int (nI m2)), some (.int t3), some (.int x4), some (.int (nI m5)), some (.int (nI i))], [.ref 162, .int x4], h, 198, sl) = some R := hh
      obtain ⟨n, hh⟩ := rn_gr hw.wt rfl rfl (by decide) rfl (by decide) (show _ = some (2, ((171 : Nat) : Int), 1) from rfl) rfl hh
      obtain ⟨n, hh⟩ := rn_i rfl rfl rfl rfl hh
      obtain ⟨n, hh⟩ := rn_i rfl rfl rfl rfl hh
      have hh : pm_run PT n fr lo 263 (161, [some (.ref 162), some (.int t1), some (.int (nI m2)), some (.int t3), some (.int x4), some (.int (nI m5)), some (.int (nI i))], [.int (nI i), .int (nI m5), .ref 171, .int x4], h, 198, sl) = some R := hh
      obtain ⟨n, fr1, lo1, r1, hh1, hh⟩ := rn_call (w := 2) (t := 171) rfl rfl hh
      have hh1 : pm_run PT n fr1 lo1 171 (0, [some (.ref 171), some (.int (nI m5)), some (.int (nI i))], [], h, 198, sl) = some r1 := hh1
      obtain ⟨n1, hh1⟩ := rn_i rfl rfl rfl rfl hh1
      obtain ⟨n1, hh1⟩ := rn_i rfl rfl rfl rfl hh1
      obtain ⟨n1, hh1⟩ := rn_i rfl rfl rfl rfl hh1
      obtain ⟨n1, hh1⟩ := rn_i rfl rfl rfl rfl hh1
      have hh1 : pm_run PT n1 fr1 lo1 171 (6, [some (.ref 171), some (.int (nI m5)), some (.int (nI i))], [.int (nI m5), .int (nI 6), .int (nI 6), .ref 171], h, 198, sl) = some r1 := hh1
      obtain ⟨n1, hh1⟩ := en_mul rfl hh1
      have hh1 : pm_run PT n1 fr1 lo1 171 (7, [some (.ref 171), some (.int (nI m5)), some (.int (nI i))], [.int (nI (6 * m5)), .int (nI 6), .ref 171], h, 198, sl) = some r1 := hh1
      have hh1 : pm_run PT n1 fr1 lo1 171 (7, [some (.ref 171), some (.int (nI m5)), some (.int (nI i))], [.int (nI (6 * m5)), .int (nI 6), .ref 171], h, 198, sl) = some r1 := hh1
      obtain ⟨n1, hh1⟩ := en_add rfl hh1
      have hh1 : pm_run PT n1 fr1 lo1 171 (8, [some (.ref 171), some (.int (nI m5)), some (.int (nI i))], [.int (nI (6 + 6 * m5)), .ref 171], h, 198, sl) = some r1 := hh1
      obtain ⟨n1, hh1⟩ := rn_i rfl rfl rfl rfl hh1
      have hh1 : pm_run PT n1 fr1 lo1 171 (9, [some (.ref 171), some (.int (nI m5)), some (.int (nI i))], [.int (nI i), .int (nI (6 + 6 * m5)), .ref 171], h, 198, sl) = some r1 := hh1
      obtain ⟨n1, hh1⟩ := en_add rfl hh1
      have hh1 : pm_run PT n1 fr1 lo1 171 (10, [some (.ref 171), some (.int (nI m5)), some (.int (nI i))], [.int (nI (6 + 6 * m5 + i)), .ref 171], h, 198, sl) = some r1 := hh1
      have hh1 : pm_run PT n1 fr1 lo1 171 (10, [some (.ref 171), some (.int (nI m5)), some (.int (nI i))], [.int (nI (6 + 6 * m5 + i)), .ref 171], h, 198, sl) = some r1 := hh1
      obtain ⟨n1, hx12, hh1⟩ := en_lu (t := 6 + 6 * m5 + i) (f := Ar h 171) (w := (Ar h 171) (6 + 6 * m5 + i)) (nI_clamp (by omega)) hw.wt rfl (by decide) rfl (by decide) rfl (fun _ => rfl) hh1
      have hh1 : pm_run PT n1 fr1 lo1 171 (11, [some (.ref 171), some (.int (nI m5)), some (.int (nI i))], [.int ((Ar h 171) (6 + 6 * m5 + i))], h, 198, sl) = some r1 := hh1
      have er13 : r1 = (some (.int ((Ar h 171) (6 + 6 * m5 + i))), h, 198, sl) := (rn_ret rfl (Or.inl rfl) hh1).2
      subst er13
      exact ⟨n, hh⟩) (fun z11 => by
      have hh := en_f z11 hh
      have hh : pm_run PT n fr lo 263 (149, [some (.ref 162), some (.int t1), some (.int (nI m2)), some (.int t3), some (.int x4), some (.int (nI m5)), some (.int (nI i))], [.int x4], h, 198, sl) = some R := hh
      have y_z11 := of_decide_eq_false z11
      obtain ⟨n, hh⟩ := rn_i rfl rfl rfl rfl hh
      obtain ⟨n, hh⟩ := rn_i rfl rfl rfl rfl hh
      exact ⟨n, hh⟩)
  obtain ⟨n, hh⟩ := hj14
  rw [show (cond (decide (¬ m5 = i)) (164, [some (.ref 162), some (.int t1), some (.int (nI m2)), some (.int t3), some (.int x4), some (.int (nI m5)), some (.int (nI i))], [.int ((Ar h 171) (6 + 6 * m5 + i)), .int x4], h, 198, sl) (164, [some (.ref 162), some (.int t1), some (.int (nI m2)), some (.int t3), some (.int x4), some (.int (nI m5)), some (.int (nI i))], [.int (nI 0), .int x4], h, 198, sl) : pm_St) = (164, [some (.ref 162), some (.int t1), some (.int (nI m2)), some (.int t3), some (.int x4), some (.int (nI m5)), some (.int (nI i))], [.int (cond (decide (¬ m5 = i)) ((Ar h 171) (6 + 6 * m5 + i)) (nI 0)), .int x4], h, 198, sl) from by cases (decide (¬ m5 = i)) <;> rfl] at hh
  obtain ⟨n, hh⟩ := rn_i rfl rfl rfl rfl hh
  obtain ⟨n, hh⟩ := rn_i rfl rfl rfl rfl hh
  have hh : pm_run PT n fr lo 263 (167, [some (.ref 162), some (.int t1), some (.int (nI m2)), some (.int t3), some (.int (x4 + (cond (decide (¬ m5 = i)) ((Ar h 171) (6 + 6 * m5 + i)) (nI 0)))), some (.int (nI m5)), some (.int (nI i))], [], h, 198, sl) = some R := hh
  obtain ⟨n, hh⟩ := en_inc (x := i) (c := 1) (j := 6) rfl rfl (by decide) hh
  have hh : pm_run PT n fr lo 263 (170, [some (.ref 162), some (.int t1), some (.int (nI m2)), some (.int t3), some (.int (x4 + (cond (decide (¬ m5 = i)) ((Ar h 171) (6 + 6 * m5 + i)) (nI 0)))), some (.int (nI m5)), some (.int (nI (i + 1)))], [], h, 198, sl) = some R := hh
  obtain ⟨n, hh⟩ := rn_i rfl rfl rfl rfl hh
  have ed : v263_131b q cc gc (Ar h 171) t1 m2 t3 m5 i x4 = x4 + (cond (decide (¬ m5 = i)) ((Ar h 171) (6 + 6 * m5 + i)) (nI 0)) := rfl
  rw [ed]
  exact ⟨n, hh⟩
theorem v263_131_ok {fr lo sl cc gc : Nat} {q : QT} {R : pm_Rs} {t1 : Int32} {m2 : Nat} {t3 : Int32} {m5 : Nat} : ∀ {j i : Nat} {x4 : Int32} {h : pm_H} {n : Nat}, cc - i = j → i + j < 1000000 → HC q cc gc h → m2 < 10000 → m5 < 10000 → (0 < gc → 0 < cc) → NA h 171 78 86 6 → pm_run PT n fr lo 263 (131, [some (.ref 162), some (.int t1), some (.int (nI m2)), some (.int t3), some (.int x4), some (.int (nI m5)), some (.int (nI i))], [], h, 198, sl) = some R → ∃ m wc, pm_run PT m fr lo 263 (173, [some (.ref 162), some (.int t1), some (.int (nI m2)), some (.int t3), some (.int (v263_131 q cc gc (Ar h 171) t1 m2 t3 m5 j i x4)), some (.int (nI m5)), wc], [], h, 198, sl) = some R := by
  intro j
  induction j with
  | zero =>
    intro i x4 h n e eI hw h_m2 h_m5 hg0 hol hh
    obtain ⟨n, hh⟩ := v263_131_e hw h_m2 h_m5 hg0 hol (by omega) (by omega) hh
    exact ⟨n, _, hh⟩
  | succ j ih =>
    intro i x4 h n e eI hw h_m2 h_m5 hg0 hol hh
    obtain ⟨n, hh⟩ := v263_131_s hw h_m2 h_m5 hg0 hol (by omega) (by omega) hh
    obtain ⟨n, wc, hh⟩ := ih (by omega) (by omega) hw h_m2 h_m5 hg0 hol hh
    exact ⟨n, wc, hh⟩
def v263_119b (q : QT) (cc gc : Nat) (d0 : Nat → Int32) (t1 : Int32) (m2 : Nat) (t3 : Int32) (i : Nat) (x4 : Int32) : Int32 := (v263_131 q cc gc (d0) t1 m2 t3 i cc 0 x4)
def v263_119 (q : QT) (cc gc : Nat) (d0 : Nat → Int32) (t1 : Int32) (m2 : Nat) (t3 : Int32) (j i : Nat) (a : Int32) : Int32 := lp (fun i a => v263_119b q cc gc d0 t1 m2 t3 i a) j i a
theorem v263_119_e {n fr lo sl cc gc : Nat} {q : QT} {h : pm_H} {R : pm_Rs} {t1 : Int32} {m2 : Nat} {t3 : Int32} {i : Nat} {x4 : Int32} {o6 : Option Value} (hw : HC q cc gc h) (h_m2 : m2 < 10000) (hg0 : 0 < gc → 0 < cc) (hol : NA h 171 78 86 6) (hi : cc ≤ i) (hI : i < 1000000) (hh : pm_run PT n fr lo 263 (119, [some (.ref 162), some (.int t1), some (.int (nI m2)), some (.int t3), some (.int x4), some (.int (nI i)), o6], [], h, 198, sl) = some R) : ∃ m, pm_run PT m fr lo 263 (179, [some (.ref 162), some (.int t1), some (.int (nI m2)), some (.int t3), some (.int x4), some (.int (nI i)), o6], [], h, 198, sl) = some R := by
  have hcc := hw.cb
  have hgc := hw.gb
  have hzr := hw.zr
  obtain ⟨n, hh⟩ := rn_i rfl rfl rfl rfl hh
  obtain ⟨n, hh⟩ := rn_i rfl rfl rfl rfl hh
  have hh : pm_run PT n fr lo 263 (122, [some (.ref 162), some (.int t1), some (.int (nI m2)), some (.int t3), some (.int x4), some (.int (nI i)), o6], [.ref 162, .int (nI i)], h, 198, sl) = some R := hh
  obtain ⟨n, hh⟩ := rn_gi (x := nI cc) hw.wt rfl rfl (by decide) rfl (by decide) rfl hw.m3 hh
  have hh : pm_run PT n fr lo 263 (125, [some (.ref 162), some (.int t1), some (.int (nI m2)), some (.int t3), some (.int x4), some (.int (nI i)), o6], [.int (nI cc), .int (nI i)], h, 198, sl) = some R := hh
  obtain ⟨n, hh⟩ := en_cn (cc := .ge) (off := 54) (t := 179) (b := decide (cc ≤ i)) (hI_ge (by omega) (by omega)) rfl rfl hh
  have hh := en_t (show decide (cc ≤ i) = true from decide_eq_true (by omega)) hh
  have hh : pm_run PT n fr lo 263 (179, [some (.ref 162), some (.int t1), some (.int (nI m2)), some (.int t3), some (.int x4), some (.int (nI i)), o6], [], h, 198, sl) = some R := hh
  exact ⟨n, hh⟩
theorem v263_119_s {n fr lo sl cc gc : Nat} {q : QT} {h : pm_H} {R : pm_Rs} {t1 : Int32} {m2 : Nat} {t3 : Int32} {i : Nat} {x4 : Int32} {o6 : Option Value} (hw : HC q cc gc h) (h_m2 : m2 < 10000) (hg0 : 0 < gc → 0 < cc) (hol : NA h 171 78 86 6) (hi : i < cc) (hI : i < 1000000) (hh : pm_run PT n fr lo 263 (119, [some (.ref 162), some (.int t1), some (.int (nI m2)), some (.int t3), some (.int x4), some (.int (nI i)), o6], [], h, 198, sl) = some R) : ∃ m w6, pm_run PT m fr lo 263 (119, [some (.ref 162), some (.int t1), some (.int (nI m2)), some (.int t3), some (.int (v263_119b q cc gc (Ar h 171) t1 m2 t3 i x4)), some (.int (nI (i + 1))), w6], [], h, 198, sl) = some R := by
  have hcc := hw.cb
  have hgc := hw.gb
  have hzr := hw.zr
  obtain ⟨n, hh⟩ := rn_i rfl rfl rfl rfl hh
  obtain ⟨n, hh⟩ := rn_i rfl rfl rfl rfl hh
  have hh : pm_run PT n fr lo 263 (122, [some (.ref 162), some (.int t1), some (.int (nI m2)), some (.int t3), some (.int x4), some (.int (nI i)), o6], [.ref 162, .int (nI i)], h, 198, sl) = some R := hh
  obtain ⟨n, hh⟩ := rn_gi (x := nI cc) hw.wt rfl rfl (by decide) rfl (by decide) rfl hw.m3 hh
  have hh : pm_run PT n fr lo 263 (125, [some (.ref 162), some (.int t1), some (.int (nI m2)), some (.int t3), some (.int x4), some (.int (nI i)), o6], [.int (nI cc), .int (nI i)], h, 198, sl) = some R := hh
  obtain ⟨n, hh⟩ := en_cn (cc := .ge) (off := 54) (t := 179) (b := decide (cc ≤ i)) (hI_ge (by omega) (by omega)) rfl rfl hh
  have hh := en_f (show decide (cc ≤ i) = false from decide_eq_false (by omega)) hh
  have hh : pm_run PT n fr lo 263 (128, [some (.ref 162), some (.int t1), some (.int (nI m2)), some (.int t3), some (.int x4), some (.int (nI i)), o6], [], h, 198, sl) = some R := hh
  obtain ⟨n, hh⟩ := rn_i rfl rfl rfl rfl hh
  obtain ⟨n, hh⟩ := rn_i rfl rfl rfl rfl hh
  have hh : pm_run PT n fr lo 263 (131, [some (.ref 162), some (.int t1), some (.int (nI m2)), some (.int t3), some (.int x4), some (.int (nI i)), some (.int (nI 0))], [], h, 198, sl) = some R := hh
  obtain ⟨n, u11, hh⟩ := v263_131_ok (t1 := t1) (m2 := m2) (t3 := t3) (m5 := i)  (i := 0) (x4 := x4) (j := cc) (by omega) (by omega) hw (by omega) (by omega) hg0 hol hh
  have hh : pm_run PT n fr lo 263 (173, [some (.ref 162), some (.int t1), some (.int (nI m2)), some (.int t3), some (.int (v263_131 q cc gc (Ar h 171) t1 m2 t3 i cc 0 x4)), some (.int (nI i)), u11], [], h, 198, sl) = some R := hh
  have hh : pm_run PT n fr lo 263 (173, [some (.ref 162), some (.int t1), some (.int (nI m2)), some (.int t3), some (.int (v263_131 q cc gc (Ar h 171) t1 m2 t3 i cc 0 x4)), some (.int (nI i)), u11], [], h, 198, sl) = some R := hh
  obtain ⟨n, hh⟩ := en_inc (x := i) (c := 1) (j := 5) rfl rfl (by decide) hh
  have hh : pm_run PT n fr lo 263 (176, [some (.ref 162), some (.int t1), some (.int (nI m2)), some (.int t3), some (.int (v263_131 q cc gc (Ar h 171) t1 m2 t3 i cc 0 x4)), some (.int (nI (i + 1))), u11], [], h, 198, sl) = some R := hh
  obtain ⟨n, hh⟩ := rn_i rfl rfl rfl rfl hh
  have ed : v263_119b q cc gc (Ar h 171) t1 m2 t3 i x4 = (v263_131 q cc gc (Ar h 171) t1 m2 t3 i cc 0 x4) := rfl
  rw [ed]
  exact ⟨n, u11, hh⟩
theorem v263_119_ok {fr lo sl cc gc : Nat} {q : QT} {R : pm_Rs} {t1 : Int32} {m2 : Nat} {t3 : Int32} : ∀ {j i : Nat} {x4 : Int32} {o6 : Option Value} {h : pm_H} {n : Nat}, cc - i = j → i + j < 1000000 → HC q cc gc h → m2 < 10000 → (0 < gc → 0 < cc) → NA h 171 78 86 6 → pm_run PT n fr lo 263 (119, [some (.ref 162), some (.int t1), some (.int (nI m2)), some (.int t3), some (.int x4), some (.int (nI i)), o6], [], h, 198, sl) = some R → ∃ m wc w6, pm_run PT m fr lo 263 (179, [some (.ref 162), some (.int t1), some (.int (nI m2)), some (.int t3), some (.int (v263_119 q cc gc (Ar h 171) t1 m2 t3 j i x4)), wc, w6], [], h, 198, sl) = some R := by
  intro j
  induction j with
  | zero =>
    intro i x4 o6 h n e eI hw h_m2 hg0 hol hh
    obtain ⟨n, hh⟩ := v263_119_e hw h_m2 hg0 hol (by omega) (by omega) hh
    exact ⟨n, _, o6, hh⟩
  | succ j ih =>
    intro i x4 o6 h n e eI hw h_m2 hg0 hol hh
    obtain ⟨n, w6, hh⟩ := v263_119_s hw h_m2 hg0 hol (by omega) (by omega) hh
    obtain ⟨n, wc, v6, hh⟩ := ih (by omega) (by omega) hw h_m2 hg0 hol hh
    exact ⟨n, wc, v6, hh⟩
def v263 (q : QT) (cc gc : Nat) (h : pm_H) (r : Int32) (m : Nat) : Int32 × pm_H := cond (in_b ((nI m).toInt64) (Int64.ofNat 1) (60 : Int64)) ((v263_33 q cc gc r m m 0 ((nI 0), v229 q cc gc (fset (fset h 162 0 (.int (nI 0))) 162 51 (.int r)))).1, v167 q cc gc (v167 q cc gc (fset ((v263_33 q cc gc r m m 0 ((nI 0), v229 q cc gc (fset (fset h 162 0 (.int (nI 0))) 162 51 (.int r)))).2) 162 1 (.int (nI 0))) ((v270 q cc gc ((Ar ((v263_33 q cc gc r m m 0 ((nI 0), v229 q cc gc (fset (fset h 162 0 (.int (nI 0))) 162 51 (.int r)))).2) 171) 94)).toInt64)) (((v263_119 q cc gc (Ar ((v263_33 q cc gc r m m 0 ((nI 0), v229 q cc gc (fset (fset h 162 0 (.int (nI 0))) 162 51 (.int r)))).2) 171) r m ((v263_33 q cc gc r m m 0 ((nI 0), v229 q cc gc (fset (fset h 162 0 (.int (nI 0))) 162 51 (.int r)))).1) cc 0 (nI 0))).toInt64)) ((Int32.ofInt (-1)), fset h 162 0 (.int (nI 0)))
theorem v263_ok {n fr lo sl cc gc : Nat} {q : QT} {h : pm_H} {R : pm_Rs} {r : Int32} {m : Nat} (hw : HC q cc gc h) (h_m : m < 10000) (hg0 : 0 < gc → 0 < cc) (hol : NA h 170 78 86 6) (hh : pm_run PT n fr lo 263 (0, pm_l0 [.ref 162, .int r, .int (nI m)] 7, [], h, 198, sl) = some R) : R = (some (.int ((v263 q cc gc h r m).1)), (v263 q cc gc h r m).2, 198, sl) ∧ HC q cc gc ((v263 q cc gc h r m).2) ∧ frm [162, 163, 171, 176, 177] [(162, 0), (162, 1), (162, 29), (162, 30), (162, 51)] h ((v263 q cc gc h r m).2) := by
  have hcc := hw.cb
  have hgc := hw.gb
  have hzr := hw.zr
  obtain ⟨n, hh⟩ := rn_i rfl rfl rfl rfl hh
  obtain ⟨n, hh⟩ := rn_i rfl rfl rfl rfl hh
  have hh : pm_run PT n fr lo 263 (2, [some (.ref 162), some (.int r), some (.int (nI m)), none, none, none, none], [.int (nI 0), .ref 162], h, 198, sl) = some R := hh
  obtain ⟨n, hh⟩ := rn_pi hw.wt rfl rfl (by decide) rfl (by decide) rfl hh
  obtain ⟨n, hh⟩ := rn_i rfl rfl rfl rfl hh
  obtain ⟨n, hh⟩ := rn_i rfl rfl rfl rfl hh
  obtain ⟨n, hh⟩ := rn_i rfl rfl rfl rfl hh
  obtain ⟨n, hh⟩ := rn_i rfl rfl rfl rfl hh
  have hh : pm_run PT n fr lo 263 (11, [some (.ref 162), some (.int r), some (.int (nI m)), none, none, none, none], [.long (60 : Int64), .long (Int64.ofNat 1), .long ((nI m).toInt64)], fset h 162 0 (.int (nI 0)), 198, sl) = some R := hh
  obtain ⟨n, fr1, lo1, r1, hh1, hh⟩ := rn_call (w := 2) (t := 163) rfl rfl hh
  have er1 := rn_dt (F := 10) (Lo := 1000) (hd_in (fr := 10) (lo := 1000) (h := fset h 162 0 (.int (nI 0))) (sl := sl) ((nI m).toInt64) (Int64.ofNat 1) (60 : Int64)) hh1
  subst er1
  have hh : pm_run PT n fr lo 263 (14, [some (.ref 162), some (.int r), some (.int (nI m)), none, none, none, none], [.int (cond (in_b ((nI m).toInt64) (Int64.ofNat 1) (60 : Int64)) 1 0)], fset h 162 0 (.int (nI 0)), 198, sl) = some R := hh
  obtain ⟨n, hh⟩ := en_zn (cc := .ne) (off := 5) (t := 19) (b := in_b ((nI m).toInt64) (Int64.ofNat 1) (60 : Int64)) eb_ne rfl rfl hh
  cases z2 : in_b ((nI m).toInt64) (Int64.ofNat 1) (60 : Int64) with
  | true =>
    have hh := en_t z2 hh
    have hh : pm_run PT n fr lo 263 (19, [some (.ref 162), some (.int r), some (.int (nI m)), none, none, none, none], [], fset h 162 0 (.int (nI 0)), 198, sl) = some R := hh
    obtain ⟨n, hh⟩ := rn_i rfl rfl rfl rfl hh
    obtain ⟨n, hh⟩ := rn_i rfl rfl rfl rfl hh
    have hh : pm_run PT n fr lo 263 (21, [some (.ref 162), some (.int r), some (.int (nI m)), none, none, none, none], [.int r, .ref 162], fset h 162 0 (.int (nI 0)), 198, sl) = some R := hh
    obtain ⟨n, hh⟩ := rn_pi (hc_f rfl rfl (by decide) rfl hw).wt rfl rfl (by decide) rfl (by decide) rfl hh
    obtain ⟨n, hh⟩ := rn_i rfl rfl rfl rfl hh
    have hh : pm_run PT n fr lo 263 (25, [some (.ref 162), some (.int r), some (.int (nI m)), none, none, none, none], [.ref 162], fset (fset h 162 0 (.int (nI 0))) 162 51 (.int r), 198, sl) = some R := hh
    obtain ⟨n, fr1, lo1, r1, hh1, hh⟩ := rn_call (w := 0) (t := 229) rfl rfl hh
    obtain ⟨er3, hc4, hf5⟩ := v229_ok (hc_f rfl rfl (by decide) rfl (hc_f rfl rfl (by decide) rfl hw)) hh1
    subst er3
    obtain ⟨n, hh⟩ := rn_i rfl rfl rfl rfl hh
    obtain ⟨n, hh⟩ := rn_i rfl rfl rfl rfl hh
    obtain ⟨n, hh⟩ := rn_i rfl rfl rfl rfl hh
    obtain ⟨n, hh⟩ := rn_i rfl rfl rfl rfl hh
    have hh : pm_run PT n fr lo 263 (33, [some (.ref 162), some (.int r), some (.int (nI m)), some (.int (nI 0)), some (.int (nI 0)), none, none], [], v229 q cc gc (fset (fset h 162 0 (.int (nI 0))) 162 51 (.int r)), 198, sl) = some R := hh
    obtain ⟨n, u7, u6, hc9, hf10, hn8, hh⟩ := v263_33_ok (t1 := r) (m2 := m)  (i := 0) (x3 := (nI 0)) (o5 := none) (j := m) (by omega) (by omega) hc4 (by omega) hg0 (v229_na (hc_f rfl rfl (by decide) rfl (hc_f rfl rfl (by decide) rfl hw)) (NA_e (Ar_f.trans (Ar_f.trans rfl)) hol)) hh
    have hh : pm_run PT n fr lo 263 (113, [some (.ref 162), some (.int r), some (.int (nI m)), some (.int ((v263_33 q cc gc r m m 0 ((nI 0), v229 q cc gc (fset (fset h 162 0 (.int (nI 0))) 162 51 (.int r)))).1)), u7, u6, none], [], (v263_33 q cc gc r m m 0 ((nI 0), v229 q cc gc (fset (fset h 162 0 (.int (nI 0))) 162 51 (.int r)))).2, 198, sl) = some R := hh
    obtain ⟨n, hh⟩ := rn_i rfl rfl rfl rfl hh
    obtain ⟨n, hh⟩ := rn_i rfl rfl rfl rfl hh
    obtain ⟨n, hh⟩ := rn_i rfl rfl rfl rfl hh
    obtain ⟨n, hh⟩ := rn_i rfl rfl rfl rfl hh
    have hh : pm_run PT n fr lo 263 (119, [some (.ref 162), some (.int r), some (.int (nI m)), some (.int ((v263_33 q cc gc r m m 0 ((nI 0), v229 q cc gc (fset (fset h 162 0 (.int (nI 0))) 162 51 (.int r)))).1)), some (.int (nI 0)), some (.int (nI 0)), none], [], (v263_33 q cc gc r m m 0 ((nI 0), v229 q cc gc (fset (fset h 162 0 (.int (nI 0))) 162 51 (.int r)))).2, 198, sl) = some R := hh
    obtain ⟨n, u12, u11, hh⟩ := v263_119_ok (t1 := r) (m2 := m) (t3 := ((v263_33 q cc gc r m m 0 ((nI 0), v229 q cc gc (fset (fset h 162 0 (.int (nI 0))) 162 51 (.int r)))).1))  (i := 0) (x4 := (nI 0)) (o6 := none) (j := cc) (by omega) (by omega) hc9 (by omega) hg0 hn8 hh
    have hh : pm_run PT n fr lo 263 (179, [some (.ref 162), some (.int r), some (.int (nI m)), some (.int ((v263_33 q cc gc r m m 0 ((nI 0), v229 q cc gc (fset (fset h 162 0 (.int (nI 0))) 162 51 (.int r)))).1)), some (.int (v263_119 q cc gc (Ar ((v263_33 q cc gc r m m 0 ((nI 0), v229 q cc gc (fset (fset h 162 0 (.int (nI 0))) 162 51 (.int r)))).2) 171) r m ((v263_33 q cc gc r m m 0 ((nI 0), v229 q cc gc (fset (fset h 162 0 (.int (nI 0))) 162 51 (.int r)))).1) cc 0 (nI 0))), u12, u11], [], (v263_33 q cc gc r m m 0 ((nI 0), v229 q cc gc (fset (fset h 162 0 (.int (nI 0))) 162 51 (.int r)))).2, 198, sl) = some R := hh
    obtain ⟨n, hh⟩ := rn_i rfl rfl rfl rfl hh
    obtain ⟨n, hh⟩ := rn_i rfl rfl rfl rfl hh
    have hh : pm_run PT n fr lo 263 (181, [some (.ref 162), some (.int r), some (.int (nI m)), some (.int ((v263_33 q cc gc r m m 0 ((nI 0), v229 q cc gc (fset (fset h 162 0 (.int (nI 0))) 162 51 (.int r)))).1)), some (.int (v263_119 q cc gc (Ar ((v263_33 q cc gc r m m 0 ((nI 0), v229 q cc gc (fset (fset h 162 0 (.int (nI 0))) 162 51 (.int r)))).2) 171) r m ((v263_33 q cc gc r m m 0 ((nI 0), v229 q cc gc (fset (fset h 162 0 (.int (nI 0))) 162 51 (.int r)))).1) cc 0 (nI 0))), u12, u11], [.int (nI 0), .ref 162], (v263_33 q cc gc r m m 0 ((nI 0), v229 q cc gc (fset (fset h 162 0 (.int (nI 0))) 162 51 (.int r)))).2, 198, sl) = some R := hh
    obtain ⟨n, hh⟩ := rn_pi hc9.wt rfl rfl (by decide) rfl (by decide) rfl hh
    obtain ⟨n, hh⟩ := rn_i rfl rfl rfl rfl hh
    obtain ⟨n, hh⟩ := rn_i rfl rfl rfl rfl hh
    have hh : pm_run PT n fr lo 263 (186, [some (.ref 162), some (.int r), some (.int (nI m)), some (.int ((v263_33 q cc gc r m m 0 ((nI 0), v229 q cc gc (fset (fset h 162 0 (.int (nI 0))) 162 51 (.int r)))).1)), some (.int (v263_119 q cc gc (Ar ((v263_33 q cc gc r m m 0 ((nI 0), v229 q cc gc (fset (fset h 162 0 (.int (nI 0))) 162 51 (.int r)))).2) 171) r m ((v263_33 q cc gc r m m 0 ((nI 0), v229 q cc gc (fset (fset h 162 0 (.int (nI 0))) 162 51 (.int r)))).1) cc 0 (nI 0))), u12, u11], [.ref 162, .ref 162], fset ((v263_33 q cc gc r m m 0 ((nI 0), v229 q cc gc (fset (fset h 162 0 (.int (nI 0))) 162 51 (.int r)))).2) 162 1 (.int (nI 0)), 198, sl) = some R := hh
    obtain ⟨n, hh⟩ := rn_gr (hc_f rfl rfl (by decide) rfl hc9).wt rfl rfl (by decide) rfl (by decide) (show _ = some (2, ((171 : Nat) : Int), 1) from rfl) rfl hh
    obtain ⟨n, hh⟩ := rn_i rfl rfl rfl rfl hh
    have hh : pm_run PT n fr lo 263 (191, [some (.ref 162), some (.int r), some (.int (nI m)), some (.int ((v263_33 q cc gc r m m 0 ((nI 0), v229 q cc gc (fset (fset h 162 0 (.int (nI 0))) 162 51 (.int r)))).1)), some (.int (v263_119 q cc gc (Ar ((v263_33 q cc gc r m m 0 ((nI 0), v229 q cc gc (fset (fset h 162 0 (.int (nI 0))) 162 51 (.int r)))).2) 171) r m ((v263_33 q cc gc r m m 0 ((nI 0), v229 q cc gc (fset (fset h 162 0 (.int (nI 0))) 162 51 (.int r)))).1) cc 0 (nI 0))), u12, u11], [.int (nI 94), .ref 171, .ref 162], fset ((v263_33 q cc gc r m m 0 ((nI 0), v229 q cc gc (fset (fset h 162 0 (.int (nI 0))) 162 51 (.int r)))).2) 162 1 (.int (nI 0)), 198, sl) = some R := hh
    obtain ⟨n, hx14, hh⟩ := en_lu (t := 94) (f := Ar ((v263_33 q cc gc r m m 0 ((nI 0), v229 q cc gc (fset (fset h 162 0 (.int (nI 0))) 162 51 (.int r)))).2) 171) (w := (Ar ((v263_33 q cc gc r m m 0 ((nI 0), v229 q cc gc (fset (fset h 162 0 (.int (nI 0))) 162 51 (.int r)))).2) 171) 94) (nI_clamp (by omega)) (hc_f rfl rfl (by decide) rfl hc9).wt rfl (by decide) rfl (by decide) (Ar_f.trans rfl) (fun _ => rfl) hh
    have hh : pm_run PT n fr lo 263 (192, [some (.ref 162), some (.int r), some (.int (nI m)), some (.int ((v263_33 q cc gc r m m 0 ((nI 0), v229 q cc gc (fset (fset h 162 0 (.int (nI 0))) 162 51 (.int r)))).1)), some (.int (v263_119 q cc gc (Ar ((v263_33 q cc gc r m m 0 ((nI 0), v229 q cc gc (fset (fset h 162 0 (.int (nI 0))) 162 51 (.int r)))).2) 171) r m ((v263_33 q cc gc r m m 0 ((nI 0), v229 q cc gc (fset (fset h 162 0 (.int (nI 0))) 162 51 (.int r)))).1) cc 0 (nI 0))), u12, u11], [.int ((Ar ((v263_33 q cc gc r m m 0 ((nI 0), v229 q cc gc (fset (fset h 162 0 (.int (nI 0))) 162 51 (.int r)))).2) 171) 94), .ref 162], fset ((v263_33 q cc gc r m m 0 ((nI 0), v229 q cc gc (fset (fset h 162 0 (.int (nI 0))) 162 51 (.int r)))).2) 162 1 (.int (nI 0)), 198, sl) = some R := hh
    obtain ⟨n, fr1, lo1, r1, hh1, hh⟩ := rn_call (w := 2) (t := 270) rfl rfl hh
    have er15 := v270_ok (a := ((Ar ((v263_33 q cc gc r m m 0 ((nI 0), v229 q cc gc (fset (fset h 162 0 (.int (nI 0))) 162 51 (.int r)))).2) 171) 94)) (hc_f rfl rfl (by decide) rfl hc9) hh1
    subst er15
    obtain ⟨n, hh⟩ := rn_i rfl rfl rfl rfl hh
    have hh : pm_run PT n fr lo 263 (196, [some (.ref 162), some (.int r), some (.int (nI m)), some (.int ((v263_33 q cc gc r m m 0 ((nI 0), v229 q cc gc (fset (fset h 162 0 (.int (nI 0))) 162 51 (.int r)))).1)), some (.int (v263_119 q cc gc (Ar ((v263_33 q cc gc r m m 0 ((nI 0), v229 q cc gc (fset (fset h 162 0 (.int (nI 0))) 162 51 (.int r)))).2) 171) r m ((v263_33 q cc gc r m m 0 ((nI 0), v229 q cc gc (fset (fset h 162 0 (.int (nI 0))) 162 51 (.int r)))).1) cc 0 (nI 0))), u12, u11], [.long ((v270 q cc gc ((Ar ((v263_33 q cc gc r m m 0 ((nI 0), v229 q cc gc (fset (fset h 162 0 (.int (nI 0))) 162 51 (.int r)))).2) 171) 94)).toInt64), .ref 162], fset ((v263_33 q cc gc r m m 0 ((nI 0), v229 q cc gc (fset (fset h 162 0 (.int (nI 0))) 162 51 (.int r)))).2) 162 1 (.int (nI 0)), 198, sl) = some R := hh
    obtain ⟨n, fr1, lo1, r1, hh1, hh⟩ := rn_call (w := 0) (t := 167) rfl rfl hh
    obtain ⟨er16, hc17, hf18⟩ := v167_ok (v := ((v270 q cc gc ((Ar ((v263_33 q cc gc r m m 0 ((nI 0), v229 q cc gc (fset (fset h 162 0 (.int (nI 0))) 162 51 (.int r)))).2) 171) 94)).toInt64)) (hc_f rfl rfl (by decide) rfl hc9) hh1
    subst er16
    obtain ⟨n, hh⟩ := rn_i rfl rfl rfl rfl hh
    obtain ⟨n, hh⟩ := rn_i rfl rfl rfl rfl hh
    obtain ⟨n, hh⟩ := rn_i rfl rfl rfl rfl hh
    have hh : pm_run PT n fr lo 263 (203, [some (.ref 162), some (.int r), some (.int (nI m)), some (.int ((v263_33 q cc gc r m m 0 ((nI 0), v229 q cc gc (fset (fset h 162 0 (.int (nI 0))) 162 51 (.int r)))).1)), some (.int (v263_119 q cc gc (Ar ((v263_33 q cc gc r m m 0 ((nI 0), v229 q cc gc (fset (fset h 162 0 (.int (nI 0))) 162 51 (.int r)))).2) 171) r m ((v263_33 q cc gc r m m 0 ((nI 0), v229 q cc gc (fset (fset h 162 0 (.int (nI 0))) 162 51 (.int r)))).1) cc 0 (nI 0))), u12, u11], [.long (((v263_119 q cc gc (Ar ((v263_33 q cc gc r m m 0 ((nI 0), v229 q cc gc (fset (fset h 162 0 (.int (nI 0))) 162 51 (.int r)))).2) 171) r m ((v263_33 q cc gc r m m 0 ((nI 0), v229 q cc gc (fset (fset h 162 0 (.int (nI 0))) 162 51 (.int r)))).1) cc 0 (nI 0))).toInt64), .ref 162], v167 q cc gc (fset ((v263_33 q cc gc r m m 0 ((nI 0), v229 q cc gc (fset (fset h 162 0 (.int (nI 0))) 162 51 (.int r)))).2) 162 1 (.int (nI 0))) ((v270 q cc gc ((Ar ((v263_33 q cc gc r m m 0 ((nI 0), v229 q cc gc (fset (fset h 162 0 (.int (nI 0))) 162 51 (.int r)))).2) 171) 94)).toInt64), 198, sl) = some R := hh
    obtain ⟨n, fr1, lo1, r1, hh1, hh⟩ := rn_call (w := 0) (t := 167) rfl rfl hh
    obtain ⟨er19, hc20, hf21⟩ := v167_ok (v := (((v263_119 q cc gc (Ar ((v263_33 q cc gc r m m 0 ((nI 0), v229 q cc gc (fset (fset h 162 0 (.int (nI 0))) 162 51 (.int r)))).2) 171) r m ((v263_33 q cc gc r m m 0 ((nI 0), v229 q cc gc (fset (fset h 162 0 (.int (nI 0))) 162 51 (.int r)))).1) cc 0 (nI 0))).toInt64)) hc17 hh1
    subst er19
    obtain ⟨n, hh⟩ := rn_i rfl rfl rfl rfl hh
    have hh : pm_run PT n fr lo 263 (207, [some (.ref 162), some (.int r), some (.int (nI m)), some (.int ((v263_33 q cc gc r m m 0 ((nI 0), v229 q cc gc (fset (fset h 162 0 (.int (nI 0))) 162 51 (.int r)))).1)), some (.int (v263_119 q cc gc (Ar ((v263_33 q cc gc r m m 0 ((nI 0), v229 q cc gc (fset (fset h 162 0 (.int (nI 0))) 162 51 (.int r)))).2) 171) r m ((v263_33 q cc gc r m m 0 ((nI 0), v229 q cc gc (fset (fset h 162 0 (.int (nI 0))) 162 51 (.int r)))).1) cc 0 (nI 0))), u12, u11], [.int ((v263_33 q cc gc r m m 0 ((nI 0), v229 q cc gc (fset (fset h 162 0 (.int (nI 0))) 162 51 (.int r)))).1)], v167 q cc gc (v167 q cc gc (fset ((v263_33 q cc gc r m m 0 ((nI 0), v229 q cc gc (fset (fset h 162 0 (.int (nI 0))) 162 51 (.int r)))).2) 162 1 (.int (nI 0))) ((v270 q cc gc ((Ar ((v263_33 q cc gc r m m 0 ((nI 0), v229 q cc gc (fset (fset h 162 0 (.int (nI 0))) 162 51 (.int r)))).2) 171) 94)).toInt64)) (((v263_119 q cc gc (Ar ((v263_33 q cc gc r m m 0 ((nI 0), v229 q cc gc (fset (fset h 162 0 (.int (nI 0))) 162 51 (.int r)))).2) 171) r m ((v263_33 q cc gc r m m 0 ((nI 0), v229 q cc gc (fset (fset h 162 0 (.int (nI 0))) 162 51 (.int r)))).1) cc 0 (nI 0))).toInt64), 198, sl) = some R := hh
    have er22 : R = (some (.int ((v263_33 q cc gc r m m 0 ((nI 0), v229 q cc gc (fset (fset h 162 0 (.int (nI 0))) 162 51 (.int r)))).1)), v167 q cc gc (v167 q cc gc (fset ((v263_33 q cc gc r m m 0 ((nI 0), v229 q cc gc (fset (fset h 162 0 (.int (nI 0))) 162 51 (.int r)))).2) 162 1 (.int (nI 0))) ((v270 q cc gc ((Ar ((v263_33 q cc gc r m m 0 ((nI 0), v229 q cc gc (fset (fset h 162 0 (.int (nI 0))) 162 51 (.int r)))).2) 171) 94)).toInt64)) (((v263_119 q cc gc (Ar ((v263_33 q cc gc r m m 0 ((nI 0), v229 q cc gc (fset (fset h 162 0 (.int (nI 0))) 162 51 (.int r)))).2) 171) r m ((v263_33 q cc gc r m m 0 ((nI 0), v229 q cc gc (fset (fset h 162 0 (.int (nI 0))) 162 51 (.int r)))).1) cc 0 (nI 0))).toInt64), 198, sl) := (rn_ret rfl (Or.inl rfl) hh).2
    have ed : v263 q cc gc h r m = ((v263_33 q cc gc r m m 0 ((nI 0), v229 q cc gc (fset (fset h 162 0 (.int (nI 0))) 162 51 (.int r)))).1, v167 q cc gc (v167 q cc gc (fset ((v263_33 q cc gc r m m 0 ((nI 0), v229 q cc gc (fset (fset h 162 0 (.int (nI 0))) 162 51 (.int r)))).2) 162 1 (.int (nI 0))) ((v270 q cc gc ((Ar ((v263_33 q cc gc r m m 0 ((nI 0), v229 q cc gc (fset (fset h 162 0 (.int (nI 0))) 162 51 (.int r)))).2) 171) 94)).toInt64)) (((v263_119 q cc gc (Ar ((v263_33 q cc gc r m m 0 ((nI 0), v229 q cc gc (fset (fset h 162 0 (.int (nI 0))) 162 51 (.int r)))).2) 171) r m ((v263_33 q cc gc r m m 0 ((nI 0), v229 q cc gc (fset (fset h 162 0 (.int (nI 0))) 162 51 (.int r)))).1) cc 0 (nI 0))).toInt64)) := (ct z2).trans rfl
    refine ⟨?_, ?_, ?_⟩ <;> rw [ed]
    · exact er22
    · exact hc20
    · exact (fr_g rfl rfl hf21 (fr_g rfl rfl hf18 (fr_f rfl rfl (fr_g rfl rfl hf10 (fr_g rfl rfl hf5 (fr_f rfl rfl (fr_f rfl rfl fr_0)))))))
  | false =>
    have hh := en_f z2 hh
    have hh : pm_run PT n fr lo 263 (17, [some (.ref 162), some (.int r), some (.int (nI m)), none, none, none, none], [], fset h 162 0 (.int (nI 0)), 198, sl) = some R := hh
    obtain ⟨n, hh⟩ := rn_i rfl rfl rfl rfl hh
    have hh : pm_run PT n fr lo 263 (18, [some (.ref 162), some (.int r), some (.int (nI m)), none, none, none, none], [.int (Int32.ofInt (-1))], fset h 162 0 (.int (nI 0)), 198, sl) = some R := hh
    have er23 : R = (some (.int (Int32.ofInt (-1))), fset h 162 0 (.int (nI 0)), 198, sl) := (rn_ret rfl (Or.inl rfl) hh).2
    have ed : v263 q cc gc h r m = ((Int32.ofInt (-1)), fset h 162 0 (.int (nI 0))) := (cf z2).trans rfl
    refine ⟨?_, ?_, ?_⟩ <;> rw [ed]
    · exact er23
    · exact (hc_f rfl rfl (by decide) rfl hw)
    · exact (fr_f rfl rfl fr_0)
def v227_74b (q : QT) (cc gc : Nat) (h : pm_H) (m1 : Nat) (m2 : Nat) (m3 : Nat) (i : Nat) : pm_H := v219 q cc gc h
def v227_74 (q : QT) (cc gc : Nat) (m1 : Nat) (m2 : Nat) (m3 : Nat) (j i : Nat) (a : pm_H) : pm_H := lp (fun i a => v227_74b q cc gc a m1 m2 m3 i) j i a
theorem v227_74_e {kd a b : Nat} {n fr lo sl cc gc : Nat} {q : QT} {h : pm_H} {R : pm_Rs} {m1 : Nat} {m2 : Nat} {m3 : Nat} {i : Nat} (hw : HC q cc gc h) (h_m1 : m1 < 10000) (h_m2 : m2 < 10000) (h_m3 : m3 < 10000) (hkd : kd < 10) (ha : a < 10) (hb : b < 10) (hol : NA h 170 78 86 6) (hi : m2 ≤ i) (hI : i < 1000000) (hh : pm_run PT n fr lo 227 (74, [some (.ref 162), some (.int (nI m1)), some (.int (nI m2)), some (.int (nI m3)), some (.int (nI i))], [], h, 198, sl) = some R) : ∃ m, pm_run PT m fr lo 227 (94, [some (.ref 162), some (.int (nI m1)), some (.int (nI m2)), some (.int (nI m3)), some (.int (nI i))], [], h, 198, sl) = some R := by
  have hcc := hw.cb
  have hgc := hw.gb
  have hzr := hw.zr
  obtain ⟨n, hh⟩ := rn_i rfl rfl rfl rfl hh
  obtain ⟨n, hh⟩ := rn_i rfl rfl rfl rfl hh
  have hh : pm_run PT n fr lo 227 (77, [some (.ref 162), some (.int (nI m1)), some (.int (nI m2)), some (.int (nI m3)), some (.int (nI i))], [.int (nI m2), .int (nI i)], h, 198, sl) = some R := hh
  obtain ⟨n, hh⟩ := en_cn (cc := .ge) (off := 17) (t := 94) (b := decide (m2 ≤ i)) (hI_ge (by omega) (by omega)) rfl rfl hh
  have hh := en_t (show decide (m2 ≤ i) = true from decide_eq_true (by omega)) hh
  have hh : pm_run PT n fr lo 227 (94, [some (.ref 162), some (.int (nI m1)), some (.int (nI m2)), some (.int (nI m3)), some (.int (nI i))], [], h, 198, sl) = some R := hh
  exact ⟨n, hh⟩
theorem v227_74_s {kd a b : Nat} {n fr lo sl cc gc : Nat} {q : QT} {h : pm_H} {R : pm_Rs} {m1 : Nat} {m2 : Nat} {m3 : Nat} {i : Nat} (hw : HC q cc gc h) (h_m1 : m1 < 10000) (h_m2 : m2 < 10000) (h_m3 : m3 < 10000) (hkd : kd < 10) (ha : a < 10) (hb : b < 10) (hol : NA h 170 78 86 6) (hi : i < m2) (hI : i < 1000000) (hh : pm_run PT n fr lo 227 (74, [some (.ref 162), some (.int (nI m1)), some (.int (nI m2)), some (.int (nI m3)), some (.int (nI i))], [], h, 198, sl) = some R) : ∃ m, HC q cc gc ((v227_74b q cc gc h m1 m2 m3 i)) ∧ frm [170] [] h ((v227_74b q cc gc h m1 m2 m3 i)) ∧ NA ((v227_74b q cc gc h m1 m2 m3 i)) 170 78 86 6 ∧ pm_run PT m fr lo 227 (74, [some (.ref 162), some (.int (nI m1)), some (.int (nI m2)), some (.int (nI m3)), some (.int (nI (i + 1)))], [], (v227_74b q cc gc h m1 m2 m3 i), 198, sl) = some R := by
  have hcc := hw.cb
  have hgc := hw.gb
  have hzr := hw.zr
  obtain ⟨n, hh⟩ := rn_i rfl rfl rfl rfl hh
  obtain ⟨n, hh⟩ := rn_i rfl rfl rfl rfl hh
  have hh : pm_run PT n fr lo 227 (77, [some (.ref 162), some (.int (nI m1)), some (.int (nI m2)), some (.int (nI m3)), some (.int (nI i))], [.int (nI m2), .int (nI i)], h, 198, sl) = some R := hh
  obtain ⟨n, hh⟩ := en_cn (cc := .ge) (off := 17) (t := 94) (b := decide (m2 ≤ i)) (hI_ge (by omega) (by omega)) rfl rfl hh
  have hh := en_f (show decide (m2 ≤ i) = false from decide_eq_false (by omega)) hh
  have hh : pm_run PT n fr lo 227 (80, [some (.ref 162), some (.int (nI m1)), some (.int (nI m2)), some (.int (nI m3)), some (.int (nI i))], [], h, 198, sl) = some R := hh
  obtain ⟨n, hh⟩ := rn_i rfl rfl rfl rfl hh
  obtain ⟨n, hh⟩ := rn_i rfl rfl rfl rfl hh
  have hh : pm_run PT n fr lo 227 (82, [some (.ref 162), some (.int (nI m1)), some (.int (nI m2)), some (.int (nI m3)), some (.int (nI i))], [.ref 162, .ref 162], h, 198, sl) = some R := hh
  obtain ⟨n, hh⟩ := rn_gr hw.wt rfl rfl (by decide) rfl (by decide) (show _ = some (2, ((170 : Nat) : Int), 1) from rfl) rfl hh
  have hh : pm_run PT n fr lo 227 (85, [some (.ref 162), some (.int (nI m1)), some (.int (nI m2)), some (.int (nI m3)), some (.int (nI i))], [.ref 170, .ref 162], h, 198, sl) = some R := hh
  obtain ⟨n, fr1, lo1, r1, hh1, hh⟩ := rn_call (w := 0) (t := 219) rfl rfl hh
  obtain ⟨er15, hc16, hf17⟩ := v219_ok hw hh1
  subst er15
  have hh : pm_run PT n fr lo 227 (88, [some (.ref 162), some (.int (nI m1)), some (.int (nI m2)), some (.int (nI m3)), some (.int (nI i))], [], v219 q cc gc h, 198, sl) = some R := hh
  obtain ⟨n, hh⟩ := en_inc (x := i) (c := 1) (j := 4) rfl rfl (by decide) hh
  have hh : pm_run PT n fr lo 227 (91, [some (.ref 162), some (.int (nI m1)), some (.int (nI m2)), some (.int (nI m3)), some (.int (nI (i + 1)))], [], v219 q cc gc h, 198, sl) = some R := hh
  obtain ⟨n, hh⟩ := rn_i rfl rfl rfl rfl hh
  have ed : v227_74b q cc gc h m1 m2 m3 i = v219 q cc gc h := rfl
  rw [ed]
  exact ⟨n, hc16, (fr_g rfl rfl hf17 fr_0), (v219_na hw hol), hh⟩
theorem v227_74_ok {kd a b : Nat} {fr lo sl cc gc : Nat} {q : QT} {R : pm_Rs} {m1 : Nat} {m2 : Nat} {m3 : Nat} : ∀ {j i : Nat} {h : pm_H} {n : Nat}, m2 - i = j → i + j < 1000000 → HC q cc gc h → m1 < 10000 → m2 < 10000 → m3 < 10000 → kd < 10 → a < 10 → b < 10 → NA h 170 78 86 6 → pm_run PT n fr lo 227 (74, [some (.ref 162), some (.int (nI m1)), some (.int (nI m2)), some (.int (nI m3)), some (.int (nI i))], [], h, 198, sl) = some R → ∃ m wc, HC q cc gc ((v227_74 q cc gc m1 m2 m3 j i h)) ∧ frm [170] [] h ((v227_74 q cc gc m1 m2 m3 j i h)) ∧ NA ((v227_74 q cc gc m1 m2 m3 j i h)) 170 78 86 6 ∧ pm_run PT m fr lo 227 (94, [some (.ref 162), some (.int (nI m1)), some (.int (nI m2)), some (.int (nI m3)), wc], [], (v227_74 q cc gc m1 m2 m3 j i h), 198, sl) = some R := by
  intro j
  induction j with
  | zero =>
    intro i h n e eI hw h_m1 h_m2 h_m3 hkd ha hb hol hh
    obtain ⟨n, hh⟩ := v227_74_e hw h_m1 h_m2 h_m3 hkd ha hb hol (by omega) (by omega) hh
    exact ⟨n, _, hw, fr_0, hol, hh⟩
  | succ j ih =>
    intro i h n e eI hw h_m1 h_m2 h_m3 hkd ha hb hol hh
    obtain ⟨n, hc, hf, hol', hh⟩ := v227_74_s hw h_m1 h_m2 h_m3 hkd ha hb hol (by omega) (by omega) hh
    obtain ⟨n, wc, hc2, hf2, hol'', hh⟩ := ih (by omega) (by omega) hc h_m1 h_m2 h_m3 hkd ha hb hol' hh
    exact ⟨n, wc, hc2, fr_t hf2 hf, hol'', hh⟩
theorem v227_74_fb {kd a b : Nat} {cc gc : Nat} {q : QT} {h : pm_H} {m1 : Nat} {m2 : Nat} {m3 : Nat} {i : Nat} (hw : HC q cc gc h) (hkd : kd < 10) (ha : a < 10) (hb : b < 10) : HC q cc gc ((v227_74b q cc gc h m1 m2 m3 i)) ∧ frm [170] [] h ((v227_74b q cc gc h m1 m2 m3 i)) := by
  unfold v227_74b
  show HC q cc gc (v219 q cc gc h) ∧ frm [170] [] h (v219 q cc gc h)
  exact ⟨(v219_fr hw).1, (fr_g rfl rfl (v219_fr hw).2 fr_0)⟩
theorem v227_74_fr {kd a b : Nat} {cc gc : Nat} {q : QT} {m1 : Nat} {m2 : Nat} {m3 : Nat} (hkd : kd < 10) (ha : a < 10) (hb : b < 10) : ∀ {j i : Nat} {h : pm_H}, HC q cc gc h → HC q cc gc ((v227_74 q cc gc m1 m2 m3 j i h)) ∧ frm [170] [] h ((v227_74 q cc gc m1 m2 m3 j i h)) := by
  intro j
  induction j with
  | zero =>
    intro i h hw
    exact ⟨hw, fr_0⟩
  | succ j ih =>
    intro i h hw
    obtain ⟨a1, a2⟩ := v227_74_fb (i := i) (m1 := m1) (m2 := m2) (m3 := m3) hw hkd ha hb
    obtain ⟨b1, b2⟩ := ih (i := i + 1) a1
    exact ⟨b1, fr_t b2 a2⟩
def v227 (q : QT) (cc gc : Nat) (h : pm_H) (k : Nat) (kd : Nat) (a : Nat) (b : Nat) : Bool × pm_H := cond (decide (kd = 0)) (cond (pm_cmp .lt ((v217 q cc gc h a b).1) 0) false true, (v217 q cc gc h a b).2) (cond (decide (kd = 1)) (true, (v227_74 q cc gc k a b a 0 h)) (cond (decide (kd = 2)) (cond (pm_cmp .lt ((v221 q cc gc h a b).1) 0) false true, (v221 q cc gc h a b).2) (cond (decide (kd = 3)) (cond (pm_cmp .lt ((v220 q cc gc h a b ((Ar h 182) k)).1) 0) false true, (v220 q cc gc h a b ((Ar h 182) k)).2) (cond (pm_cmp .lt ((v220 q cc gc h a b (-((Ar h 182) k))).1) 0) false true, (v220 q cc gc h a b (-((Ar h 182) k))).2))))
theorem v227_ok {n fr lo sl cc gc : Nat} {q : QT} {h : pm_H} {R : pm_Rs} {k : Nat} {kd : Nat} {a : Nat} {b : Nat} (hw : HC q cc gc h) (h_k : k < 10000) (hk1 : Ar h 179 k = nI kd) (hk2 : Ar h 180 k = nI a) (hk3 : Ar h 181 k = nI b) (hkd : kd < 10) (ha : a < 10) (hb : b < 10) (hol : NA h 170 78 86 6) (hh : pm_run PT n fr lo 227 (0, pm_l0 [.ref 162, .int (nI k)] 5, [], h, 198, sl) = some R) : R = (some (.int (cond (v227 q cc gc h k kd a b).1 1 0)), (v227 q cc gc h k kd a b).2, 198, sl) ∧ HC q cc gc ((v227 q cc gc h k kd a b).2) ∧ frm [162, 170, 176, 177] [(162, 29), (162, 30)] h ((v227 q cc gc h k kd a b).2) := by
  have hcc := hw.cb
  have hgc := hw.gb
  have hzr := hw.zr
  obtain ⟨n, hh⟩ := rn_i rfl rfl rfl rfl hh
  have hh : pm_run PT n fr lo 227 (1, [some (.ref 162), some (.int (nI k)), none, none, none], [.ref 162], h, 198, sl) = some R := hh
  obtain ⟨n, hh⟩ := rn_gr hw.wt rfl rfl (by decide) rfl (by decide) (show _ = some (2, ((180 : Nat) : Int), 1) from rfl) rfl hh
  obtain ⟨n, hh⟩ := rn_i rfl rfl rfl rfl hh
  have hh : pm_run PT n fr lo 227 (5, [some (.ref 162), some (.int (nI k)), none, none, none], [.int (nI k), .ref 180], h, 198, sl) = some R := hh
  obtain ⟨n, hx1, hh⟩ := en_lu (t := k) (f := Ar h 180) (w := nI a) (nI_clamp (by omega)) hw.wt rfl (by decide) rfl (by decide) rfl (fun _ => hk2) hh
  obtain ⟨n, hh⟩ := rn_i rfl rfl rfl rfl hh
  obtain ⟨n, hh⟩ := rn_i rfl rfl rfl rfl hh
  have hh : pm_run PT n fr lo 227 (8, [some (.ref 162), some (.int (nI k)), some (.int (nI a)), none, none], [.ref 162], h, 198, sl) = some R := hh
  obtain ⟨n, hh⟩ := rn_gr hw.wt rfl rfl (by decide) rfl (by decide) (show _ = some (2, ((181 : Nat) : Int), 1) from rfl) rfl hh
  obtain ⟨n, hh⟩ := rn_i rfl rfl rfl rfl hh
  have hh : pm_run PT n fr lo 227 (12, [some (.ref 162), some (.int (nI k)), some (.int (nI a)), none, none], [.int (nI k), .ref 181], h, 198, sl) = some R := hh
  obtain ⟨n, hx2, hh⟩ := en_lu (t := k) (f := Ar h 181) (w := nI b) (nI_clamp (by omega)) hw.wt rfl (by decide) rfl (by decide) rfl (fun _ => hk3) hh
  obtain ⟨n, hh⟩ := rn_i rfl rfl rfl rfl hh
  obtain ⟨n, hh⟩ := rn_i rfl rfl rfl rfl hh
  have hh : pm_run PT n fr lo 227 (15, [some (.ref 162), some (.int (nI k)), some (.int (nI a)), some (.int (nI b)), none], [.ref 162], h, 198, sl) = some R := hh
  obtain ⟨n, hh⟩ := rn_gr hw.wt rfl rfl (by decide) rfl (by decide) (show _ = some (2, ((179 : Nat) : Int), 1) from rfl) rfl hh
  obtain ⟨n, hh⟩ := rn_i rfl rfl rfl rfl hh
  have hh : pm_run PT n fr lo 227 (19, [some (.ref 162), some (.int (nI k)), some (.int (nI a)), some (.int (nI b)), none], [.int (nI k), .ref 179], h, 198, sl) = some R := hh
  obtain ⟨n, hx3, hh⟩ := en_lu (t := k) (f := Ar h 179) (w := nI kd) (nI_clamp (by omega)) hw.wt rfl (by decide) rfl (by decide) rfl (fun _ => hk1) hh
  have hh : pm_run PT n fr lo 227 (20, [some (.ref 162), some (.int (nI k)), some (.int (nI a)), some (.int (nI b)), none], [.int (nI kd)], h, 198, sl) = some R := hh
  cases z4 : decide (kd = 0) with
  | true =>
    obtain ⟨n, hh⟩ := en_tsc (c := 0) (t := 52) rfl (en_nc (by omega) z4) (by decide) rfl rfl hh
    have hh : pm_run PT n fr lo 227 (52, [some (.ref 162), some (.int (nI k)), some (.int (nI a)), some (.int (nI b)), none], [], h, 198, sl) = some R := hh
    have y5 := of_decide_eq_true z4
    obtain ⟨n, hh⟩ := rn_i rfl rfl rfl rfl hh
    obtain ⟨n, hh⟩ := rn_i rfl rfl rfl rfl hh
    have hh : pm_run PT n fr lo 227 (54, [some (.ref 162), some (.int (nI k)), some (.int (nI a)), some (.int (nI b)), none], [.ref 162, .ref 162], h, 198, sl) = some R := hh
    obtain ⟨n, hh⟩ := rn_gr hw.wt rfl rfl (by decide) rfl (by decide) (show _ = some (2, ((170 : Nat) : Int), 1) from rfl) rfl hh
    obtain ⟨n, hh⟩ := rn_i rfl rfl rfl rfl hh
    obtain ⟨n, hh⟩ := rn_i rfl rfl rfl rfl hh
    have hh : pm_run PT n fr lo 227 (59, [some (.ref 162), some (.int (nI k)), some (.int (nI a)), some (.int (nI b)), none], [.int (nI b), .int (nI a), .ref 170, .ref 162], h, 198, sl) = some R := hh
    obtain ⟨n, fr1, lo1, r1, hh1, hh⟩ := rn_call (w := 0) (t := 217) rfl rfl hh
    obtain ⟨er6, hc7, hf8⟩ := v217_ok (g := a) (c := b) hw (by omega) (by omega) hol hh1
    subst er6
    have hh : pm_run PT n fr lo 227 (62, [some (.ref 162), some (.int (nI k)), some (.int (nI a)), some (.int (nI b)), none], [.int ((v217 q cc gc h a b).1)], (v217 q cc gc h a b).2, 198, sl) = some R := hh
    obtain ⟨n, hh⟩ := en_zn (cc := .lt) (off := 7) (t := 69) (b := pm_cmp .lt ((v217 q cc gc h a b).1) 0) rfl rfl rfl hh
    have hj10 : ∃ mJ, pm_run PT mJ fr lo 227 (cond (pm_cmp .lt ((v217 q cc gc h a b).1) 0) (70, [some (.ref 162), some (.int (nI k)), some (.int (nI a)), some (.int (nI b)), none], [.int (nI 0)], (v217 q cc gc h a b).2, 198, sl) (70, [some (.ref 162), some (.int (nI k)), some (.int (nI a)), some (.int (nI b)), none], [.int (nI 1)], (v217 q cc gc h a b).2, 198, sl)) = some R := en_J (fun z9 => by
        have hh := en_t z9 hh
        have hh : pm_run PT n fr lo 227 (69, [some (.ref 162), some (.int (nI k)), some (.int (nI a)), some (.int (nI b)), none], [], (v217 q cc gc h a b).2, 198, sl) = some R := hh
        obtain ⟨n, hh⟩ := rn_i rfl rfl rfl rfl hh
        exact ⟨n, hh⟩) (fun z9 => by
        have hh := en_f z9 hh
        have hh : pm_run PT n fr lo 227 (65, [some (.ref 162), some (.int (nI k)), some (.int (nI a)), some (.int (nI b)), none], [], (v217 q cc gc h a b).2, 198, sl) = some R := hh
        obtain ⟨n, hh⟩ := rn_i rfl rfl rfl rfl hh
        obtain ⟨n, hh⟩ := rn_i rfl rfl rfl rfl hh
        exact ⟨n, hh⟩)
    obtain ⟨n, hh⟩ := hj10
    rw [show (cond (pm_cmp .lt ((v217 q cc gc h a b).1) 0) (70, [some (.ref 162), some (.int (nI k)), some (.int (nI a)), some (.int (nI b)), none], [.int (nI 0)], (v217 q cc gc h a b).2, 198, sl) (70, [some (.ref 162), some (.int (nI k)), some (.int (nI a)), some (.int (nI b)), none], [.int (nI 1)], (v217 q cc gc h a b).2, 198, sl) : pm_St) = (70, [some (.ref 162), some (.int (nI k)), some (.int (nI a)), some (.int (nI b)), none], [.int (cond (cond (pm_cmp .lt ((v217 q cc gc h a b).1) 0) false true) 1 0)], (v217 q cc gc h a b).2, 198, sl) from by cases (pm_cmp .lt ((v217 q cc gc h a b).1) 0) <;> rfl] at hh
    have hh : pm_run PT n fr lo 227 (70, [some (.ref 162), some (.int (nI k)), some (.int (nI a)), some (.int (nI b)), none], [.int (cond (cond (pm_cmp .lt ((v217 q cc gc h a b).1) 0) false true) 1 0)], (v217 q cc gc h a b).2, 198, sl) = some R := hh
    have er11 : R = (some (.int (cond (cond (pm_cmp .lt ((v217 q cc gc h a b).1) 0) false true) 1 0)), (v217 q cc gc h a b).2, 198, sl) := (rn_ret rfl (Or.inr rfl) hh).2
    have ed : v227 q cc gc h k kd a b = (cond (pm_cmp .lt ((v217 q cc gc h a b).1) 0) false true, (v217 q cc gc h a b).2) := (ct z4).trans rfl
    refine ⟨?_, ?_, ?_⟩ <;> rw [ed]
    · exact er11
    · exact hc7
    · exact (fr_g rfl rfl hf8 fr_0)
  | false =>
    have y12 := of_decide_eq_false z4
    cases z13 : decide (kd = 1) with
    | true =>
      obtain ⟨n, hh⟩ := en_tsc (c := 1) (t := 71) rfl (en_nc (by omega) z13) (by decide) rfl rfl hh
      have hh : pm_run PT n fr lo 227 (71, [some (.ref 162), some (.int (nI k)), some (.int (nI a)), some (.int (nI b)), none], [], h, 198, sl) = some R := hh
      have y14 := of_decide_eq_true z13
      obtain ⟨n, hh⟩ := rn_i rfl rfl rfl rfl hh
      obtain ⟨n, hh⟩ := rn_i rfl rfl rfl rfl hh
      have hh : pm_run PT n fr lo 227 (74, [some (.ref 162), some (.int (nI k)), some (.int (nI a)), some (.int (nI b)), some (.int (nI 0))], [], h, 198, sl) = some R := hh
      obtain ⟨n, u15, hc17, hf18, hn16, hh⟩ := v227_74_ok (m1 := k) (m2 := a) (m3 := b)  (i := 0) (j := a) (by omega) (by omega) hw (by omega) (by omega) (by omega) hkd ha hb hol hh
      have hh : pm_run PT n fr lo 227 (94, [some (.ref 162), some (.int (nI k)), some (.int (nI a)), some (.int (nI b)), u15], [], (v227_74 q cc gc k a b a 0 h), 198, sl) = some R := hh
      obtain ⟨n, hh⟩ := rn_i rfl rfl rfl rfl hh
      have hh : pm_run PT n fr lo 227 (95, [some (.ref 162), some (.int (nI k)), some (.int (nI a)), some (.int (nI b)), u15], [.int (nI 1)], (v227_74 q cc gc k a b a 0 h), 198, sl) = some R := hh
      have er19 : R = (some (.int (nI 1)), (v227_74 q cc gc k a b a 0 h), 198, sl) := (rn_ret rfl (Or.inr rfl) hh).2
      have ed : v227 q cc gc h k kd a b = (true, (v227_74 q cc gc k a b a 0 h)) := (cf z4).trans ((ct z13).trans rfl)
      refine ⟨?_, ?_, ?_⟩ <;> rw [ed]
      · exact er19
      · exact hc17
      · exact (fr_g rfl rfl hf18 fr_0)
    | false =>
      have y20 := of_decide_eq_false z13
      cases z21 : decide (kd = 2) with
      | true =>
        obtain ⟨n, hh⟩ := en_tsc (c := 2) (t := 96) rfl (en_nc (by omega) z21) (by decide) rfl rfl hh
        have hh : pm_run PT n fr lo 227 (96, [some (.ref 162), some (.int (nI k)), some (.int (nI a)), some (.int (nI b)), none], [], h, 198, sl) = some R := hh
        have y22 := of_decide_eq_true z21
        obtain ⟨n, hh⟩ := rn_i rfl rfl rfl rfl hh
        obtain ⟨n, hh⟩ := rn_i rfl rfl rfl rfl hh
        obtain ⟨n, hh⟩ := rn_i rfl rfl rfl rfl hh
        have hh : pm_run PT n fr lo 227 (99, [some (.ref 162), some (.int (nI k)), some (.int (nI a)), some (.int (nI b)), none], [.int (nI b), .int (nI a), .ref 162], h, 198, sl) = some R := hh
        obtain ⟨n, fr1, lo1, r1, hh1, hh⟩ := rn_call (w := 0) (t := 221) rfl rfl hh
        obtain ⟨er23, hc24, hf25⟩ := v221_ok (a := a) (b := b) hw (by omega) (by omega) hh1
        subst er23
        have hh : pm_run PT n fr lo 227 (102, [some (.ref 162), some (.int (nI k)), some (.int (nI a)), some (.int (nI b)), none], [.int ((v221 q cc gc h a b).1)], (v221 q cc gc h a b).2, 198, sl) = some R := hh
        obtain ⟨n, hh⟩ := en_zn (cc := .lt) (off := 7) (t := 109) (b := pm_cmp .lt ((v221 q cc gc h a b).1) 0) rfl rfl rfl hh
        have hj27 : ∃ mJ, pm_run PT mJ fr lo 227 (cond (pm_cmp .lt ((v221 q cc gc h a b).1) 0) (110, [some (.ref 162), some (.int (nI k)), some (.int (nI a)), some (.int (nI b)), none], [.int (nI 0)], (v221 q cc gc h a b).2, 198, sl) (110, [some (.ref 162), some (.int (nI k)), some (.int (nI a)), some (.int (nI b)), none], [.int (nI 1)], (v221 q cc gc h a b).2, 198, sl)) = some R := en_J (fun z26 => by
            have hh := en_t z26 hh
            have hh : pm_run PT n fr lo 227 (109, [some (.ref 162), some (.int (nI k)), some (.int (nI a)), some (.int (nI b)), none], [], (v221 q cc gc h a b).2, 198, sl) = some R := hh
            obtain ⟨n, hh⟩ := rn_i rfl rfl rfl rfl hh
            exact ⟨n, hh⟩) (fun z26 => by
            have hh := en_f z26 hh
            have hh : pm_run PT n fr lo 227 (105, [some (.ref 162), some (.int (nI k)), some (.int (nI a)), some (.int (nI b)), none], [], (v221 q cc gc h a b).2, 198, sl) = some R := hh
            obtain ⟨n, hh⟩ := rn_i rfl rfl rfl rfl hh
            obtain ⟨n, hh⟩ := rn_i rfl rfl rfl rfl hh
            exact ⟨n, hh⟩)
        obtain ⟨n, hh⟩ := hj27
        rw [show (cond (pm_cmp .lt ((v221 q cc gc h a b).1) 0) (110, [some (.ref 162), some (.int (nI k)), some (.int (nI a)), some (.int (nI b)), none], [.int (nI 0)], (v221 q cc gc h a b).2, 198, sl) (110, [some (.ref 162), some (.int (nI k)), some (.int (nI a)), some (.int (nI b)), none], [.int (nI 1)], (v221 q cc gc h a b).2, 198, sl) : pm_St) = (110, [some (.ref 162), some (.int (nI k)), some (.int (nI a)), some (.int (nI b)), none], [.int (cond (cond (pm_cmp .lt ((v221 q cc gc h a b).1) 0) false true) 1 0)], (v221 q cc gc h a b).2, 198, sl) from by cases (pm_cmp .lt ((v221 q cc gc h a b).1) 0) <;> rfl] at hh
        have hh : pm_run PT n fr lo 227 (110, [some (.ref 162), some (.int (nI k)), some (.int (nI a)), some (.int (nI b)), none], [.int (cond (cond (pm_cmp .lt ((v221 q cc gc h a b).1) 0) false true) 1 0)], (v221 q cc gc h a b).2, 198, sl) = some R := hh
        have er28 : R = (some (.int (cond (cond (pm_cmp .lt ((v221 q cc gc h a b).1) 0) false true) 1 0)), (v221 q cc gc h a b).2, 198, sl) := (rn_ret rfl (Or.inr rfl) hh).2
        have ed : v227 q cc gc h k kd a b = (cond (pm_cmp .lt ((v221 q cc gc h a b).1) 0) false true, (v221 q cc gc h a b).2) := (cf z4).trans ((cf z13).trans ((ct z21).trans rfl))
        refine ⟨?_, ?_, ?_⟩ <;> rw [ed]
        · exact er28
        · exact hc24
        · exact (fr_g rfl rfl hf25 fr_0)
      | false =>
        have y29 := of_decide_eq_false z21
        cases z30 : decide (kd = 3) with
        | true =>
          obtain ⟨n, hh⟩ := en_tsc (c := 3) (t := 111) rfl (en_nc (by omega) z30) (by decide) rfl rfl hh
          have hh : pm_run PT n fr lo 227 (111, [some (.ref 162), some (.int (nI k)), some (.int (nI a)), some (.int (nI b)), none], [], h, 198, sl) = some R := hh
          have y31 := of_decide_eq_true z30
          obtain ⟨n, hh⟩ := rn_i rfl rfl rfl rfl hh
          obtain ⟨n, hh⟩ := rn_i rfl rfl rfl rfl hh
          obtain ⟨n, hh⟩ := rn_i rfl rfl rfl rfl hh
          obtain ⟨n, hh⟩ := rn_i rfl rfl rfl rfl hh
          have hh : pm_run PT n fr lo 227 (115, [some (.ref 162), some (.int (nI k)), some (.int (nI a)), some (.int (nI b)), none], [.ref 162, .int (nI b), .int (nI a), .ref 162], h, 198, sl) = some R := hh
          obtain ⟨n, hh⟩ := rn_gr hw.wt rfl rfl (by decide) rfl (by decide) (show _ = some (2, ((182 : Nat) : Int), 1) from rfl) rfl hh
          obtain ⟨n, hh⟩ := rn_i rfl rfl rfl rfl hh
          have hh : pm_run PT n fr lo 227 (119, [some (.ref 162), some (.int (nI k)), some (.int (nI a)), some (.int (nI b)), none], [.int (nI k), .ref 182, .int (nI b), .int (nI a), .ref 162], h, 198, sl) = some R := hh
          obtain ⟨n, hx32, hh⟩ := en_lu (t := k) (f := Ar h 182) (w := (Ar h 182) k) (nI_clamp (by omega)) hw.wt rfl (by decide) rfl (by decide) rfl (fun _ => rfl) hh
          have hh : pm_run PT n fr lo 227 (120, [some (.ref 162), some (.int (nI k)), some (.int (nI a)), some (.int (nI b)), none], [.int ((Ar h 182) k), .int (nI b), .int (nI a), .ref 162], h, 198, sl) = some R := hh
          obtain ⟨n, fr1, lo1, r1, hh1, hh⟩ := rn_call (w := 0) (t := 220) rfl rfl hh
          obtain ⟨er33, hc34, hf35⟩ := v220_ok (a := a) (b := b) (m := ((Ar h 182) k)) hw (by omega) (by omega) hh1
          subst er33
          have hh : pm_run PT n fr lo 227 (123, [some (.ref 162), some (.int (nI k)), some (.int (nI a)), some (.int (nI b)), none], [.int ((v220 q cc gc h a b ((Ar h 182) k)).1)], (v220 q cc gc h a b ((Ar h 182) k)).2, 198, sl) = some R := hh
          obtain ⟨n, hh⟩ := en_zn (cc := .lt) (off := 7) (t := 130) (b := pm_cmp .lt ((v220 q cc gc h a b ((Ar h 182) k)).1) 0) rfl rfl rfl hh
          have hj37 : ∃ mJ, pm_run PT mJ fr lo 227 (cond (pm_cmp .lt ((v220 q cc gc h a b ((Ar h 182) k)).1) 0) (131, [some (.ref 162), some (.int (nI k)), some (.int (nI a)), some (.int (nI b)), none], [.int (nI 0)], (v220 q cc gc h a b ((Ar h 182) k)).2, 198, sl) (131, [some (.ref 162), some (.int (nI k)), some (.int (nI a)), some (.int (nI b)), none], [.int (nI 1)], (v220 q cc gc h a b ((Ar h 182) k)).2, 198, sl)) = some R := en_J (fun z36 => by
              have hh := en_t z36 hh
              have hh : pm_run PT n fr lo 227 (130, [some (.ref 162), some (.int (nI k)), some (.int (nI a)), some (.int (nI b)), none], [], (v220 q cc gc h a b ((Ar h 182) k)).2, 198, sl) = some R := hh
              obtain ⟨n, hh⟩ := rn_i rfl rfl rfl rfl hh
              exact ⟨n, hh⟩) (fun z36 => by
              have hh := en_f z36 hh
              have hh : pm_run PT n fr lo 227 (126, [some (.ref 162), some (.int (nI k)), some (.int (nI a)), some (.int (nI b)), none], [], (v220 q cc gc h a b ((Ar h 182) k)).2, 198, sl) = some R := hh
              obtain ⟨n, hh⟩ := rn_i rfl rfl rfl rfl hh
              obtain ⟨n, hh⟩ := rn_i rfl rfl rfl rfl hh
              exact ⟨n, hh⟩)
          obtain ⟨n, hh⟩ := hj37
          rw [show (cond (pm_cmp .lt ((v220 q cc gc h a b ((Ar h 182) k)).1) 0) (131, [some (.ref 162), some (.int (nI k)), some (.int (nI a)), some (.int (nI b)), none], [.int (nI 0)], (v220 q cc gc h a b ((Ar h 182) k)).2, 198, sl) (131, [some (.ref 162), some (.int (nI k)), some (.int (nI a)), some (.int (nI b)), none], [.int (nI 1)], (v220 q cc gc h a b ((Ar h 182) k)).2, 198, sl) : pm_St) = (131, [some (.ref 162), some (.int (nI k)), some (.int (nI a)), some (.int (nI b)), none], [.int (cond (cond (pm_cmp .lt ((v220 q cc gc h a b ((Ar h 182) k)).1) 0) false true) 1 0)], (v220 q cc gc h a b ((Ar h 182) k)).2, 198, sl) from by cases (pm_cmp .lt ((v220 q cc gc h a b ((Ar h 182) k)).1) 0) <;> rfl] at hh
          have hh : pm_run PT n fr lo 227 (131, [some (.ref 162), some (.int (nI k)), some (.int (nI a)), some (.int (nI b)), none], [.int (cond (cond (pm_cmp .lt ((v220 q cc gc h a b ((Ar h 182) k)).1) 0) false true) 1 0)], (v220 q cc gc h a b ((Ar h 182) k)).2, 198, sl) = some R := hh
          have er38 : R = (some (.int (cond (cond (pm_cmp .lt ((v220 q cc gc h a b ((Ar h 182) k)).1) 0) false true) 1 0)), (v220 q cc gc h a b ((Ar h 182) k)).2, 198, sl) := (rn_ret rfl (Or.inr rfl) hh).2
          have ed : v227 q cc gc h k kd a b = (cond (pm_cmp .lt ((v220 q cc gc h a b ((Ar h 182) k)).1) 0) false true, (v220 q cc gc h a b ((Ar h 182) k)).2) := (cf z4).trans ((cf z13).trans ((cf z21).trans ((ct z30).trans rfl)))
          refine ⟨?_, ?_, ?_⟩ <;> rw [ed]
          · exact er38
          · exact hc34
          · exact (fr_g rfl rfl hf35 fr_0)
        | false =>
          have y39 := of_decide_eq_false z30
          obtain ⟨n, hh⟩ := en_tsd (t := 132) [0, 1, 2, 3] rfl (by decide) (by decide) (en_l1 (en_nn (by omega) z4) (en_l1 (en_nn (by omega) z13) (en_l1 (en_nn (by omega) z21) (en_l1 (en_nn (by omega) z30) en_l0)))) rfl hh
          have hh : pm_run PT n fr lo 227 (132, [some (.ref 162), some (.int (nI k)), some (.int (nI a)), some (.int (nI b)), none], [], h, 198, sl) = some R := hh
          obtain ⟨n, hh⟩ := rn_i rfl rfl rfl rfl hh
          obtain ⟨n, hh⟩ := rn_i rfl rfl rfl rfl hh
          obtain ⟨n, hh⟩ := rn_i rfl rfl rfl rfl hh
          obtain ⟨n, hh⟩ := rn_i rfl rfl rfl rfl hh
          have hh : pm_run PT n fr lo 227 (136, [some (.ref 162), some (.int (nI k)), some (.int (nI a)), some (.int (nI b)), none], [.ref 162, .int (nI b), .int (nI a), .ref 162], h, 198, sl) = some R := hh
          obtain ⟨n, hh⟩ := rn_gr hw.wt rfl rfl (by decide) rfl (by decide) (show _ = some (2, ((182 : Nat) : Int), 1) from rfl) rfl hh
          obtain ⟨n, hh⟩ := rn_i rfl rfl rfl rfl hh
          have hh : pm_run PT n fr lo 227 (140, [some (.ref 162), some (.int (nI k)), some (.int (nI a)), some (.int (nI b)), none], [.int (nI k), .ref 182, .int (nI b), .int (nI a), .ref 162], h, 198, sl) = some R := hh
          obtain ⟨n, hx40, hh⟩ := en_lu (t := k) (f := Ar h 182) (w := (Ar h 182) k) (nI_clamp (by omega)) hw.wt rfl (by decide) rfl (by decide) rfl (fun _ => rfl) hh
          obtain ⟨n, hh⟩ := rn_i rfl rfl rfl rfl hh
          have hh : pm_run PT n fr lo 227 (142, [some (.ref 162), some (.int (nI k)), some (.int (nI a)), some (.int (nI b)), none], [.int (-((Ar h 182) k)), .int (nI b), .int (nI a), .ref 162], h, 198, sl) = some R := hh
          obtain ⟨n, fr1, lo1, r1, hh1, hh⟩ := rn_call (w := 0) (t := 220) rfl rfl hh
          obtain ⟨er41, hc42, hf43⟩ := v220_ok (a := a) (b := b) (m := (-((Ar h 182) k))) hw (by omega) (by omega) hh1
          subst er41
          have hh : pm_run PT n fr lo 227 (145, [some (.ref 162), some (.int (nI k)), some (.int (nI a)), some (.int (nI b)), none], [.int ((v220 q cc gc h a b (-((Ar h 182) k))).1)], (v220 q cc gc h a b (-((Ar h 182) k))).2, 198, sl) = some R := hh
          obtain ⟨n, hh⟩ := en_zn (cc := .lt) (off := 7) (t := 152) (b := pm_cmp .lt ((v220 q cc gc h a b (-((Ar h 182) k))).1) 0) rfl rfl rfl hh
          have hj45 : ∃ mJ, pm_run PT mJ fr lo 227 (cond (pm_cmp .lt ((v220 q cc gc h a b (-((Ar h 182) k))).1) 0) (153, [some (.ref 162), some (.int (nI k)), some (.int (nI a)), some (.int (nI b)), none], [.int (nI 0)], (v220 q cc gc h a b (-((Ar h 182) k))).2, 198, sl) (153, [some (.ref 162), some (.int (nI k)), some (.int (nI a)), some (.int (nI b)), none], [.int (nI 1)], (v220 q cc gc h a b (-((Ar h 182) k))).2, 198, sl)) = some R := en_J (fun z44 => by
              have hh := en_t z44 hh
              have hh : pm_run PT n fr lo 227 (152, [some (.ref 162), some (.int (nI k)), some (.int (nI a)), some (.int (nI b)), none], [], (v220 q cc gc h a b (-((Ar h 182) k))).2, 198, sl) = some R := hh
              obtain ⟨n, hh⟩ := rn_i rfl rfl rfl rfl hh
              exact ⟨n, hh⟩) (fun z44 => by
              have hh := en_f z44 hh
              have hh : pm_run PT n fr lo 227 (148, [some (.ref 162), some (.int (nI k)), some (.int (nI a)), some (.int (nI b)), none], [], (v220 q cc gc h a b (-((Ar h 182) k))).2, 198, sl) = some R := hh
              obtain ⟨n, hh⟩ := rn_i rfl rfl rfl rfl hh
              obtain ⟨n, hh⟩ := rn_i rfl rfl rfl rfl hh
              exact ⟨n, hh⟩)
          obtain ⟨n, hh⟩ := hj45
          rw [show (cond (pm_cmp .lt ((v220 q cc gc h a b (-((Ar h 182) k))).1) 0) (153, [some (.ref 162), some (.int (nI k)), some (.int (nI a)), some (.int (nI b)), none], [.int (nI 0)], (v220 q cc gc h a b (-((Ar h 182) k))).2, 198, sl) (153, [some (.ref 162), some (.int (nI k)), some (.int (nI a)), some (.int (nI b)), none], [.int (nI 1)], (v220 q cc gc h a b (-((Ar h 182) k))).2, 198, sl) : pm_St) = (153, [some (.ref 162), some (.int (nI k)), some (.int (nI a)), some (.int (nI b)), none], [.int (cond (cond (pm_cmp .lt ((v220 q cc gc h a b (-((Ar h 182) k))).1) 0) false true) 1 0)], (v220 q cc gc h a b (-((Ar h 182) k))).2, 198, sl) from by cases (pm_cmp .lt ((v220 q cc gc h a b (-((Ar h 182) k))).1) 0) <;> rfl] at hh
          have hh : pm_run PT n fr lo 227 (153, [some (.ref 162), some (.int (nI k)), some (.int (nI a)), some (.int (nI b)), none], [.int (cond (cond (pm_cmp .lt ((v220 q cc gc h a b (-((Ar h 182) k))).1) 0) false true) 1 0)], (v220 q cc gc h a b (-((Ar h 182) k))).2, 198, sl) = some R := hh
          have er46 : R = (some (.int (cond (cond (pm_cmp .lt ((v220 q cc gc h a b (-((Ar h 182) k))).1) 0) false true) 1 0)), (v220 q cc gc h a b (-((Ar h 182) k))).2, 198, sl) := (rn_ret rfl (Or.inr rfl) hh).2
          have ed : v227 q cc gc h k kd a b = (cond (pm_cmp .lt ((v220 q cc gc h a b (-((Ar h 182) k))).1) 0) false true, (v220 q cc gc h a b (-((Ar h 182) k))).2) := (cf z4).trans ((cf z13).trans ((cf z21).trans ((cf z30).trans rfl)))
          refine ⟨?_, ?_, ?_⟩ <;> rw [ed]
          · exact er46
          · exact hc42
          · exact (fr_g rfl rfl hf43 fr_0)
theorem v227_fr {cc gc : Nat} {q : QT} {h : pm_H} {k : Nat} {kd : Nat} {a : Nat} {b : Nat} (hw : HC q cc gc h) (hk1 : Ar h 179 k = nI kd) (hk2 : Ar h 180 k = nI a) (hk3 : Ar h 181 k = nI b) (hkd : kd < 10) (ha : a < 10) (hb : b < 10) : HC q cc gc ((v227 q cc gc h k kd a b).2) ∧ frm [162, 170, 176, 177] [(162, 29), (162, 30)] h ((v227 q cc gc h k kd a b).2) := by
  unfold v227
  refine cd_s (P := fun (p : Bool × pm_H) => HC q cc gc ((p).2) ∧ frm [162, 170, 176, 177] [(162, 29), (162, 30)] h ((p).2)) (b := decide (kd = 0)) (fun _ => ?_) (fun _ => ?_)
  · show HC q cc gc ((v217 q cc gc h a b).2) ∧ frm [162, 170, 176, 177] [(162, 29), (162, 30)] h ((v217 q cc gc h a b).2)
    exact ⟨(v217_fr (g := a) (c := b) hw).1, (fr_g rfl rfl (v217_fr (g := a) (c := b) hw).2 fr_0)⟩
  · refine cd_s (P := fun (p : Bool × pm_H) => HC q cc gc ((p).2) ∧ frm [162, 170, 176, 177] [(162, 29), (162, 30)] h ((p).2)) (b := decide (kd = 1)) (fun _ => ?_) (fun _ => ?_)
    · show HC q cc gc ((v227_74 q cc gc k a b a 0 h)) ∧ frm [162, 170, 176, 177] [(162, 29), (162, 30)] h ((v227_74 q cc gc k a b a 0 h))
      exact ⟨(v227_74_fr (m1 := k) (m2 := a) (m3 := b) (j := a) (i := 0) hkd ha hb hw).1, (fr_g rfl rfl (v227_74_fr (m1 := k) (m2 := a) (m3 := b) (j := a) (i := 0) hkd ha hb hw).2 fr_0)⟩
    · refine cd_s (P := fun (p : Bool × pm_H) => HC q cc gc ((p).2) ∧ frm [162, 170, 176, 177] [(162, 29), (162, 30)] h ((p).2)) (b := decide (kd = 2)) (fun _ => ?_) (fun _ => ?_)
      · show HC q cc gc ((v221 q cc gc h a b).2) ∧ frm [162, 170, 176, 177] [(162, 29), (162, 30)] h ((v221 q cc gc h a b).2)
        exact ⟨(v221_fr (a := a) (b := b) hw).1, (fr_g rfl rfl (v221_fr (a := a) (b := b) hw).2 fr_0)⟩
      · refine cd_s (P := fun (p : Bool × pm_H) => HC q cc gc ((p).2) ∧ frm [162, 170, 176, 177] [(162, 29), (162, 30)] h ((p).2)) (b := decide (kd = 3)) (fun _ => ?_) (fun _ => ?_)
        · show HC q cc gc ((v220 q cc gc h a b ((Ar h 182) k)).2) ∧ frm [162, 170, 176, 177] [(162, 29), (162, 30)] h ((v220 q cc gc h a b ((Ar h 182) k)).2)
          exact ⟨(v220_fr (a := a) (b := b) (m := ((Ar h 182) k)) hw).1, (fr_g rfl rfl (v220_fr (a := a) (b := b) (m := ((Ar h 182) k)) hw).2 fr_0)⟩
        · show HC q cc gc ((v220 q cc gc h a b (-((Ar h 182) k))).2) ∧ frm [162, 170, 176, 177] [(162, 29), (162, 30)] h ((v220 q cc gc h a b (-((Ar h 182) k))).2)
          exact ⟨(v220_fr (a := a) (b := b) (m := (-((Ar h 182) k))) hw).1, (fr_g rfl rfl (v220_fr (a := a) (b := b) (m := (-((Ar h 182) k))) hw).2 fr_0)⟩
def v227m_74b (q : QT) (cc gc : Nat) (h : pm_H) (m1 : Nat) (m2 : Nat) (t3 : Int32) (i : Nat) : pm_H := v219 q cc gc h
def v227m_74 (q : QT) (cc gc : Nat) (m1 : Nat) (m2 : Nat) (t3 : Int32) (j i : Nat) (a : pm_H) : pm_H := lp (fun i a => v227m_74b q cc gc a m1 m2 t3 i) j i a
theorem v227m_74_e {a : Nat} {n fr lo sl cc gc : Nat} {q : QT} {h : pm_H} {R : pm_Rs} {m1 : Nat} {m2 : Nat} {t3 : Int32} {i : Nat} (hw : HC q cc gc h) (h_m1 : m1 < 10000) (h_m2 : m2 < 10000) (ha : a < 10) (hol : NA h 170 78 86 6) (hi : m2 ≤ i) (hI : i < 1000000) (hh : pm_run PT n fr lo 227 (74, [some (.ref 162), some (.int (nI m1)), some (.int (nI m2)), some (.int t3), some (.int (nI i))], [], h, 198, sl) = some R) : ∃ m, pm_run PT m fr lo 227 (94, [some (.ref 162), some (.int (nI m1)), some (.int (nI m2)), some (.int t3), some (.int (nI i))], [], h, 198, sl) = some R := by
  have hcc := hw.cb
  have hgc := hw.gb
  have hzr := hw.zr
  obtain ⟨n, hh⟩ := rn_i rfl rfl rfl rfl hh
  obtain ⟨n, hh⟩ := rn_i rfl rfl rfl rfl hh
  have hh : pm_run PT n fr lo 227 (77, [some (.ref 162), some (.int (nI m1)), some (.int (nI m2)), some (.int t3), some (.int (nI i))], [.int (nI m2), .int (nI i)], h, 198, sl) = some R := hh
  obtain ⟨n, hh⟩ := en_cn (cc := .ge) (off := 17) (t := 94) (b := decide (m2 ≤ i)) (hI_ge (by omega) (by omega)) rfl rfl hh
  have hh := en_t (show decide (m2 ≤ i) = true from decide_eq_true (by omega)) hh
  have hh : pm_run PT n fr lo 227 (94, [some (.ref 162), some (.int (nI m1)), some (.int (nI m2)), some (.int t3), some (.int (nI i))], [], h, 198, sl) = some R := hh
  exact ⟨n, hh⟩
theorem v227m_74_s {a : Nat} {n fr lo sl cc gc : Nat} {q : QT} {h : pm_H} {R : pm_Rs} {m1 : Nat} {m2 : Nat} {t3 : Int32} {i : Nat} (hw : HC q cc gc h) (h_m1 : m1 < 10000) (h_m2 : m2 < 10000) (ha : a < 10) (hol : NA h 170 78 86 6) (hi : i < m2) (hI : i < 1000000) (hh : pm_run PT n fr lo 227 (74, [some (.ref 162), some (.int (nI m1)), some (.int (nI m2)), some (.int t3), some (.int (nI i))], [], h, 198, sl) = some R) : ∃ m, HC q cc gc ((v227m_74b q cc gc h m1 m2 t3 i)) ∧ frm [170] [] h ((v227m_74b q cc gc h m1 m2 t3 i)) ∧ NA ((v227m_74b q cc gc h m1 m2 t3 i)) 170 78 86 6 ∧ pm_run PT m fr lo 227 (74, [some (.ref 162), some (.int (nI m1)), some (.int (nI m2)), some (.int t3), some (.int (nI (i + 1)))], [], (v227m_74b q cc gc h m1 m2 t3 i), 198, sl) = some R := by
  have hcc := hw.cb
  have hgc := hw.gb
  have hzr := hw.zr
  obtain ⟨n, hh⟩ := rn_i rfl rfl rfl rfl hh
  obtain ⟨n, hh⟩ := rn_i rfl rfl rfl rfl hh
  have hh : pm_run PT n fr lo 227 (77, [some (.ref 162), some (.int (nI m1)), some (.int (nI m2)), some (.int t3), some (.int (nI i))], [.int (nI m2), .int (nI i)], h, 198, sl) = some R := hh
  obtain ⟨n, hh⟩ := en_cn (cc := .ge) (off := 17) (t := 94) (b := decide (m2 ≤ i)) (hI_ge (by omega) (by omega)) rfl rfl hh
  have hh := en_f (show decide (m2 ≤ i) = false from decide_eq_false (by omega)) hh
  have hh : pm_run PT n fr lo 227 (80, [some (.ref 162), some (.int (nI m1)), some (.int (nI m2)), some (.int t3), some (.int (nI i))], [], h, 198, sl) = some R := hh
  obtain ⟨n, hh⟩ := rn_i rfl rfl rfl rfl hh
  obtain ⟨n, hh⟩ := rn_i rfl rfl rfl rfl hh
  have hh : pm_run PT n fr lo 227 (82, [some (.ref 162), some (.int (nI m1)), some (.int (nI m2)), some (.int t3), some (.int (nI i))], [.ref 162, .ref 162], h, 198, sl) = some R := hh
  obtain ⟨n, hh⟩ := rn_gr hw.wt rfl rfl (by decide) rfl (by decide) (show _ = some (2, ((170 : Nat) : Int), 1) from rfl) rfl hh
  have hh : pm_run PT n fr lo 227 (85, [some (.ref 162), some (.int (nI m1)), some (.int (nI m2)), some (.int t3), some (.int (nI i))], [.ref 170, .ref 162], h, 198, sl) = some R := hh
  obtain ⟨n, fr1, lo1, r1, hh1, hh⟩ := rn_call (w := 0) (t := 219) rfl rfl hh
  obtain ⟨er4, hc5, hf6⟩ := v219_ok hw hh1
  subst er4
  have hh : pm_run PT n fr lo 227 (88, [some (.ref 162), some (.int (nI m1)), some (.int (nI m2)), some (.int t3), some (.int (nI i))], [], v219 q cc gc h, 198, sl) = some R := hh
  obtain ⟨n, hh⟩ := en_inc (x := i) (c := 1) (j := 4) rfl rfl (by decide) hh
  have hh : pm_run PT n fr lo 227 (91, [some (.ref 162), some (.int (nI m1)), some (.int (nI m2)), some (.int t3), some (.int (nI (i + 1)))], [], v219 q cc gc h, 198, sl) = some R := hh
  obtain ⟨n, hh⟩ := rn_i rfl rfl rfl rfl hh
  have ed : v227m_74b q cc gc h m1 m2 t3 i = v219 q cc gc h := rfl
  rw [ed]
  exact ⟨n, hc5, (fr_g rfl rfl hf6 fr_0), (v219_na hw hol), hh⟩
theorem v227m_74_ok {a : Nat} {fr lo sl cc gc : Nat} {q : QT} {R : pm_Rs} {m1 : Nat} {m2 : Nat} {t3 : Int32} : ∀ {j i : Nat} {h : pm_H} {n : Nat}, m2 - i = j → i + j < 1000000 → HC q cc gc h → m1 < 10000 → m2 < 10000 → a < 10 → NA h 170 78 86 6 → pm_run PT n fr lo 227 (74, [some (.ref 162), some (.int (nI m1)), some (.int (nI m2)), some (.int t3), some (.int (nI i))], [], h, 198, sl) = some R → ∃ m wc, HC q cc gc ((v227m_74 q cc gc m1 m2 t3 j i h)) ∧ frm [170] [] h ((v227m_74 q cc gc m1 m2 t3 j i h)) ∧ NA ((v227m_74 q cc gc m1 m2 t3 j i h)) 170 78 86 6 ∧ pm_run PT m fr lo 227 (94, [some (.ref 162), some (.int (nI m1)), some (.int (nI m2)), some (.int t3), wc], [], (v227m_74 q cc gc m1 m2 t3 j i h), 198, sl) = some R := by
  intro j
  induction j with
  | zero =>
    intro i h n e eI hw h_m1 h_m2 ha hol hh
    obtain ⟨n, hh⟩ := v227m_74_e hw h_m1 h_m2 ha hol (by omega) (by omega) hh
    exact ⟨n, _, hw, fr_0, hol, hh⟩
  | succ j ih =>
    intro i h n e eI hw h_m1 h_m2 ha hol hh
    obtain ⟨n, hc, hf, hol', hh⟩ := v227m_74_s hw h_m1 h_m2 ha hol (by omega) (by omega) hh
    obtain ⟨n, wc, hc2, hf2, hol'', hh⟩ := ih (by omega) (by omega) hc h_m1 h_m2 ha hol' hh
    exact ⟨n, wc, hc2, fr_t hf2 hf, hol'', hh⟩
theorem v227m_74_fb {a : Nat} {cc gc : Nat} {q : QT} {h : pm_H} {m1 : Nat} {m2 : Nat} {t3 : Int32} {i : Nat} (hw : HC q cc gc h) (ha : a < 10) : HC q cc gc ((v227m_74b q cc gc h m1 m2 t3 i)) ∧ frm [170] [] h ((v227m_74b q cc gc h m1 m2 t3 i)) := by
  unfold v227m_74b
  show HC q cc gc (v219 q cc gc h) ∧ frm [170] [] h (v219 q cc gc h)
  exact ⟨(v219_fr hw).1, (fr_g rfl rfl (v219_fr hw).2 fr_0)⟩
theorem v227m_74_fr {a : Nat} {cc gc : Nat} {q : QT} {m1 : Nat} {m2 : Nat} {t3 : Int32} (ha : a < 10) : ∀ {j i : Nat} {h : pm_H}, HC q cc gc h → HC q cc gc ((v227m_74 q cc gc m1 m2 t3 j i h)) ∧ frm [170] [] h ((v227m_74 q cc gc m1 m2 t3 j i h)) := by
  intro j
  induction j with
  | zero =>
    intro i h hw
    exact ⟨hw, fr_0⟩
  | succ j ih =>
    intro i h hw
    obtain ⟨a1, a2⟩ := v227m_74_fb (i := i) (m1 := m1) (m2 := m2) (t3 := t3) hw ha
    obtain ⟨b1, b2⟩ := ih (i := i + 1) a1
    exact ⟨b1, fr_t b2 a2⟩
def v227m (q : QT) (cc gc : Nat) (h : pm_H) (k : Nat) (a : Nat) : Bool × pm_H := (true, (v227m_74 q cc gc k a ((Ar h 181) k) a 0 h))
theorem v227m_ok {n fr lo sl cc gc : Nat} {q : QT} {h : pm_H} {R : pm_Rs} {k : Nat} {a : Nat} (hw : HC q cc gc h) (h_k : k < 10000) (hk1 : Ar h 179 k = nI 1) (hk2 : Ar h 180 k = nI a) (ha : a < 10) (hol : NA h 170 78 86 6) (hh : pm_run PT n fr lo 227 (0, pm_l0 [.ref 162, .int (nI k)] 5, [], h, 198, sl) = some R) : R = (some (.int (cond (v227m q cc gc h k a).1 1 0)), (v227m q cc gc h k a).2, 198, sl) ∧ HC q cc gc ((v227m q cc gc h k a).2) ∧ frm [170] [] h ((v227m q cc gc h k a).2) := by
  have hcc := hw.cb
  have hgc := hw.gb
  have hzr := hw.zr
  obtain ⟨n, hh⟩ := rn_i rfl rfl rfl rfl hh
  have hh : pm_run PT n fr lo 227 (1, [some (.ref 162), some (.int (nI k)), none, none, none], [.ref 162], h, 198, sl) = some R := hh
  obtain ⟨n, hh⟩ := rn_gr hw.wt rfl rfl (by decide) rfl (by decide) (show _ = some (2, ((180 : Nat) : Int), 1) from rfl) rfl hh
  obtain ⟨n, hh⟩ := rn_i rfl rfl rfl rfl hh
  have hh : pm_run PT n fr lo 227 (5, [some (.ref 162), some (.int (nI k)), none, none, none], [.int (nI k), .ref 180], h, 198, sl) = some R := hh
  obtain ⟨n, hx1, hh⟩ := en_lu (t := k) (f := Ar h 180) (w := nI a) (nI_clamp (by omega)) hw.wt rfl (by decide) rfl (by decide) rfl (fun _ => hk2) hh
  obtain ⟨n, hh⟩ := rn_i rfl rfl rfl rfl hh
  obtain ⟨n, hh⟩ := rn_i rfl rfl rfl rfl hh
  have hh : pm_run PT n fr lo 227 (8, [some (.ref 162), some (.int (nI k)), some (.int (nI a)), none, none], [.ref 162], h, 198, sl) = some R := hh
  obtain ⟨n, hh⟩ := rn_gr hw.wt rfl rfl (by decide) rfl (by decide) (show _ = some (2, ((181 : Nat) : Int), 1) from rfl) rfl hh
  obtain ⟨n, hh⟩ := rn_i rfl rfl rfl rfl hh
  have hh : pm_run PT n fr lo 227 (12, [some (.ref 162), some (.int (nI k)), some (.int (nI a)), none, none], [.int (nI k), .ref 181], h, 198, sl) = some R := hh
  obtain ⟨n, hx2, hh⟩ := en_lu (t := k) (f := Ar h 181) (w := (Ar h 181) k) (nI_clamp (by omega)) hw.wt rfl (by decide) rfl (by decide) rfl (fun _ => rfl) hh
  obtain ⟨n, hh⟩ := rn_i rfl rfl rfl rfl hh
  obtain ⟨n, hh⟩ := rn_i rfl rfl rfl rfl hh
  have hh : pm_run PT n fr lo 227 (15, [some (.ref 162), some (.int (nI k)), some (.int (nI a)), some (.int ((Ar h 181) k)), none], [.ref 162], h, 198, sl) = some R := hh
  obtain ⟨n, hh⟩ := rn_gr hw.wt rfl rfl (by decide) rfl (by decide) (show _ = some (2, ((179 : Nat) : Int), 1) from rfl) rfl hh
  obtain ⟨n, hh⟩ := rn_i rfl rfl rfl rfl hh
  have hh : pm_run PT n fr lo 227 (19, [some (.ref 162), some (.int (nI k)), some (.int (nI a)), some (.int ((Ar h 181) k)), none], [.int (nI k), .ref 179], h, 198, sl) = some R := hh
  obtain ⟨n, hx3, hh⟩ := en_lu (t := k) (f := Ar h 179) (w := nI 1) (nI_clamp (by omega)) hw.wt rfl (by decide) rfl (by decide) rfl (fun _ => hk1) hh
  have hh : pm_run PT n fr lo 227 (20, [some (.ref 162), some (.int (nI k)), some (.int (nI a)), some (.int ((Ar h 181) k)), none], [.int (nI 1)], h, 198, sl) = some R := hh
  obtain ⟨n, hh⟩ := rn_i rfl rfl rfl rfl hh
  have hh : pm_run PT n fr lo 227 (71, [some (.ref 162), some (.int (nI k)), some (.int (nI a)), some (.int ((Ar h 181) k)), none], [], h, 198, sl) = some R := hh
  obtain ⟨n, hh⟩ := rn_i rfl rfl rfl rfl hh
  obtain ⟨n, hh⟩ := rn_i rfl rfl rfl rfl hh
  have hh : pm_run PT n fr lo 227 (74, [some (.ref 162), some (.int (nI k)), some (.int (nI a)), some (.int ((Ar h 181) k)), some (.int (nI 0))], [], h, 198, sl) = some R := hh
  obtain ⟨n, u4, hc6, hf7, hn5, hh⟩ := v227m_74_ok (m1 := k) (m2 := a) (t3 := ((Ar h 181) k))  (i := 0) (j := a) (by omega) (by omega) hw (by omega) (by omega) ha hol hh
  have hh : pm_run PT n fr lo 227 (94, [some (.ref 162), some (.int (nI k)), some (.int (nI a)), some (.int ((Ar h 181) k)), u4], [], (v227m_74 q cc gc k a ((Ar h 181) k) a 0 h), 198, sl) = some R := hh
  obtain ⟨n, hh⟩ := rn_i rfl rfl rfl rfl hh
  have hh : pm_run PT n fr lo 227 (95, [some (.ref 162), some (.int (nI k)), some (.int (nI a)), some (.int ((Ar h 181) k)), u4], [.int (nI 1)], (v227m_74 q cc gc k a ((Ar h 181) k) a 0 h), 198, sl) = some R := hh
  have er8 : R = (some (.int (nI 1)), (v227m_74 q cc gc k a ((Ar h 181) k) a 0 h), 198, sl) := (rn_ret rfl (Or.inr rfl) hh).2
  have ed : v227m q cc gc h k a = (true, (v227m_74 q cc gc k a ((Ar h 181) k) a 0 h)) := rfl
  refine ⟨?_, ?_, ?_⟩ <;> rw [ed]
  · exact er8
  · exact hc6
  · exact (fr_g rfl rfl hf7 fr_0)
theorem v227m_fr {cc gc : Nat} {q : QT} {h : pm_H} {k : Nat} {a : Nat} (hw : HC q cc gc h) (hk1 : Ar h 179 k = nI 1) (hk2 : Ar h 180 k = nI a) (ha : a < 10) : HC q cc gc ((v227m q cc gc h k a).2) ∧ frm [170] [] h ((v227m q cc gc h k a).2) := by
  unfold v227m
  show HC q cc gc ((v227m_74 q cc gc k a ((Ar h 181) k) a 0 h)) ∧ frm [170] [] h ((v227m_74 q cc gc k a ((Ar h 181) k) a 0 h))
  exact ⟨(v227m_74_fr (m1 := k) (m2 := a) (t3 := ((Ar h 181) k)) (j := a) (i := 0) ha hw).1, (fr_g rfl rfl (v227m_74_fr (m1 := k) (m2 := a) (t3 := ((Ar h 181) k)) (j := a) (i := 0) ha hw).2 fr_0)⟩
end EH
