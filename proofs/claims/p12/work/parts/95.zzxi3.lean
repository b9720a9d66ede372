/-! runs told exactly, written by ext.py -/
section EE3
def v266_17b (q : QT) (cc gc : Nat) (d0 : Nat → Int32) (d1 : Nat → Int32) (m1 : Nat) (m3 : Nat) (i : Nat) (x2 : Int32) : Int32 := x2 + (cond (cond (decide (¬ m1 = 0)) (cond (decide (¬ m1 = 1)) (cond (pm_cmp .le ((d0) (6 * m3 + i)) 0) false true) (v176 q cc gc (d1) m3 i)) (v175 q cc gc (d1) m3 i)) 1 0)
def v266_17 (q : QT) (cc gc : Nat) (d0 : Nat → Int32) (d1 : Nat → Int32) (m1 : Nat) (m3 : Nat) (j i : Nat) (a : Int32) : Int32 := lp (fun i a => v266_17b q cc gc d0 d1 m1 m3 i a) j i a
theorem v266_17_e {n fr lo sl cc gc : Nat} {q : QT} {h : pm_H} {R : pm_Rs} {m1 : Nat} {m3 : Nat} {i : Nat} {x2 : Int32} (hw : HC q cc gc h) (h_m1 : m1 < 10000) (h_m3 : m3 < 10000) (hi : cc ≤ i) (hI : i < 1000000) (hh : pm_run PT n fr lo 266 (17, [some (.ref 162), some (.int (nI m1)), some (.int x2), some (.int (nI m3)), some (.int (nI i))], [], h, 198, sl) = some R) : ∃ m, pm_run PT m fr lo 266 (93, [some (.ref 162), some (.int (nI m1)), some (.int x2), some (.int (nI m3)), some (.int (nI i))], [], h, 198, sl) = some R := by
  have hcc := hw.cb
  have hgc := hw.gb
  have hzr := hw.zr
  obtain ⟨n, hh⟩ := rn_i rfl rfl rfl rfl hh
  obtain ⟨n, hh⟩ := rn_i rfl rfl rfl rfl hh
  have hh : pm_run PT n fr lo 266 (20, [some (.ref 162), some (.int (nI m1)), some (.int x2), some (.int (nI m3)), some (.int (nI i))], [.ref 162, .int (nI i)], h, 198, sl) = some R := hh
  obtain ⟨n, hh⟩ := rn_gi (x := nI cc) hw.wt rfl rfl (by decide) rfl (by decide) rfl hw.m3 hh
  have hh : pm_run PT n fr lo 266 (23, [some (.ref 162), some (.int (nI m1)), some (.int x2), some (.int (nI m3)), some (.int (nI i))], [.int (nI cc), .int (nI i)], h, 198, sl) = some R := hh
  obtain ⟨n, hh⟩ := en_cn (cc := .ge) (off := 70) (t := 93) (b := decide (cc ≤ i)) (hI_ge (by omega) (by omega)) rfl rfl hh
  have hh := en_t (show decide (cc ≤ i) = true from decide_eq_true (by omega)) hh
  have hh : pm_run PT n fr lo 266 (93, [some (.ref 162), some (.int (nI m1)), some (.int x2), some (.int (nI m3)), some (.int (nI i))], [], h, 198, sl) = some R := hh
  exact ⟨n, hh⟩
theorem v266_17_s {n fr lo sl cc gc : Nat} {q : QT} {h : pm_H} {R : pm_Rs} {m1 : Nat} {m3 : Nat} {i : Nat} {x2 : Int32} (hw : HC q cc gc h) (h_m1 : m1 < 10000) (h_m3 : m3 < 10000) (hi : i < cc) (hI : i < 1000000) (hh : pm_run PT n fr lo 266 (17, [some (.ref 162), some (.int (nI m1)), some (.int x2), some (.int (nI m3)), some (.int (nI i))], [], h, 198, sl) = some R) : ∃ m, pm_run PT m fr lo 266 (17, [some (.ref 162), some (.int (nI m1)), some (.int (v266_17b q cc gc (Ar h 169) (Ar h 170) m1 m3 i x2)), some (.int (nI m3)), some (.int (nI (i + 1)))], [], h, 198, sl) = some R := by
  have hcc := hw.cb
  have hgc := hw.gb
  have hzr := hw.zr
  obtain ⟨n, hh⟩ := rn_i rfl rfl rfl rfl hh
  obtain ⟨n, hh⟩ := rn_i rfl rfl rfl rfl hh
  have hh : pm_run PT n fr lo 266 (20, [some (.ref 162), some (.int (nI m1)), some (.int x2), some (.int (nI m3)), some (.int (nI i))], [.ref 162, .int (nI i)], h, 198, sl) = some R := hh
  obtain ⟨n, hh⟩ := rn_gi (x := nI cc) hw.wt rfl rfl (by decide) rfl (by decide) rfl hw.m3 hh
  have hh : pm_run PT n fr lo 266 (23, [some (.ref 162), some (.int (nI m1)), some (.int x2), some (.int (nI m3)), some (.int (nI i))], [.int (nI cc), .int (nI i)], h, 198, sl) = some R := hh
  obtain ⟨n, hh⟩ := en_cn (cc := .ge) (off := 70) (t := 93) (b := decide (cc ≤ i)) (hI_ge (by omega) (by omega)) rfl rfl hh
  have hh := en_f (show decide (cc ≤ i) = false from decide_eq_false (by omega)) hh
  have hh : pm_run PT n fr lo 266 (26, [some (.ref 162), some (.int (nI m1)), some (.int x2), some (.int (nI m3)), some (.int (nI i))], [], h, 198, sl) = some R := hh
  obtain ⟨n, hh⟩ := rn_i rfl rfl rfl rfl hh
  obtain ⟨n, hh⟩ := rn_i rfl rfl rfl rfl hh
  have hh : pm_run PT n fr lo 266 (28, [some (.ref 162), some (.int (nI m1)), some (.int x2), some (.int (nI m3)), some (.int (nI i))], [.int (nI m1), .int x2], h, 198, sl) = some R := hh
  obtain ⟨n, hh⟩ := en_zn (cc := .ne) (off := 16) (t := 44) (b := decide (¬ m1 = 0)) (hI_ne (b := 0) (by omega) (by omega)) rfl rfl hh
  have hj9 : ∃ mJ, pm_run PT mJ fr lo 266 (cond (decide (¬ m1 = 0)) (82, [some (.ref 162), some (.int (nI m1)), some (.int x2), some (.int (nI m3)), some (.int (nI i))], [.int (cond (cond (decide (¬ m1 = 1)) (cond (pm_cmp .le ((Ar h 169) (6 * m3 + i)) 0) false true) (v176 q cc gc (Ar h 170) m3 i)) 1 0), .int x2], h, 198, sl) (82, [some (.ref 162), some (.int (nI m1)), some (.int x2), some (.int (nI m3)), some (.int (nI i))], [.int (cond (v175 q cc gc (Ar h 170) m3 i) 1 0), .int x2], h, 198, sl)) = some R := en_J (fun z1 => by
      have hh := en_t z1 hh
      have hh : pm_run PT n fr lo 266 (44, [some (.ref 162), some (.int (nI m1)), some (.int x2), some (.int (nI m3)), some (.int (nI i))], [.int x2], h, 198, sl) = some R := hh
      have y_z1 := of_decide_eq_true z1
      obtain ⟨n, hh⟩ := rn_i rfl rfl rfl rfl hh
      obtain ⟨n, hh⟩ := rn_i rfl rfl rfl rfl hh
      have hh : pm_run PT n fr lo 266 (46, [some (.ref 162), some (.int (nI m1)), some (.int x2), some (.int (nI m3)), some (.int (nI i))], [.int (nI 1), .int (nI m1), .int x2], h, 198, sl) = some R := hh
      obtain ⟨n, hh⟩ := en_cn (cc := .ne) (off := 16) (t := 62) (b := decide (¬ m1 = 1)) (hI_ne (by omega) (by omega)) rfl rfl hh
      have hj7 : ∃ mJ, pm_run PT mJ fr lo 266 (cond (decide (¬ m1 = 1)) (82, [some (.ref 162), some (.int (nI m1)), some (.int x2), some (.int (nI m3)), some (.int (nI i))], [.int (cond (cond (pm_cmp .le ((Ar h 169) (6 * m3 + i)) 0) false true) 1 0), .int x2], h, 198, sl) (82, [some (.ref 162), some (.int (nI m1)), some (.int x2), some (.int (nI m3)), some (.int (nI i))], [.int (cond (v176 q cc gc (Ar h 170) m3 i) 1 0), .int x2], h, 198, sl)) = some R := en_J (fun z2 => by
          have hh := en_t z2 hh
          have hh : pm_run PT n fr lo 266 (62, [some (.ref 162), some (.int (nI m1)), some (.int x2), some (.int (nI m3)), some (.int (nI i))], [.int x2], h, 198, sl) = some R := hh
          have y_z2 := of_decide_eq_true z2
          obtain ⟨n, hh⟩ := rn_i rfl rfl rfl rfl hh
          have hh : pm_run PT n fr lo 266 (63, [some (.ref 162), some (.int (nI m1)), some (.int x2), some (.int (nI m3)), some (.int (nI i))], [.ref 162, .int x2], h, 198, sl) = some R := hh
          obtain ⟨n, hh⟩ := rn_gr hw.wt rfl rfl (by decide) rfl (by decide) (show _ = some (2, ((169 : Nat) : Int), 1) from rfl) rfl hh
          obtain ⟨n, hh⟩ := rn_i rfl rfl rfl rfl hh
          obtain ⟨n, hh⟩ := rn_i rfl rfl rfl rfl hh
          have hh : pm_run PT n fr lo 266 (69, [some (.ref 162), some (.int (nI m1)), some (.int x2), some (.int (nI m3)), some (.int (nI i))], [.int (nI m3), .int (nI 6), .ref 169, .int x2], h, 198, sl) = some R := hh
          obtain ⟨n, hh⟩ := en_mul rfl hh
          have hh : pm_run PT n fr lo 266 (70, [some (.ref 162), some (.int (nI m1)), some (.int x2), some (.int (nI m3)), some (.int (nI i))], [.int (nI (6 * m3)), .ref 169, .int x2], h, 198, sl) = some R := hh
          obtain ⟨n, hh⟩ := rn_i rfl rfl rfl rfl hh
          have hh : pm_run PT n fr lo 266 (72, [some (.ref 162), some (.int (nI m1)), some (.int x2), some (.int (nI m3)), some (.int (nI i))], [.int (nI i), .int (nI (6 * m3)), .ref 169, .int x2], h, 198, sl) = some R := hh
          obtain ⟨n, hh⟩ := en_add rfl hh
          have hh : pm_run PT n fr lo 266 (73, [some (.ref 162), some (.int (nI m1)), some (.int x2), some (.int (nI m3)), some (.int (nI i))], [.int (nI (6 * m3 + i)), .ref 169, .int x2], h, 198, sl) = some R := hh
          have hh : pm_run PT n fr lo 266 (73, [some (.ref 162), some (.int (nI m1)), some (.int x2), some (.int (nI m3)), some (.int (nI i))], [.int (nI (6 * m3 + i)), .ref 169, .int x2], h, 198, sl) = some R := hh
          obtain ⟨n, hx3, hh⟩ := en_lu (t := 6 * m3 + i) (f := Ar h 169) (w := (Ar h 169) (6 * m3 + i)) (nI_clamp (by omega)) hw.wt rfl (by decide) rfl (by decide) rfl (fun _ => rfl) hh
          have hh : pm_run PT n fr lo 266 (74, [some (.ref 162), some (.int (nI m1)), some (.int x2), some (.int (nI m3)), some (.int (nI i))], [.int ((Ar h 169) (6 * m3 + i)), .int x2], h, 198, sl) = some R := hh
          obtain ⟨n, hh⟩ := en_zn (cc := .le) (off := 7) (t := 81) (b := pm_cmp .le ((Ar h 169) (6 * m3 + i)) 0) rfl rfl rfl hh
          have hj5 : ∃ mJ, pm_run PT mJ fr lo 266 (cond (pm_cmp .le ((Ar h 169) (6 * m3 + i)) 0) (82, [some (.ref 162), some (.int (nI m1)), some (.int x2), some (.int (nI m3)), some (.int (nI i))], [.int (nI 0), .int x2], h, 198, sl) (82, [some (.ref 162), some (.int (nI m1)), some (.int x2), some (.int (nI m3)), some (.int (nI i))], [.int (nI 1), .int x2], h, 198, sl)) = some R := en_J (fun z4 => by
              have hh := en_t z4 hh
              have hh : pm_run PT n fr lo 266 (81, [some (.ref 162), some (.int (nI m1)), some (.int x2), some (.int (nI m3)), some (.int (nI i))], [.int x2], h, 198, sl) = some R := hh
              obtain ⟨n, hh⟩ := rn_i rfl rfl rfl rfl hh
              exact ⟨n, hh⟩) (fun z4 => by
              have hh := en_f z4 hh
              have hh : pm_run PT n fr lo 266 (77, [some (.ref 162), some (.int (nI m1)), some (.int x2), some (.int (nI m3)), some (.int (nI i))], [.int x2], h, 198, sl) = some R := hh
              obtain ⟨n, hh⟩ := rn_i rfl rfl rfl rfl hh
              obtain ⟨n, hh⟩ := rn_i rfl rfl rfl rfl hh
              exact ⟨n, hh⟩)
          obtain ⟨n, hh⟩ := hj5
          rw [show (cond (pm_cmp .le ((Ar h 169) (6 * m3 + i)) 0) (82, [some (.ref 162), some (.int (nI m1)), some (.int x2), some (.int (nI m3)), some (.int (nI i))], [.int (nI 0), .int x2], h, 198, sl) (82, [some (.ref 162), some (.int (nI m1)), some (.int x2), some (.int (nI m3)), some (.int (nI i))], [.int (nI 1), .int x2], h, 198, sl) : pm_St) = (82, [some (.ref 162), some (.int (nI m1)), some (.int x2), some (.int (nI m3)), some (.int (nI i))], [.int (cond (cond (pm_cmp .le ((Ar h 169) (6 * m3 + i)) 0) false true) 1 0), .int x2], h, 198, sl) from by cases (pm_cmp .le ((Ar h 169) (6 * m3 + i)) 0) <;> rfl] at hh
          exact ⟨n, hh⟩) (fun z2 => by
          have hh := en_f z2 hh
          have hh : pm_run PT n fr lo 266 (49, [some (.ref 162), some (.int (nI m1)), some (.int x2), some (.int (nI m3)), some (.int (nI i))], [.int x2], h, 198, sl) = some R := hh
          have y_z2 := of_decide_eq_false z2
          obtain ⟨n, hh⟩ := rn_i rfl rfl rfl rfl hh
          have hh : pm_run PT n fr lo 266 (50, [some (.ref 162), some (.int (nI m1)), some (.int x2), some (.int (nI m3)), some (.int (nI i))], [.ref 162, .int x2], h, 198, sl) = some R := hh
          obtain ⟨n, hh⟩ := rn_gr hw.wt rfl rfl (by decide) rfl (by decide) (show _ = some (2, ((170 : Nat) : Int), 1) from rfl) rfl hh
          obtain ⟨n, hh⟩ := rn_i rfl rfl rfl rfl hh
          obtain ⟨n, hh⟩ := rn_i rfl rfl rfl rfl hh
          have hh : pm_run PT n fr lo 266 (56, [some (.ref 162), some (.int (nI m1)), some (.int x2), some (.int (nI m3)), some (.int (nI i))], [.int (nI i), .int (nI m3), .ref 170, .int x2], h, 198, sl) = some R := hh
          obtain ⟨n, fr1, lo1, r1, hh1, hh⟩ := rn_call (w := 2) (t := 176) rfl rfl hh
          have er6 := v176_ok (a := m3) (b := i) hw (by omega) (by omega) hh1
          subst er6
          obtain ⟨n, hh⟩ := rn_i rfl rfl rfl rfl hh
          exact ⟨n, hh⟩)
      obtain ⟨n, hh⟩ := hj7
      rw [show (cond (decide (¬ m1 = 1)) (82, [some (.ref 162), some (.int (nI m1)), some (.int x2), some (.int (nI m3)), some (.int (nI i))], [.int (cond (cond (pm_cmp .le ((Ar h 169) (6 * m3 + i)) 0) false true) 1 0), .int x2], h, 198, sl) (82, [some (.ref 162), some (.int (nI m1)), some (.int x2), some (.int (nI m3)), some (.int (nI i))], [.int (cond (v176 q cc gc (Ar h 170) m3 i) 1 0), .int x2], h, 198, sl) : pm_St) = (82, [some (.ref 162), some (.int (nI m1)), some (.int x2), some (.int (nI m3)), some (.int (nI i))], [.int (cond (cond (decide (¬ m1 = 1)) (cond (pm_cmp .le ((Ar h 169) (6 * m3 + i)) 0) false true) (v176 q cc gc (Ar h 170) m3 i)) 1 0), .int x2], h, 198, sl) from by cases (decide (¬ m1 = 1)) <;> rfl] at hh
      exact ⟨n, hh⟩) (fun z1 => by
      have hh := en_f z1 hh
      have hh : pm_run PT n fr lo 266 (31, [some (.ref 162), some (.int (nI m1)), some (.int x2), some (.int (nI m3)), some (.int (nI i))], [.int x2], h, 198, sl) = some R := hh
      have y_z1 := of_decide_eq_false z1
      obtain ⟨n, hh⟩ := rn_i rfl rfl rfl rfl hh
      have hh : pm_run PT n fr lo 266 (32, [some (.ref 162), some (.int (nI m1)), some (.int x2), some (.int (nI m3)), some (.int (nI i))], [.ref 162, .int x2], h, 198, sl) = some R := hh
      obtain ⟨n, hh⟩ := rn_gr hw.wt rfl rfl (by decide) rfl (by decide) (show _ = some (2, ((170 : Nat) : Int), 1) from rfl) rfl hh
      obtain ⟨n, hh⟩ := rn_i rfl rfl rfl rfl hh
      obtain ⟨n, hh⟩ := rn_i rfl rfl rfl rfl hh
      have hh : pm_run PT n fr lo 266 (38, [some (.ref 162), some (.int (nI m1)), some (.int x2), some (.int (nI m3)), some (.int (nI i))], [.int (nI i), .int (nI m3), .ref 170, .int x2], h, 198, sl) = some R := hh
      obtain ⟨n, fr1, lo1, r1, hh1, hh⟩ := rn_call (w := 2) (t := 175) rfl rfl hh
      have er8 := v175_ok (a := m3) (b := i) hw (by omega) (by omega) hh1
      subst er8
      obtain ⟨n, hh⟩ := rn_i rfl rfl rfl rfl hh
      exact ⟨n, hh⟩)
  obtain ⟨n, hh⟩ := hj9
  rw [show (cond (decide (¬ m1 = 0)) (82, [some (.ref 162), some (.int (nI m1)), some (.int x2), some (.int (nI m3)), some (.int (nI i))], [.int (cond (cond (decide (¬ m1 = 1)) (cond (pm_cmp .le ((Ar h 169) (6 * m3 + i)) 0) false true) (v176 q cc gc (Ar h 170) m3 i)) 1 0), .int x2], h, 198, sl) (82, [some (.ref 162), some (.int (nI m1)), some (.int x2), some (.int (nI m3)), some (.int (nI i))], [.int (cond (v175 q cc gc (Ar h 170) m3 i) 1 0), .int x2], h, 198, sl) : pm_St) = (82, [some (.ref 162), some (.int (nI m1)), some (.int x2), some (.int (nI m3)), some (.int (nI i))], [.int (cond (cond (decide (¬ m1 = 0)) (cond (decide (¬ m1 = 1)) (cond (pm_cmp .le ((Ar h 169) (6 * m3 + i)) 0) false true) (v176 q cc gc (Ar h 170) m3 i)) (v175 q cc gc (Ar h 170) m3 i)) 1 0), .int x2], h, 198, sl) from by cases (decide (¬ m1 = 0)) <;> rfl] at hh
  have hh : pm_run PT n fr lo 266 (82, [some (.ref 162), some (.int (nI m1)), some (.int x2), some (.int (nI m3)), some (.int (nI i))], [.int (cond (cond (decide (¬ m1 = 0)) (cond (decide (¬ m1 = 1)) (cond (pm_cmp .le ((Ar h 169) (6 * m3 + i)) 0) false true) (v176 q cc gc (Ar h 170) m3 i)) (v175 q cc gc (Ar h 170) m3 i)) 1 0), .int x2], h, 198, sl) = some R := hh
  obtain ⟨n, fr1, lo1, r1, hh1, hh⟩ := rn_call (w := 2) (t := 165) rfl rfl hh
  have er10 := rn_dt (F := 10) (Lo := 1000) (hd_flag (fr := 10) (lo := 1000) (h := h) (sl := sl) (cond (decide (¬ m1 = 0)) (cond (decide (¬ m1 = 1)) (cond (pm_cmp .le ((Ar h 169) (6 * m3 + i)) 0) false true) (v176 q cc gc (Ar h 170) m3 i)) (v175 q cc gc (Ar h 170) m3 i))) hh1
  subst er10
  obtain ⟨n, hh⟩ := rn_i rfl rfl rfl rfl hh
  obtain ⟨n, hh⟩ := rn_i rfl rfl rfl rfl hh
  have hh : pm_run PT n fr lo 266 (87, [some (.ref 162), some (.int (nI m1)), some (.int (x2 + (cond (cond (decide (¬ m1 = 0)) (cond (decide (¬ m1 = 1)) (cond (pm_cmp .le ((Ar h 169) (6 * m3 + i)) 0) false true) (v176 q cc gc (Ar h 170) m3 i)) (v175 q cc gc (Ar h 170) m3 i)) 1 0))), some (.int (nI m3)), some (.int (nI i))], [], h, 198, sl) = some R := hh
  obtain ⟨n, hh⟩ := en_inc (x := i) (c := 1) (j := 4) rfl rfl (by decide) hh
  have hh : pm_run PT n fr lo 266 (90, [some (.ref 162), some (.int (nI m1)), some (.int (x2 + (cond (cond (decide (¬ m1 = 0)) (cond (decide (¬ m1 = 1)) (cond (pm_cmp .le ((Ar h 169) (6 * m3 + i)) 0) false true) (v176 q cc gc (Ar h 170) m3 i)) (v175 q cc gc (Ar h 170) m3 i)) 1 0))), some (.int (nI m3)), some (.int (nI (i + 1)))], [], h, 198, sl) = some R := hh
  obtain ⟨n, hh⟩ := rn_i rfl rfl rfl rfl hh
  have ed : v266_17b q cc gc (Ar h 169) (Ar h 170) m1 m3 i x2 = x2 + (cond (cond (decide (¬ m1 = 0)) (cond (decide (¬ m1 = 1)) (cond (pm_cmp .le ((Ar h 169) (6 * m3 + i)) 0) false true) (v176 q cc gc (Ar h 170) m3 i)) (v175 q cc gc (Ar h 170) m3 i)) 1 0) := rfl
  rw [ed]
  exact ⟨n, hh⟩
theorem v266_17_ok {fr lo sl cc gc : Nat} {q : QT} {R : pm_Rs} {m1 : Nat} {m3 : Nat} : ∀ {j i : Nat} {x2 : Int32} {h : pm_H} {n : Nat}, cc - i = j → i + j < 1000000 → HC q cc gc h → m1 < 10000 → m3 < 10000 → pm_run PT n fr lo 266 (17, [some (.ref 162), some (.int (nI m1)), some (.int x2), some (.int (nI m3)), some (.int (nI i))], [], h, 198, sl) = some R → ∃ m wc, pm_run PT m fr lo 266 (93, [some (.ref 162), some (.int (nI m1)), some (.int (v266_17 q cc gc (Ar h 169) (Ar h 170) m1 m3 j i x2)), some (.int (nI m3)), wc], [], h, 198, sl) = some R := by
  intro j
  induction j with
  | zero =>
    intro i x2 h n e eI hw h_m1 h_m3 hh
    obtain ⟨n, hh⟩ := v266_17_e hw h_m1 h_m3 (by omega) (by omega) hh
    exact ⟨n, _, hh⟩
  | succ j ih =>
    intro i x2 h n e eI hw h_m1 h_m3 hh
    obtain ⟨n, hh⟩ := v266_17_s hw h_m1 h_m3 (by omega) (by omega) hh
    obtain ⟨n, wc, hh⟩ := ih (by omega) (by omega) hw h_m1 h_m3 hh
    exact ⟨n, wc, hh⟩
def v266_4b (q : QT) (cc gc : Nat) (d0 : Nat → Int32) (d1 : Nat → Int32) (m1 : Nat) (i : Nat) (x2 : Int32) : Int32 := (v266_17 q cc gc (d0) (d1) m1 i (cc - (i + 1)) (i + 1) x2)
def v266_4 (q : QT) (cc gc : Nat) (d0 : Nat → Int32) (d1 : Nat → Int32) (m1 : Nat) (j i : Nat) (a : Int32) : Int32 := lp (fun i a => v266_4b q cc gc d0 d1 m1 i a) j i a
theorem v266_4_e {n fr lo sl cc gc : Nat} {q : QT} {h : pm_H} {R : pm_Rs} {m1 : Nat} {i : Nat} {x2 : Int32} {o4 : Option Value} (hw : HC q cc gc h) (h_m1 : m1 < 10000) (hi : cc ≤ i) (hI : i < 1000000) (hh : pm_run PT n fr lo 266 (4, [some (.ref 162), some (.int (nI m1)), some (.int x2), some (.int (nI i)), o4], [], h, 198, sl) = some R) : ∃ m, pm_run PT m fr lo 266 (99, [some (.ref 162), some (.int (nI m1)), some (.int x2), some (.int (nI i)), o4], [], h, 198, sl) = some R := by
  have hcc := hw.cb
  have hgc := hw.gb
  have hzr := hw.zr
  obtain ⟨n, hh⟩ := rn_i rfl rfl rfl rfl hh
  obtain ⟨n, hh⟩ := rn_i rfl rfl rfl rfl hh
  have hh : pm_run PT n fr lo 266 (6, [some (.ref 162), some (.int (nI m1)), some (.int x2), some (.int (nI i)), o4], [.ref 162, .int (nI i)], h, 198, sl) = some R := hh
  obtain ⟨n, hh⟩ := rn_gi (x := nI cc) hw.wt rfl rfl (by decide) rfl (by decide) rfl hw.m3 hh
  have hh : pm_run PT n fr lo 266 (9, [some (.ref 162), some (.int (nI m1)), some (.int x2), some (.int (nI i)), o4], [.int (nI cc), .int (nI i)], h, 198, sl) = some R := hh
  obtain ⟨n, hh⟩ := en_cn (cc := .ge) (off := 90) (t := 99) (b := decide (cc ≤ i)) (hI_ge (by omega) (by omega)) rfl rfl hh
  have hh := en_t (show decide (cc ≤ i) = true from decide_eq_true (by omega)) hh
  have hh : pm_run PT n fr lo 266 (99, [some (.ref 162), some (.int (nI m1)), some (.int x2), some (.int (nI i)), o4], [], h, 198, sl) = some R := hh
  exact ⟨n, hh⟩
theorem v266_4_s {n fr lo sl cc gc : Nat} {q : QT} {h : pm_H} {R : pm_Rs} {m1 : Nat} {i : Nat} {x2 : Int32} {o4 : Option Value} (hw : HC q cc gc h) (h_m1 : m1 < 10000) (hi : i < cc) (hI : i < 1000000) (hh : pm_run PT n fr lo 266 (4, [some (.ref 162), some (.int (nI m1)), some (.int x2), some (.int (nI i)), o4], [], h, 198, sl) = some R) : ∃ m w4, pm_run PT m fr lo 266 (4, [some (.ref 162), some (.int (nI m1)), some (.int (v266_4b q cc gc (Ar h 169) (Ar h 170) m1 i x2)), some (.int (nI (i + 1))), w4], [], h, 198, sl) = some R := by
  have hcc := hw.cb
  have hgc := hw.gb
  have hzr := hw.zr
  obtain ⟨n, hh⟩ := rn_i rfl rfl rfl rfl hh
  obtain ⟨n, hh⟩ := rn_i rfl rfl rfl rfl hh
  have hh : pm_run PT n fr lo 266 (6, [some (.ref 162), some (.int (nI m1)), some (.int x2), some (.int (nI i)), o4], [.ref 162, .int (nI i)], h, 198, sl) = some R := hh
  obtain ⟨n, hh⟩ := rn_gi (x := nI cc) hw.wt rfl rfl (by decide) rfl (by decide) rfl hw.m3 hh
  have hh : pm_run PT n fr lo 266 (9, [some (.ref 162), some (.int (nI m1)), some (.int x2), some (.int (nI i)), o4], [.int (nI cc), .int (nI i)], h, 198, sl) = some R := hh
  obtain ⟨n, hh⟩ := en_cn (cc := .ge) (off := 90) (t := 99) (b := decide (cc ≤ i)) (hI_ge (by omega) (by omega)) rfl rfl hh
  have hh := en_f (show decide (cc ≤ i) = false from decide_eq_false (by omega)) hh
  have hh : pm_run PT n fr lo 266 (12, [some (.ref 162), some (.int (nI m1)), some (.int x2), some (.int (nI i)), o4], [], h, 198, sl) = some R := hh
  obtain ⟨n, hh⟩ := rn_i rfl rfl rfl rfl hh
  obtain ⟨n, hh⟩ := rn_i rfl rfl rfl rfl hh
  have hh : pm_run PT n fr lo 266 (14, [some (.ref 162), some (.int (nI m1)), some (.int x2), some (.int (nI i)), o4], [.int (nI 1), .int (nI i)], h, 198, sl) = some R := hh
  obtain ⟨n, hh⟩ := en_add rfl hh
  have hh : pm_run PT n fr lo 266 (15, [some (.ref 162), some (.int (nI m1)), some (.int x2), some (.int (nI i)), o4], [.int (nI (i + 1))], h, 198, sl) = some R := hh
  obtain ⟨n, hh⟩ := rn_i rfl rfl rfl rfl hh
  have hh : pm_run PT n fr lo 266 (17, [some (.ref 162), some (.int (nI m1)), some (.int x2), some (.int (nI i)), some (.int (nI (i + 1)))], [], h, 198, sl) = some R := hh
  obtain ⟨n, u1, hh⟩ := v266_17_ok (m1 := m1) (m3 := i)  (i := i + 1) (x2 := x2) (j := (cc - (i + 1))) (by omega) (by omega) hw (by omega) (by omega) hh
  have hh : pm_run PT n fr lo 266 (93, [some (.ref 162), some (.int (nI m1)), some (.int (v266_17 q cc gc (Ar h 169) (Ar h 170) m1 i (cc - (i + 1)) (i + 1) x2)), some (.int (nI i)), u1], [], h, 198, sl) = some R := hh
  have hh : pm_run PT n fr lo 266 (93, [some (.ref 162), some (.int (nI m1)), some (.int (v266_17 q cc gc (Ar h 169) (Ar h 170) m1 i (cc - (i + 1)) (i + 1) x2)), some (.int (nI i)), u1], [], h, 198, sl) = some R := hh
  obtain ⟨n, hh⟩ := en_inc (x := i) (c := 1) (j := 3) rfl rfl (by decide) hh
  have hh : pm_run PT n fr lo 266 (96, [some (.ref 162), some (.int (nI m1)), some (.int (v266_17 q cc gc (Ar h 169) (Ar h 170) m1 i (cc - (i + 1)) (i + 1) x2)), some (.int (nI (i + 1))), u1], [], h, 198, sl) = some R := hh
  obtain ⟨n, hh⟩ := rn_i rfl rfl rfl rfl hh
  have ed : v266_4b q cc gc (Ar h 169) (Ar h 170) m1 i x2 = (v266_17 q cc gc (Ar h 169) (Ar h 170) m1 i (cc - (i + 1)) (i + 1) x2) := rfl
  rw [ed]
  exact ⟨n, u1, hh⟩
theorem v266_4_ok {fr lo sl cc gc : Nat} {q : QT} {R : pm_Rs} {m1 : Nat} : ∀ {j i : Nat} {x2 : Int32} {o4 : Option Value} {h : pm_H} {n : Nat}, cc - i = j → i + j < 1000000 → HC q cc gc h → m1 < 10000 → pm_run PT n fr lo 266 (4, [some (.ref 162), some (.int (nI m1)), some (.int x2), some (.int (nI i)), o4], [], h, 198, sl) = some R → ∃ m wc w4, pm_run PT m fr lo 266 (99, [some (.ref 162), some (.int (nI m1)), some (.int (v266_4 q cc gc (Ar h 169) (Ar h 170) m1 j i x2)), wc, w4], [], h, 198, sl) = some R := by
  intro j
  induction j with
  | zero =>
    intro i x2 o4 h n e eI hw h_m1 hh
    obtain ⟨n, hh⟩ := v266_4_e hw h_m1 (by omega) (by omega) hh
    exact ⟨n, _, o4, hh⟩
  | succ j ih =>
    intro i x2 o4 h n e eI hw h_m1 hh
    obtain ⟨n, w4, hh⟩ := v266_4_s hw h_m1 (by omega) (by omega) hh
    obtain ⟨n, wc, v4, hh⟩ := ih (by omega) (by omega) hw h_m1 hh
    exact ⟨n, wc, v4, hh⟩
def v266 (q : QT) (cc gc : Nat) (d0 : Nat → Int32) (d1 : Nat → Int32) (w : Nat) : Int32 := (v266_4 q cc gc (d0) (d1) w cc 0 (nI 0))
theorem v266_ok {n fr lo sl cc gc : Nat} {q : QT} {h : pm_H} {R : pm_Rs} {w : Nat} (hw : HC q cc gc h) (h_w : w < 10000) (hh : pm_run PT n fr lo 266 (0, pm_l0 [.ref 162, .int (nI w)] 5, [], h, 198, sl) = some R) : R = (some (.int (v266 q cc gc (Ar h 169) (Ar h 170) w)), h, 198, sl) := by
  have hcc := hw.cb
  have hgc := hw.gb
  have hzr := hw.zr
  obtain ⟨n, hh⟩ := rn_i rfl rfl rfl rfl hh
  obtain ⟨n, hh⟩ := rn_i rfl rfl rfl rfl hh
  obtain ⟨n, hh⟩ := rn_i rfl rfl rfl rfl hh
  obtain ⟨n, hh⟩ := rn_i rfl rfl rfl rfl hh
  have hh : pm_run PT n fr lo 266 (4, [some (.ref 162), some (.int (nI w)), some (.int (nI 0)), some (.int (nI 0)), none], [], h, 198, sl) = some R := hh
  obtain ⟨n, u2, u1, hh⟩ := v266_4_ok (m1 := w)  (i := 0) (x2 := (nI 0)) (o4 := none) (j := cc) (by omega) (by omega) hw (by omega) hh
  have hh : pm_run PT n fr lo 266 (99, [some (.ref 162), some (.int (nI w)), some (.int (v266_4 q cc gc (Ar h 169) (Ar h 170) w cc 0 (nI 0))), u2, u1], [], h, 198, sl) = some R := hh
  obtain ⟨n, hh⟩ := rn_i rfl rfl rfl rfl hh
  have hh : pm_run PT n fr lo 266 (100, [some (.ref 162), some (.int (nI w)), some (.int (v266_4 q cc gc (Ar h 169) (Ar h 170) w cc 0 (nI 0))), u2, u1], [.int (v266_4 q cc gc (Ar h 169) (Ar h 170) w cc 0 (nI 0))], h, 198, sl) = some R := hh
  have er3 : R = (some (.int (v266_4 q cc gc (Ar h 169) (Ar h 170) w cc 0 (nI 0))), h, 198, sl) := (rn_ret rfl (Or.inl rfl) hh).2
  have ed : v266 q cc gc (Ar h 169) (Ar h 170) w = (v266_4 q cc gc (Ar h 169) (Ar h 170) w cc 0 (nI 0)) := rfl
  rw [ed]
  exact er3
def v257_4b (q : QT) (cc gc : Nat) (h : pm_H) (i : Nat) (x1 : Int32) : Int32 × pm_H := (x1 + ((v201 q cc gc h i (((Ar h 170) (78 + i)).toNatClampNeg)).1), (v201 q cc gc h i (((Ar h 170) (78 + i)).toNatClampNeg)).2)
def v257_4 (q : QT) (cc gc : Nat) (j i : Nat) (a : Int32 × pm_H) : Int32 × pm_H := lp (fun i a => v257_4b q cc gc a.2 i a.1) j i a
theorem v257_4_e {n fr lo sl cc gc : Nat} {q : QT} {h : pm_H} {R : pm_Rs} {i : Nat} {x1 : Int32} (hw : HC q cc gc h) (hol : NA h 170 78 86 6) (hi : gc ≤ i) (hI : i < 1000000) (hh : pm_run PT n fr lo 257 (4, [some (.ref 162), some (.int x1), some (.int (nI i))], [], h, 198, sl) = some R) : ∃ m, pm_run PT m fr lo 257 (39, [some (.ref 162), some (.int x1), some (.int (nI i))], [], h, 198, sl) = some R := by
  have hcc := hw.cb
  have hgc := hw.gb
  have hzr := hw.zr
  obtain ⟨n, hh⟩ := rn_i rfl rfl rfl rfl hh
  obtain ⟨n, hh⟩ := rn_i rfl rfl rfl rfl hh
  have hh : pm_run PT n fr lo 257 (6, [some (.ref 162), some (.int x1), some (.int (nI i))], [.ref 162, .int (nI i)], h, 198, sl) = some R := hh
  obtain ⟨n, hh⟩ := rn_gi (x := nI gc) hw.wt rfl rfl (by decide) rfl (by decide) rfl hw.m4 hh
  have hh : pm_run PT n fr lo 257 (9, [some (.ref 162), some (.int x1), some (.int (nI i))], [.int (nI gc), .int (nI i)], h, 198, sl) = some R := hh
  obtain ⟨n, hh⟩ := en_cn (cc := .ge) (off := 30) (t := 39) (b := decide (gc ≤ i)) (hI_ge (by omega) (by omega)) rfl rfl hh
  have hh := en_t (show decide (gc ≤ i) = true from decide_eq_true (by omega)) hh
  have hh : pm_run PT n fr lo 257 (39, [some (.ref 162), some (.int x1), some (.int (nI i))], [], h, 198, sl) = some R := hh
  exact ⟨n, hh⟩
theorem v257_4_s {n fr lo sl cc gc : Nat} {q : QT} {h : pm_H} {R : pm_Rs} {i : Nat} {x1 : Int32} (hw : HC q cc gc h) (hol : NA h 170 78 86 6) (hi : i < gc) (hI : i < 1000000) (hh : pm_run PT n fr lo 257 (4, [some (.ref 162), some (.int x1), some (.int (nI i))], [], h, 198, sl) = some R) : ∃ m, HC q cc gc ((v257_4b q cc gc h i x1).2) ∧ frm [176, 177] [] h ((v257_4b q cc gc h i x1).2) ∧ NA ((v257_4b q cc gc h i x1).2) 170 78 86 6 ∧ pm_run PT m fr lo 257 (4, [some (.ref 162), some (.int ((v257_4b q cc gc h i x1).1)), some (.int (nI (i + 1)))], [], (v257_4b q cc gc h i x1).2, 198, sl) = some R := by
  have hcc := hw.cb
  have hgc := hw.gb
  have hzr := hw.zr
  obtain ⟨n, hh⟩ := rn_i rfl rfl rfl rfl hh
  obtain ⟨n, hh⟩ := rn_i rfl rfl rfl rfl hh
  have hh : pm_run PT n fr lo 257 (6, [some (.ref 162), some (.int x1), some (.int (nI i))], [.ref 162, .int (nI i)], h, 198, sl) = some R := hh
  obtain ⟨n, hh⟩ := rn_gi (x := nI gc) hw.wt rfl rfl (by decide) rfl (by decide) rfl hw.m4 hh
  have hh : pm_run PT n fr lo 257 (9, [some (.ref 162), some (.int x1), some (.int (nI i))], [.int (nI gc), .int (nI i)], h, 198, sl) = some R := hh
  obtain ⟨n, hh⟩ := en_cn (cc := .ge) (off := 30) (t := 39) (b := decide (gc ≤ i)) (hI_ge (by omega) (by omega)) rfl rfl hh
  have hh := en_f (show decide (gc ≤ i) = false from decide_eq_false (by omega)) hh
  have hh : pm_run PT n fr lo 257 (12, [some (.ref 162), some (.int x1), some (.int (nI i))], [], h, 198, sl) = some R := hh
  obtain ⟨n, hh⟩ := rn_i rfl rfl rfl rfl hh
  obtain ⟨n, hh⟩ := rn_i rfl rfl rfl rfl hh
  obtain ⟨n, hh⟩ := rn_i rfl rfl rfl rfl hh
  have hh : pm_run PT n fr lo 257 (15, [some (.ref 162), some (.int x1), some (.int (nI i))], [.ref 162, .ref 162, .int x1], h, 198, sl) = some R := hh
  obtain ⟨n, hh⟩ := rn_gr hw.wt rfl rfl (by decide) rfl (by decide) (show _ = some (2, ((170 : Nat) : Int), 1) from rfl) rfl hh
  obtain ⟨n, hh⟩ := rn_i rfl rfl rfl rfl hh
  obtain ⟨n, hh⟩ := rn_i rfl rfl rfl rfl hh
  have hh : pm_run PT n fr lo 257 (20, [some (.ref 162), some (.int x1), some (.int (nI i))], [.ref 162, .int (nI i), .ref 170, .ref 162, .int x1], h, 198, sl) = some R := hh
  obtain ⟨n, hh⟩ := rn_gr hw.wt rfl rfl (by decide) rfl (by decide) (show _ = some (2, ((170 : Nat) : Int), 1) from rfl) rfl hh
  obtain ⟨n, hh⟩ := rn_i rfl rfl rfl rfl hh
  obtain ⟨n, hh⟩ := rn_i rfl rfl rfl rfl hh
  have hh : pm_run PT n fr lo 257 (26, [some (.ref 162), some (.int x1), some (.int (nI i))], [.int (nI i), .int (nI 78), .ref 170, .int (nI i), .ref 170, .ref 162, .int x1], h, 198, sl) = some R := hh
  obtain ⟨n, hh⟩ := en_add rfl hh
  have hh : pm_run PT n fr lo 257 (27, [some (.ref 162), some (.int x1), some (.int (nI i))], [.int (nI (78 + i)), .ref 170, .int (nI i), .ref 170, .ref 162, .int x1], h, 198, sl) = some R := hh
  have hh : pm_run PT n fr lo 257 (27, [some (.ref 162), some (.int x1), some (.int (nI i))], [.int (nI (78 + i)), .ref 170, .int (nI i), .ref 170, .ref 162, .int x1], h, 198, sl) = some R := hh
  obtain ⟨n, hx1, hh⟩ := en_lu (t := 78 + i) (f := Ar h 170) (w := nI (((Ar h 170) (78 + i)).toNatClampNeg)) (nI_clamp (by omega)) hw.wt rfl (by decide) rfl (by decide) rfl (fun z => (hol _ (by omega) (by omega)).1) hh
  have hb2 := (hol (78 + i) (by omega) (by omega)).2
  have hh : pm_run PT n fr lo 257 (28, [some (.ref 162), some (.int x1), some (.int (nI i))], [.int (nI (((Ar h 170) (78 + i)).toNatClampNeg)), .int (nI i), .ref 170, .ref 162, .int x1], h, 198, sl) = some R := hh
  obtain ⟨n, fr1, lo1, r1, hh1, hh⟩ := rn_call (w := 0) (t := 201) rfl rfl hh
  obtain ⟨er3, hc4, hf5⟩ := v201_ok (g := i) (c := (((Ar h 170) (78 + i)).toNatClampNeg)) hw (by omega) (by omega) hh1
  subst er3
  obtain ⟨n, hh⟩ := rn_i rfl rfl rfl rfl hh
  obtain ⟨n, hh⟩ := rn_i rfl rfl rfl rfl hh
  have hh : pm_run PT n fr lo 257 (33, [some (.ref 162), some (.int (x1 + ((v201 q cc gc h i (((Ar h 170) (78 + i)).toNatClampNeg)).1))), some (.int (nI i))], [], (v201 q cc gc h i (((Ar h 170) (78 + i)).toNatClampNeg)).2, 198, sl) = some R := hh
  obtain ⟨n, hh⟩ := en_inc (x := i) (c := 1) (j := 2) rfl rfl (by decide) hh
  have hh : pm_run PT n fr lo 257 (36, [some (.ref 162), some (.int (x1 + ((v201 q cc gc h i (((Ar h 170) (78 + i)).toNatClampNeg)).1))), some (.int (nI (i + 1)))], [], (v201 q cc gc h i (((Ar h 170) (78 + i)).toNatClampNeg)).2, 198, sl) = some R := hh
  obtain ⟨n, hh⟩ := rn_i rfl rfl rfl rfl hh
  have ed : v257_4b q cc gc h i x1 = (x1 + ((v201 q cc gc h i (((Ar h 170) (78 + i)).toNatClampNeg)).1), (v201 q cc gc h i (((Ar h 170) (78 + i)).toNatClampNeg)).2) := rfl
  rw [ed]
  exact ⟨n, hc4, (fr_g rfl rfl hf5 fr_0), (NA_e ((Ar_e (hf5.1 170 rfl)).trans rfl) hol), hh⟩
theorem v257_4_ok {fr lo sl cc gc : Nat} {q : QT} {R : pm_Rs} : ∀ {j i : Nat} {x1 : Int32} {h : pm_H} {n : Nat}, gc - i = j → i + j < 1000000 → HC q cc gc h → NA h 170 78 86 6 → pm_run PT n fr lo 257 (4, [some (.ref 162), some (.int x1), some (.int (nI i))], [], h, 198, sl) = some R → ∃ m wc, HC q cc gc ((v257_4 q cc gc j i (x1, h)).2) ∧ frm [176, 177] [] h ((v257_4 q cc gc j i (x1, h)).2) ∧ NA ((v257_4 q cc gc j i (x1, h)).2) 170 78 86 6 ∧ pm_run PT m fr lo 257 (39, [some (.ref 162), some (.int ((v257_4 q cc gc j i (x1, h)).1)), wc], [], (v257_4 q cc gc j i (x1, h)).2, 198, sl) = some R := by
  intro j
  induction j with
  | zero =>
    intro i x1 h n e eI hw hol hh
    obtain ⟨n, hh⟩ := v257_4_e hw hol (by omega) (by omega) hh
    exact ⟨n, _, hw, fr_0, hol, hh⟩
  | succ j ih =>
    intro i x1 h n e eI hw hol hh
    obtain ⟨n, hc, hf, hol', hh⟩ := v257_4_s hw hol (by omega) (by omega) hh
    obtain ⟨n, wc, hc2, hf2, hol'', hh⟩ := ih (by omega) (by omega) hc hol' hh
    exact ⟨n, wc, hc2, fr_t hf2 hf, hol'', hh⟩
theorem v257_4_fb {cc gc : Nat} {q : QT} {h : pm_H} {i : Nat} {x1 : Int32} (hw : HC q cc gc h) : HC q cc gc ((v257_4b q cc gc h i x1).2) ∧ frm [176, 177] [] h ((v257_4b q cc gc h i x1).2) := by
  unfold v257_4b
  show HC q cc gc ((v201 q cc gc h i (((Ar h 170) (78 + i)).toNatClampNeg)).2) ∧ frm [176, 177] [] h ((v201 q cc gc h i (((Ar h 170) (78 + i)).toNatClampNeg)).2)
  exact ⟨(v201_fr (g := i) (c := (((Ar h 170) (78 + i)).toNatClampNeg)) hw).1, (fr_g rfl rfl (v201_fr (g := i) (c := (((Ar h 170) (78 + i)).toNatClampNeg)) hw).2 fr_0)⟩
theorem v257_4_fr {cc gc : Nat} {q : QT} : ∀ {j i : Nat} {x1 : Int32} {h : pm_H}, HC q cc gc h → HC q cc gc ((v257_4 q cc gc j i (x1, h)).2) ∧ frm [176, 177] [] h ((v257_4 q cc gc j i (x1, h)).2) := by
  intro j
  induction j with
  | zero =>
    intro i x1 h hw
    exact ⟨hw, fr_0⟩
  | succ j ih =>
    intro i x1 h hw
    obtain ⟨a1, a2⟩ := v257_4_fb (i := i) (x1 := x1) hw
    obtain ⟨b1, b2⟩ := ih (i := i + 1) a1
    exact ⟨b1, fr_t b2 a2⟩
def v257 (q : QT) (cc gc : Nat) (h : pm_H) : Int32 × pm_H := ((v257_4 q cc gc gc 0 ((nI 0), h)).1, (v257_4 q cc gc gc 0 ((nI 0), h)).2)
theorem v257_ok {n fr lo sl cc gc : Nat} {q : QT} {h : pm_H} {R : pm_Rs} (hw : HC q cc gc h) (hol : NA h 170 78 86 6) (hh : pm_run PT n fr lo 257 (0, pm_l0 [.ref 162] 3, [], h, 198, sl) = some R) : R = (some (.int ((v257 q cc gc h).1)), (v257 q cc gc h).2, 198, sl) ∧ HC q cc gc ((v257 q cc gc h).2) ∧ frm [176, 177] [] h ((v257 q cc gc h).2) := by
  have hcc := hw.cb
  have hgc := hw.gb
  have hzr := hw.zr
  obtain ⟨n, hh⟩ := rn_i rfl rfl rfl rfl hh
  obtain ⟨n, hh⟩ := rn_i rfl rfl rfl rfl hh
  obtain ⟨n, hh⟩ := rn_i rfl rfl rfl rfl hh
  obtain ⟨n, hh⟩ := rn_i rfl rfl rfl rfl hh
  have hh : pm_run PT n fr lo 257 (4, [some (.ref 162), some (.int (nI 0)), some (.int (nI 0))], [], h, 198, sl) = some R := hh
  obtain ⟨n, u1, hc3, hf4, hn2, hh⟩ := v257_4_ok  (i := 0) (x1 := (nI 0)) (j := gc) (by omega) (by omega) hw hol hh
  have hh : pm_run PT n fr lo 257 (39, [some (.ref 162), some (.int ((v257_4 q cc gc gc 0 ((nI 0), h)).1)), u1], [], (v257_4 q cc gc gc 0 ((nI 0), h)).2, 198, sl) = some R := hh
  obtain ⟨n, hh⟩ := rn_i rfl rfl rfl rfl hh
  have hh : pm_run PT n fr lo 257 (40, [some (.ref 162), some (.int ((v257_4 q cc gc gc 0 ((nI 0), h)).1)), u1], [.int ((v257_4 q cc gc gc 0 ((nI 0), h)).1)], (v257_4 q cc gc gc 0 ((nI 0), h)).2, 198, sl) = some R := hh
  have er5 : R = (some (.int ((v257_4 q cc gc gc 0 ((nI 0), h)).1)), (v257_4 q cc gc gc 0 ((nI 0), h)).2, 198, sl) := (rn_ret rfl (Or.inl rfl) hh).2
  have ed : v257 q cc gc h = ((v257_4 q cc gc gc 0 ((nI 0), h)).1, (v257_4 q cc gc gc 0 ((nI 0), h)).2) := rfl
  refine ⟨?_, ?_, ?_⟩ <;> rw [ed]
  · exact er5
  · exact hc3
  · exact (fr_g rfl rfl hf4 fr_0)
theorem v257_fr {cc gc : Nat} {q : QT} {h : pm_H} (hw : HC q cc gc h) : HC q cc gc ((v257 q cc gc h).2) ∧ frm [176, 177] [] h ((v257 q cc gc h).2) := by
  unfold v257
  show HC q cc gc ((v257_4 q cc gc gc 0 ((nI 0), h)).2) ∧ frm [176, 177] [] h ((v257_4 q cc gc gc 0 ((nI 0), h)).2)
  exact ⟨(v257_4_fr (j := gc) (i := 0) (x1 := (nI 0)) hw).1, (fr_g rfl rfl (v257_4_fr (j := gc) (i := 0) (x1 := (nI 0)) hw).2 fr_0)⟩
def v253 (q : QT) (cc gc : Nat) (d0 : Nat → Int32) (d1 : Nat → Int32) (d2 : Nat → Int32) (g : Nat) (w : Int32) (v : Int32) : Bool := cond (pm_cmp .eq w (nI 0)) (cond (pm_cmp .ne ((d0) g) v) false true) (cond (pm_cmp .eq w (nI 1)) (cond (pm_cmp .lt ((d1) g) v) false true) (cond (pm_cmp .eq w (nI 2)) (v164 q cc gc ((d2) (86 + g)) v) (cond (pm_cmp .ne (cond (v173 q cc gc (d2) g) 1 0) v) false true)))
theorem v253_ok {n fr lo sl cc gc : Nat} {q : QT} {h : pm_H} {R : pm_Rs} {g : Nat} {w : Int32} {v : Int32} (hw : HC q cc gc h) (h_g : g < 10000) (hh : pm_run PT n fr lo 253 (0, pm_l0 [.ref 162, .int (nI g), .int w, .int v] 4, [], h, 198, sl) = some R) : R = (some (.int (cond (v253 q cc gc (Ar h 166) (Ar h 167) (Ar h 170) g w v) 1 0)), h, 198, sl) := by
  have hcc := hw.cb
  have hgc := hw.gb
  have hzr := hw.zr
  obtain ⟨n, hh⟩ := rn_i rfl rfl rfl rfl hh
  have hh : pm_run PT n fr lo 253 (1, [some (.ref 162), some (.int (nI g)), some (.int w), some (.int v)], [.int w], h, 198, sl) = some R := hh
  cases z1 : pm_cmp .eq w (nI 0) with
  | true =>
    obtain ⟨n, hh⟩ := en_tsc (c := 0) (t := 28) rfl (en_xc (c := 0) (by decide) z1) (by decide) rfl rfl hh
    have hh : pm_run PT n fr lo 253 (28, [some (.ref 162), some (.int (nI g)), some (.int w), some (.int v)], [], h, 198, sl) = some R := hh
    obtain ⟨n, hh⟩ := rn_i rfl rfl rfl rfl hh
    have hh : pm_run PT n fr lo 253 (29, [some (.ref 162), some (.int (nI g)), some (.int w), some (.int v)], [.ref 162], h, 198, sl) = some R := hh
    obtain ⟨n, hh⟩ := rn_gr hw.wt rfl rfl (by decide) rfl (by decide) (show _ = some (2, ((166 : Nat) : Int), 1) from rfl) rfl hh
    obtain ⟨n, hh⟩ := rn_i rfl rfl rfl rfl hh
    have hh : pm_run PT n fr lo 253 (33, [some (.ref 162), some (.int (nI g)), some (.int w), some (.int v)], [.int (nI g), .ref 166], h, 198, sl) = some R := hh
    obtain ⟨n, hx2, hh⟩ := en_lu (t := g) (f := Ar h 166) (w := (Ar h 166) g) (nI_clamp (by omega)) hw.wt rfl (by decide) rfl (by decide) rfl (fun _ => rfl) hh
    obtain ⟨n, hh⟩ := rn_i rfl rfl rfl rfl hh
    have hh : pm_run PT n fr lo 253 (35, [some (.ref 162), some (.int (nI g)), some (.int w), some (.int v)], [.int v, .int ((Ar h 166) g)], h, 198, sl) = some R := hh
    obtain ⟨n, hh⟩ := en_cn (cc := .ne) (off := 7) (t := 42) (b := pm_cmp .ne ((Ar h 166) g) v) rfl rfl rfl hh
    have hj4 : ∃ mJ, pm_run PT mJ fr lo 253 (cond (pm_cmp .ne ((Ar h 166) g) v) (43, [some (.ref 162), some (.int (nI g)), some (.int w), some (.int v)], [.int (nI 0)], h, 198, sl) (43, [some (.ref 162), some (.int (nI g)), some (.int w), some (.int v)], [.int (nI 1)], h, 198, sl)) = some R := en_J (fun z3 => by
        have hh := en_t z3 hh
        have hh : pm_run PT n fr lo 253 (42, [some (.ref 162), some (.int (nI g)), some (.int w), some (.int v)], [], h, 198, sl) = some R := hh
        obtain ⟨n, hh⟩ := rn_i rfl rfl rfl rfl hh
        exact ⟨n, hh⟩) (fun z3 => by
        have hh := en_f z3 hh
        have hh : pm_run PT n fr lo 253 (38, [some (.ref 162), some (.int (nI g)), some (.int w), some (.int v)], [], h, 198, sl) = some R := hh
        obtain ⟨n, hh⟩ := rn_i rfl rfl rfl rfl hh
        obtain ⟨n, hh⟩ := rn_i rfl rfl rfl rfl hh
        exact ⟨n, hh⟩)
    obtain ⟨n, hh⟩ := hj4
    rw [show (cond (pm_cmp .ne ((Ar h 166) g) v) (43, [some (.ref 162), some (.int (nI g)), some (.int w), some (.int v)], [.int (nI 0)], h, 198, sl) (43, [some (.ref 162), some (.int (nI g)), some (.int w), some (.int v)], [.int (nI 1)], h, 198, sl) : pm_St) = (43, [some (.ref 162), some (.int (nI g)), some (.int w), some (.int v)], [.int (cond (cond (pm_cmp .ne ((Ar h 166) g) v) false true) 1 0)], h, 198, sl) from by cases (pm_cmp .ne ((Ar h 166) g) v) <;> rfl] at hh
    have hh : pm_run PT n fr lo 253 (43, [some (.ref 162), some (.int (nI g)), some (.int w), some (.int v)], [.int (cond (cond (pm_cmp .ne ((Ar h 166) g) v) false true) 1 0)], h, 198, sl) = some R := hh
    have er5 : R = (some (.int (cond (cond (pm_cmp .ne ((Ar h 166) g) v) false true) 1 0)), h, 198, sl) := (rn_ret rfl (Or.inr rfl) hh).2
    have ed : v253 q cc gc (Ar h 166) (Ar h 167) (Ar h 170) g w v = cond (pm_cmp .ne ((Ar h 166) g) v) false true := (ct z1).trans rfl
    rw [ed]
    exact er5
  | false =>
    cases z6 : pm_cmp .eq w (nI 1) with
    | true =>
      obtain ⟨n, hh⟩ := en_tsc (c := 1) (t := 44) rfl (en_xc (c := 1) (by decide) z6) (by decide) rfl rfl hh
      have hh : pm_run PT n fr lo 253 (44, [some (.ref 162), some (.int (nI g)), some (.int w), some (.int v)], [], h, 198, sl) = some R := hh
      obtain ⟨n, hh⟩ := rn_i rfl rfl rfl rfl hh
      have hh : pm_run PT n fr lo 253 (45, [some (.ref 162), some (.int (nI g)), some (.int w), some (.int v)], [.ref 162], h, 198, sl) = some R := hh
      obtain ⟨n, hh⟩ := rn_gr hw.wt rfl rfl (by decide) rfl (by decide) (show _ = some (2, ((167 : Nat) : Int), 1) from rfl) rfl hh
      obtain ⟨n, hh⟩ := rn_i rfl rfl rfl rfl hh
      have hh : pm_run PT n fr lo 253 (49, [some (.ref 162), some (.int (nI g)), some (.int w), some (.int v)], [.int (nI g), .ref 167], h, 198, sl) = some R := hh
      obtain ⟨n, hx7, hh⟩ := en_lu (t := g) (f := Ar h 167) (w := (Ar h 167) g) (nI_clamp (by omega)) hw.wt rfl (by decide) rfl (by decide) rfl (fun _ => rfl) hh
      obtain ⟨n, hh⟩ := rn_i rfl rfl rfl rfl hh
      have hh : pm_run PT n fr lo 253 (51, [some (.ref 162), some (.int (nI g)), some (.int w), some (.int v)], [.int v, .int ((Ar h 167) g)], h, 198, sl) = some R := hh
      obtain ⟨n, hh⟩ := en_cn (cc := .lt) (off := 7) (t := 58) (b := pm_cmp .lt ((Ar h 167) g) v) rfl rfl rfl hh
      have hj9 : ∃ mJ, pm_run PT mJ fr lo 253 (cond (pm_cmp .lt ((Ar h 167) g) v) (59, [some (.ref 162), some (.int (nI g)), some (.int w), some (.int v)], [.int (nI 0)], h, 198, sl) (59, [some (.ref 162), some (.int (nI g)), some (.int w), some (.int v)], [.int (nI 1)], h, 198, sl)) = some R := en_J (fun z8 => by
          have hh := en_t z8 hh
          have hh : pm_run PT n fr lo 253 (58, [some (.ref 162), some (.int (nI g)), some (.int w), some (.int v)], [], h, 198, sl) = some R := hh
          obtain ⟨n, hh⟩ := rn_i rfl rfl rfl rfl hh
          exact ⟨n, hh⟩) (fun z8 => by
          have hh := en_f z8 hh
          have hh : pm_run PT n fr lo 253 (54, [some (.ref 162), some (.int (nI g)), some (.int w), some (.int v)], [], h, 198, sl) = some R := hh
          obtain ⟨n, hh⟩ := rn_i rfl rfl rfl rfl hh
          obtain ⟨n, hh⟩ := rn_i rfl rfl rfl rfl hh
          exact ⟨n, hh⟩)
      obtain ⟨n, hh⟩ := hj9
      rw [show (cond (pm_cmp .lt ((Ar h 167) g) v) (59, [some (.ref 162), some (.int (nI g)), some (.int w), some (.int v)], [.int (nI 0)], h, 198, sl) (59, [some (.ref 162), some (.int (nI g)), some (.int w), some (.int v)], [.int (nI 1)], h, 198, sl) : pm_St) = (59, [some (.ref 162), some (.int (nI g)), some (.int w), some (.int v)], [.int (cond (cond (pm_cmp .lt ((Ar h 167) g) v) false true) 1 0)], h, 198, sl) from by cases (pm_cmp .lt ((Ar h 167) g) v) <;> rfl] at hh
      have hh : pm_run PT n fr lo 253 (59, [some (.ref 162), some (.int (nI g)), some (.int w), some (.int v)], [.int (cond (cond (pm_cmp .lt ((Ar h 167) g) v) false true) 1 0)], h, 198, sl) = some R := hh
      have er10 : R = (some (.int (cond (cond (pm_cmp .lt ((Ar h 167) g) v) false true) 1 0)), h, 198, sl) := (rn_ret rfl (Or.inr rfl) hh).2
      have ed : v253 q cc gc (Ar h 166) (Ar h 167) (Ar h 170) g w v = cond (pm_cmp .lt ((Ar h 167) g) v) false true := (cf z1).trans ((ct z6).trans rfl)
      rw [ed]
      exact er10
    | false =>
      cases z11 : pm_cmp .eq w (nI 2) with
      | true =>
        obtain ⟨n, hh⟩ := en_tsc (c := 2) (t := 60) rfl (en_xc (c := 2) (by decide) z11) (by decide) rfl rfl hh
        have hh : pm_run PT n fr lo 253 (60, [some (.ref 162), some (.int (nI g)), some (.int w), some (.int v)], [], h, 198, sl) = some R := hh
        obtain ⟨n, hh⟩ := rn_i rfl rfl rfl rfl hh
        have hh : pm_run PT n fr lo 253 (61, [some (.ref 162), some (.int (nI g)), some (.int w), some (.int v)], [.ref 162], h, 198, sl) = some R := hh
        obtain ⟨n, hh⟩ := rn_gr hw.wt rfl rfl (by decide) rfl (by decide) (show _ = some (2, ((170 : Nat) : Int), 1) from rfl) rfl hh
        obtain ⟨n, hh⟩ := rn_i rfl rfl rfl rfl hh
        obtain ⟨n, hh⟩ := rn_i rfl rfl rfl rfl hh
        have hh : pm_run PT n fr lo 253 (67, [some (.ref 162), some (.int (nI g)), some (.int w), some (.int v)], [.int (nI g), .int (nI 86), .ref 170], h, 198, sl) = some R := hh
        obtain ⟨n, hh⟩ := en_add rfl hh
        have hh : pm_run PT n fr lo 253 (68, [some (.ref 162), some (.int (nI g)), some (.int w), some (.int v)], [.int (nI (86 + g)), .ref 170], h, 198, sl) = some R := hh
        have hh : pm_run PT n fr lo 253 (68, [some (.ref 162), some (.int (nI g)), some (.int w), some (.int v)], [.int (nI (86 + g)), .ref 170], h, 198, sl) = some R := hh
        obtain ⟨n, hx12, hh⟩ := en_lu (t := 86 + g) (f := Ar h 170) (w := (Ar h 170) (86 + g)) (nI_clamp (by omega)) hw.wt rfl (by decide) rfl (by decide) rfl (fun _ => rfl) hh
        obtain ⟨n, hh⟩ := rn_i rfl rfl rfl rfl hh
        have hh : pm_run PT n fr lo 253 (70, [some (.ref 162), some (.int (nI g)), some (.int w), some (.int v)], [.int v, .int ((Ar h 170) (86 + g))], h, 198, sl) = some R := hh
        obtain ⟨n, fr1, lo1, r1, hh1, hh⟩ := rn_call (w := 2) (t := 164) rfl rfl hh
        have er13 := v164_ok (a := ((Ar h 170) (86 + g))) (b := v) hw hh1
        subst er13
        have hh : pm_run PT n fr lo 253 (73, [some (.ref 162), some (.int (nI g)), some (.int w), some (.int v)], [.int (cond (v164 q cc gc ((Ar h 170) (86 + g)) v) 1 0)], h, 198, sl) = some R := hh
        have er14 : R = (some (.int (cond (v164 q cc gc ((Ar h 170) (86 + g)) v) 1 0)), h, 198, sl) := (rn_ret rfl (Or.inr rfl) hh).2
        have ed : v253 q cc gc (Ar h 166) (Ar h 167) (Ar h 170) g w v = v164 q cc gc ((Ar h 170) (86 + g)) v := (cf z1).trans ((cf z6).trans ((ct z11).trans rfl))
        rw [ed]
        exact er14
      | false =>
        obtain ⟨n, hh⟩ := en_tsd (t := 74) [0, 1, 2] rfl (by decide) (by decide) (en_l1 (en_xn (c := 0) (by decide) z1) (en_l1 (en_xn (c := 1) (by decide) z6) (en_l1 (en_xn (c := 2) (by decide) z11) en_l0))) rfl hh
        have hh : pm_run PT n fr lo 253 (74, [some (.ref 162), some (.int (nI g)), some (.int w), some (.int v)], [], h, 198, sl) = some R := hh
        obtain ⟨n, hh⟩ := rn_i rfl rfl rfl rfl hh
        have hh : pm_run PT n fr lo 253 (75, [some (.ref 162), some (.int (nI g)), some (.int w), some (.int v)], [.ref 162], h, 198, sl) = some R := hh
        obtain ⟨n, hh⟩ := rn_gr hw.wt rfl rfl (by decide) rfl (by decide) (show _ = some (2, ((170 : Nat) : Int), 1) from rfl) rfl hh
        obtain ⟨n, hh⟩ := rn_i rfl rfl rfl rfl hh
        have hh : pm_run PT n fr lo 253 (79, [some (.ref 162), some (.int (nI g)), some (.int w), some (.int v)], [.int (nI g), .ref 170], h, 198, sl) = some R := hh
        obtain ⟨n, fr1, lo1, r1, hh1, hh⟩ := rn_call (w := 2) (t := 173) rfl rfl hh
        have er15 := v173_ok (g := g) hw (by omega) hh1
        subst er15
        have hh : pm_run PT n fr lo 253 (82, [some (.ref 162), some (.int (nI g)), some (.int w), some (.int v)], [.int (cond (v173 q cc gc (Ar h 170) g) 1 0)], h, 198, sl) = some R := hh
        obtain ⟨n, fr1, lo1, r1, hh1, hh⟩ := rn_call (w := 2) (t := 165) rfl rfl hh
        have er16 := rn_dt (F := 10) (Lo := 1000) (hd_flag (fr := 10) (lo := 1000) (h := h) (sl := sl) (v173 q cc gc (Ar h 170) g)) hh1
        subst er16
        obtain ⟨n, hh⟩ := rn_i rfl rfl rfl rfl hh
        have hh : pm_run PT n fr lo 253 (86, [some (.ref 162), some (.int (nI g)), some (.int w), some (.int v)], [.int v, .int (cond (v173 q cc gc (Ar h 170) g) 1 0)], h, 198, sl) = some R := hh
        obtain ⟨n, hh⟩ := en_cn (cc := .ne) (off := 7) (t := 93) (b := pm_cmp .ne (cond (v173 q cc gc (Ar h 170) g) 1 0) v) rfl rfl rfl hh
        have hj18 : ∃ mJ, pm_run PT mJ fr lo 253 (cond (pm_cmp .ne (cond (v173 q cc gc (Ar h 170) g) 1 0) v) (94, [some (.ref 162), some (.int (nI g)), some (.int w), some (.int v)], [.int (nI 0)], h, 198, sl) (94, [some (.ref 162), some (.int (nI g)), some (.int w), some (.int v)], [.int (nI 1)], h, 198, sl)) = some R := en_J (fun z17 => by
            have hh := en_t z17 hh
            have hh : pm_run PT n fr lo 253 (93, [some (.ref 162), some (.int (nI g)), some (.int w), some (.int v)], [], h, 198, sl) = some R := hh
            obtain ⟨n, hh⟩ := rn_i rfl rfl rfl rfl hh
            exact ⟨n, hh⟩) (fun z17 => by
            have hh := en_f z17 hh
            have hh : pm_run PT n fr lo 253 (89, [some (.ref 162), some (.int (nI g)), some (.int w), some (.int v)], [], h, 198, sl) = some R := hh
            obtain ⟨n, hh⟩ := rn_i rfl rfl rfl rfl hh
            obtain ⟨n, hh⟩ := rn_i rfl rfl rfl rfl hh
            exact ⟨n, hh⟩)
        obtain ⟨n, hh⟩ := hj18
        rw [show (cond (pm_cmp .ne (cond (v173 q cc gc (Ar h 170) g) 1 0) v) (94, [some (.ref 162), some (.int (nI g)), some (.int w), some (.int v)], [.int (nI 0)], h, 198, sl) (94, [some (.ref 162), some (.int (nI g)), some (.int w), some (.int v)], [.int (nI 1)], h, 198, sl) : pm_St) = (94, [some (.ref 162), some (.int (nI g)), some (.int w), some (.int v)], [.int (cond (cond (pm_cmp .ne (cond (v173 q cc gc (Ar h 170) g) 1 0) v) false true) 1 0)], h, 198, sl) from by cases (pm_cmp .ne (cond (v173 q cc gc (Ar h 170) g) 1 0) v) <;> rfl] at hh
        have hh : pm_run PT n fr lo 253 (94, [some (.ref 162), some (.int (nI g)), some (.int w), some (.int v)], [.int (cond (cond (pm_cmp .ne (cond (v173 q cc gc (Ar h 170) g) 1 0) v) false true) 1 0)], h, 198, sl) = some R := hh
        have er19 : R = (some (.int (cond (cond (pm_cmp .ne (cond (v173 q cc gc (Ar h 170) g) 1 0) v) false true) 1 0)), h, 198, sl) := (rn_ret rfl (Or.inr rfl) hh).2
        have ed : v253 q cc gc (Ar h 166) (Ar h 167) (Ar h 170) g w v = cond (pm_cmp .ne (cond (v173 q cc gc (Ar h 170) g) 1 0) v) false true := (cf z1).trans ((cf z6).trans ((cf z11).trans rfl))
        rw [ed]
        exact er19
def v254_17b (q : QT) (cc gc : Nat) (d0 : Nat → Int32) (d1 : Nat → Int32) (d2 : Nat → Int32) (d3 : Nat → Int32) (d4 : Nat → Int32) (u : Nat) (t1 : Int32) (m2 : Nat) (i : Nat) (x3 : Int32) : Int32 := cond (cond (pm_cmp .eq x3 0) false (cond (v253 q cc gc (d0) (d1) (d2) m2 ((d3) i) ((d4) i)) true false)) 1 0
def v254_17 (q : QT) (cc gc : Nat) (d0 : Nat → Int32) (d1 : Nat → Int32) (d2 : Nat → Int32) (d3 : Nat → Int32) (d4 : Nat → Int32) (u : Nat) (t1 : Int32) (m2 : Nat) (j i : Nat) (a : Int32) : Int32 := lp (fun i a => v254_17b q cc gc d0 d1 d2 d3 d4 u t1 m2 i a) j i a
theorem v254_17_e {n fr lo sl cc gc : Nat} {q : QT} {h : pm_H} {R : pm_Rs} {u : Nat} {t1 : Int32} {m2 : Nat} {i : Nat} {x3 : Int32} (hw : HC q cc gc h) (h_m2 : m2 < 10000) (hu : u ≤ 12) (e1 : Fi h 162 47 = nI u) (hi : u ≤ i) (hI : i < 1000000) (hh : pm_run PT n fr lo 254 (17, [some (.ref 162), some (.int t1), some (.int (nI m2)), some (.int x3), some (.int (nI i))], [], h, 198, sl) = some R) : ∃ m, pm_run PT m fr lo 254 (64, [some (.ref 162), some (.int t1), some (.int (nI m2)), some (.int x3), some (.int (nI i))], [], h, 198, sl) = some R := by
  have hcc := hw.cb
  have hgc := hw.gb
  have hzr := hw.zr
  obtain ⟨n, hh⟩ := rn_i rfl rfl rfl rfl hh
  obtain ⟨n, hh⟩ := rn_i rfl rfl rfl rfl hh
  have hh : pm_run PT n fr lo 254 (20, [some (.ref 162), some (.int t1), some (.int (nI m2)), some (.int x3), some (.int (nI i))], [.ref 162, .int (nI i)], h, 198, sl) = some R := hh
  obtain ⟨n, hh⟩ := rn_gi (x := nI u) hw.wt rfl rfl (by decide) rfl (by decide) rfl e1 hh
  have hh : pm_run PT n fr lo 254 (23, [some (.ref 162), some (.int t1), some (.int (nI m2)), some (.int x3), some (.int (nI i))], [.int (nI u), .int (nI i)], h, 198, sl) = some R := hh
  obtain ⟨n, hh⟩ := en_cn (cc := .ge) (off := 41) (t := 64) (b := decide (u ≤ i)) (hI_ge (by omega) (by omega)) rfl rfl hh
  have hh := en_t (show decide (u ≤ i) = true from decide_eq_true (by omega)) hh
  have hh : pm_run PT n fr lo 254 (64, [some (.ref 162), some (.int t1), some (.int (nI m2)), some (.int x3), some (.int (nI i))], [], h, 198, sl) = some R := hh
  exact ⟨n, hh⟩
theorem v254_17_s {n fr lo sl cc gc : Nat} {q : QT} {h : pm_H} {R : pm_Rs} {u : Nat} {t1 : Int32} {m2 : Nat} {i : Nat} {x3 : Int32} (hw : HC q cc gc h) (h_m2 : m2 < 10000) (hu : u ≤ 12) (e1 : Fi h 162 47 = nI u) (hi : i < u) (hI : i < 1000000) (hh : pm_run PT n fr lo 254 (17, [some (.ref 162), some (.int t1), some (.int (nI m2)), some (.int x3), some (.int (nI i))], [], h, 198, sl) = some R) : ∃ m, pm_run PT m fr lo 254 (17, [some (.ref 162), some (.int t1), some (.int (nI m2)), some (.int (v254_17b q cc gc (Ar h 166) (Ar h 167) (Ar h 170) (Ar h 191) (Ar h 192) u t1 m2 i x3)), some (.int (nI (i + 1)))], [], h, 198, sl) = some R := by
  have hcc := hw.cb
  have hgc := hw.gb
  have hzr := hw.zr
  obtain ⟨n, hh⟩ := rn_i rfl rfl rfl rfl hh
  obtain ⟨n, hh⟩ := rn_i rfl rfl rfl rfl hh
  have hh : pm_run PT n fr lo 254 (20, [some (.ref 162), some (.int t1), some (.int (nI m2)), some (.int x3), some (.int (nI i))], [.ref 162, .int (nI i)], h, 198, sl) = some R := hh
  obtain ⟨n, hh⟩ := rn_gi (x := nI u) hw.wt rfl rfl (by decide) rfl (by decide) rfl e1 hh
  have hh : pm_run PT n fr lo 254 (23, [some (.ref 162), some (.int t1), some (.int (nI m2)), some (.int x3), some (.int (nI i))], [.int (nI u), .int (nI i)], h, 198, sl) = some R := hh
  obtain ⟨n, hh⟩ := en_cn (cc := .ge) (off := 41) (t := 64) (b := decide (u ≤ i)) (hI_ge (by omega) (by omega)) rfl rfl hh
  have hh := en_f (show decide (u ≤ i) = false from decide_eq_false (by omega)) hh
  have hh : pm_run PT n fr lo 254 (26, [some (.ref 162), some (.int t1), some (.int (nI m2)), some (.int x3), some (.int (nI i))], [], h, 198, sl) = some R := hh
  obtain ⟨n, hh⟩ := rn_i rfl rfl rfl rfl hh
  have hh : pm_run PT n fr lo 254 (27, [some (.ref 162), some (.int t1), some (.int (nI m2)), some (.int x3), some (.int (nI i))], [.int x3], h, 198, sl) = some R := hh
  obtain ⟨n, hh⟩ := en_zn (cc := .eq) (off := 29) (t := 56) (b := pm_cmp .eq x3 0) rfl rfl rfl hh
  have hj7 : ∃ mJ, pm_run PT mJ fr lo 254 (cond (pm_cmp .eq x3 0) (57, [some (.ref 162), some (.int t1), some (.int (nI m2)), some (.int x3), some (.int (nI i))], [.int (nI 0)], h, 198, sl) (57, [some (.ref 162), some (.int t1), some (.int (nI m2)), some (.int x3), some (.int (nI i))], [.int (cond (cond (v253 q cc gc (Ar h 166) (Ar h 167) (Ar h 170) m2 ((Ar h 191) i) ((Ar h 192) i)) true false) 1 0)], h, 198, sl)) = some R := en_J (fun z1 => by
      have hh := en_t z1 hh
      have hh : pm_run PT n fr lo 254 (56, [some (.ref 162), some (.int t1), some (.int (nI m2)), some (.int x3), some (.int (nI i))], [], h, 198, sl) = some R := hh
      obtain ⟨n, hh⟩ := rn_i rfl rfl rfl rfl hh
      exact ⟨n, hh⟩) (fun z1 => by
      have hh := en_f z1 hh
      have hh : pm_run PT n fr lo 254 (30, [some (.ref 162), some (.int t1), some (.int (nI m2)), some (.int x3), some (.int (nI i))], [], h, 198, sl) = some R := hh
      obtain ⟨n, hh⟩ := rn_i rfl rfl rfl rfl hh
      obtain ⟨n, hh⟩ := rn_i rfl rfl rfl rfl hh
      obtain ⟨n, hh⟩ := rn_i rfl rfl rfl rfl hh
      have hh : pm_run PT n fr lo 254 (33, [some (.ref 162), some (.int t1), some (.int (nI m2)), some (.int x3), some (.int (nI i))], [.ref 162, .int (nI m2), .ref 162], h, 198, sl) = some R := hh
      obtain ⟨n, hh⟩ := rn_gr hw.wt rfl rfl (by decide) rfl (by decide) (show _ = some (2, ((191 : Nat) : Int), 1) from rfl) rfl hh
      obtain ⟨n, hh⟩ := rn_i rfl rfl rfl rfl hh
      have hh : pm_run PT n fr lo 254 (38, [some (.ref 162), some (.int t1), some (.int (nI m2)), some (.int x3), some (.int (nI i))], [.int (nI i), .ref 191, .int (nI m2), .ref 162], h, 198, sl) = some R := hh
      obtain ⟨n, hx2, hh⟩ := en_lu (t := i) (f := Ar h 191) (w := (Ar h 191) i) (nI_clamp (by omega)) hw.wt rfl (by decide) rfl (by decide) rfl (fun _ => rfl) hh
      obtain ⟨n, hh⟩ := rn_i rfl rfl rfl rfl hh
      have hh : pm_run PT n fr lo 254 (40, [some (.ref 162), some (.int t1), some (.int (nI m2)), some (.int x3), some (.int (nI i))], [.ref 162, .int ((Ar h 191) i), .int (nI m2), .ref 162], h, 198, sl) = some R := hh
      obtain ⟨n, hh⟩ := rn_gr hw.wt rfl rfl (by decide) rfl (by decide) (show _ = some (2, ((192 : Nat) : Int), 1) from rfl) rfl hh
      obtain ⟨n, hh⟩ := rn_i rfl rfl rfl rfl hh
      have hh : pm_run PT n fr lo 254 (45, [some (.ref 162), some (.int t1), some (.int (nI m2)), some (.int x3), some (.int (nI i))], [.int (nI i), .ref 192, .int ((Ar h 191) i), .int (nI m2), .ref 162], h, 198, sl) = some R := hh
      obtain ⟨n, hx3, hh⟩ := en_lu (t := i) (f := Ar h 192) (w := (Ar h 192) i) (nI_clamp (by omega)) hw.wt rfl (by decide) rfl (by decide) rfl (fun _ => rfl) hh
      have hh : pm_run PT n fr lo 254 (46, [some (.ref 162), some (.int t1), some (.int (nI m2)), some (.int x3), some (.int (nI i))], [.int ((Ar h 192) i), .int ((Ar h 191) i), .int (nI m2), .ref 162], h, 198, sl) = some R := hh
      obtain ⟨n, fr1, lo1, r1, hh1, hh⟩ := rn_call (w := 0) (t := 253) rfl rfl hh
      have er4 := v253_ok (g := m2) (w := ((Ar h 191) i)) (v := ((Ar h 192) i)) hw (by omega) hh1
      subst er4
      have hh : pm_run PT n fr lo 254 (49, [some (.ref 162), some (.int t1), some (.int (nI m2)), some (.int x3), some (.int (nI i))], [.int (cond (v253 q cc gc (Ar h 166) (Ar h 167) (Ar h 170) m2 ((Ar h 191) i) ((Ar h 192) i)) 1 0)], h, 198, sl) = some R := hh
      obtain ⟨n, hh⟩ := en_zn (cc := .eq) (off := 7) (t := 56) (b := !(v253 q cc gc (Ar h 166) (Ar h 167) (Ar h 170) m2 ((Ar h 191) i) ((Ar h 192) i))) eb_eq rfl rfl hh
      have hj6 : ∃ mJ, pm_run PT mJ fr lo 254 (cond (v253 q cc gc (Ar h 166) (Ar h 167) (Ar h 170) m2 ((Ar h 191) i) ((Ar h 192) i)) (57, [some (.ref 162), some (.int t1), some (.int (nI m2)), some (.int x3), some (.int (nI i))], [.int (nI 1)], h, 198, sl) (57, [some (.ref 162), some (.int t1), some (.int (nI m2)), some (.int x3), some (.int (nI i))], [.int (nI 0)], h, 198, sl)) = some R := en_J (fun z5 => by
          have hh := en_nt z5 hh
          have hh : pm_run PT n fr lo 254 (52, [some (.ref 162), some (.int t1), some (.int (nI m2)), some (.int x3), some (.int (nI i))], [], h, 198, sl) = some R := hh
          obtain ⟨n, hh⟩ := rn_i rfl rfl rfl rfl hh
          obtain ⟨n, hh⟩ := rn_i rfl rfl rfl rfl hh
          exact ⟨n, hh⟩) (fun z5 => by
          have hh := en_nf z5 hh
          have hh : pm_run PT n fr lo 254 (56, [some (.ref 162), some (.int t1), some (.int (nI m2)), some (.int x3), some (.int (nI i))], [], h, 198, sl) = some R := hh
          obtain ⟨n, hh⟩ := rn_i rfl rfl rfl rfl hh
          exact ⟨n, hh⟩)
      obtain ⟨n, hh⟩ := hj6
      rw [show (cond (v253 q cc gc (Ar h 166) (Ar h 167) (Ar h 170) m2 ((Ar h 191) i) ((Ar h 192) i)) (57, [some (.ref 162), some (.int t1), some (.int (nI m2)), some (.int x3), some (.int (nI i))], [.int (nI 1)], h, 198, sl) (57, [some (.ref 162), some (.int t1), some (.int (nI m2)), some (.int x3), some (.int (nI i))], [.int (nI 0)], h, 198, sl) : pm_St) = (57, [some (.ref 162), some (.int t1), some (.int (nI m2)), some (.int x3), some (.int (nI i))], [.int (cond (cond (v253 q cc gc (Ar h 166) (Ar h 167) (Ar h 170) m2 ((Ar h 191) i) ((Ar h 192) i)) true false) 1 0)], h, 198, sl) from by cases (v253 q cc gc (Ar h 166) (Ar h 167) (Ar h 170) m2 ((Ar h 191) i) ((Ar h 192) i)) <;> rfl] at hh
      exact ⟨n, hh⟩)
  obtain ⟨n, hh⟩ := hj7
  rw [show (cond (pm_cmp .eq x3 0) (57, [some (.ref 162), some (.int t1), some (.int (nI m2)), some (.int x3), some (.int (nI i))], [.int (nI 0)], h, 198, sl) (57, [some (.ref 162), some (.int t1), some (.int (nI m2)), some (.int x3), some (.int (nI i))], [.int (cond (cond (v253 q cc gc (Ar h 166) (Ar h 167) (Ar h 170) m2 ((Ar h 191) i) ((Ar h 192) i)) true false) 1 0)], h, 198, sl) : pm_St) = (57, [some (.ref 162), some (.int t1), some (.int (nI m2)), some (.int x3), some (.int (nI i))], [.int (cond (cond (pm_cmp .eq x3 0) false (cond (v253 q cc gc (Ar h 166) (Ar h 167) (Ar h 170) m2 ((Ar h 191) i) ((Ar h 192) i)) true false)) 1 0)], h, 198, sl) from by cases (pm_cmp .eq x3 0) <;> rfl] at hh
  obtain ⟨n, hh⟩ := rn_i rfl rfl rfl rfl hh
  have hh : pm_run PT n fr lo 254 (58, [some (.ref 162), some (.int t1), some (.int (nI m2)), some (.int (cond (cond (pm_cmp .eq x3 0) false (cond (v253 q cc gc (Ar h 166) (Ar h 167) (Ar h 170) m2 ((Ar h 191) i) ((Ar h 192) i)) true false)) 1 0)), some (.int (nI i))], [], h, 198, sl) = some R := hh
  obtain ⟨n, hh⟩ := en_inc (x := i) (c := 1) (j := 4) rfl rfl (by decide) hh
  have hh : pm_run PT n fr lo 254 (61, [some (.ref 162), some (.int t1), some (.int (nI m2)), some (.int (cond (cond (pm_cmp .eq x3 0) false (cond (v253 q cc gc (Ar h 166) (Ar h 167) (Ar h 170) m2 ((Ar h 191) i) ((Ar h 192) i)) true false)) 1 0)), some (.int (nI (i + 1)))], [], h, 198, sl) = some R := hh
  obtain ⟨n, hh⟩ := rn_i rfl rfl rfl rfl hh
  have ed : v254_17b q cc gc (Ar h 166) (Ar h 167) (Ar h 170) (Ar h 191) (Ar h 192) u t1 m2 i x3 = cond (cond (pm_cmp .eq x3 0) false (cond (v253 q cc gc (Ar h 166) (Ar h 167) (Ar h 170) m2 ((Ar h 191) i) ((Ar h 192) i)) true false)) 1 0 := rfl
  rw [ed]
  exact ⟨n, hh⟩
theorem v254_17_ok {fr lo sl cc gc : Nat} {q : QT} {R : pm_Rs} {u : Nat} {t1 : Int32} {m2 : Nat} : ∀ {j i : Nat} {x3 : Int32} {h : pm_H} {n : Nat}, u - i = j → i + j < 1000000 → HC q cc gc h → m2 < 10000 → u ≤ 12 → Fi h 162 47 = nI u → pm_run PT n fr lo 254 (17, [some (.ref 162), some (.int t1), some (.int (nI m2)), some (.int x3), some (.int (nI i))], [], h, 198, sl) = some R → ∃ m wc, pm_run PT m fr lo 254 (64, [some (.ref 162), some (.int t1), some (.int (nI m2)), some (.int (v254_17 q cc gc (Ar h 166) (Ar h 167) (Ar h 170) (Ar h 191) (Ar h 192) u t1 m2 j i x3)), wc], [], h, 198, sl) = some R := by
  intro j
  induction j with
  | zero =>
    intro i x3 h n e eI hw h_m2 hu e1 hh
    obtain ⟨n, hh⟩ := v254_17_e hw h_m2 hu e1 (by omega) (by omega) hh
    exact ⟨n, _, hh⟩
  | succ j ih =>
    intro i x3 h n e eI hw h_m2 hu e1 hh
    obtain ⟨n, hh⟩ := v254_17_s hw h_m2 hu e1 (by omega) (by omega) hh
    obtain ⟨n, wc, hh⟩ := ih (by omega) (by omega) hw h_m2 hu e1 hh
    exact ⟨n, wc, hh⟩
def v254_4b (q : QT) (cc gc : Nat) (d0 : Nat → Int32) (d1 : Nat → Int32) (d2 : Nat → Int32) (d3 : Nat → Int32) (d4 : Nat → Int32) (u : Nat) (i : Nat) (x1 : Int32) : Int32 := x1 ||| (cond (pm_cmp .eq (v254_17 q cc gc (d0) (d1) (d2) (d3) (d4) u x1 i u 0 (nI 1)) 0) (nI 0) (shl (nI 1) (nI i)))
def v254_4 (q : QT) (cc gc : Nat) (d0 : Nat → Int32) (d1 : Nat → Int32) (d2 : Nat → Int32) (d3 : Nat → Int32) (d4 : Nat → Int32) (u : Nat) (j i : Nat) (a : Int32) : Int32 := lp (fun i a => v254_4b q cc gc d0 d1 d2 d3 d4 u i a) j i a
theorem v254_4_e {n fr lo sl cc gc : Nat} {q : QT} {h : pm_H} {R : pm_Rs} {u : Nat} {i : Nat} {x1 : Int32} {o3 : Option Value} {o4 : Option Value} (hw : HC q cc gc h) (hu : u ≤ 12) (e1 : Fi h 162 47 = nI u) (hi : gc ≤ i) (hI : i < 1000000) (hh : pm_run PT n fr lo 254 (4, [some (.ref 162), some (.int x1), some (.int (nI i)), o3, o4], [], h, 198, sl) = some R) : ∃ m, pm_run PT m fr lo 254 (84, [some (.ref 162), some (.int x1), some (.int (nI i)), o3, o4], [], h, 198, sl) = some R := by
  have hcc := hw.cb
  have hgc := hw.gb
  have hzr := hw.zr
  obtain ⟨n, hh⟩ := rn_i rfl rfl rfl rfl hh
  obtain ⟨n, hh⟩ := rn_i rfl rfl rfl rfl hh
  have hh : pm_run PT n fr lo 254 (6, [some (.ref 162), some (.int x1), some (.int (nI i)), o3, o4], [.ref 162, .int (nI i)], h, 198, sl) = some R := hh
  obtain ⟨n, hh⟩ := rn_gi (x := nI gc) hw.wt rfl rfl (by decide) rfl (by decide) rfl hw.m4 hh
  have hh : pm_run PT n fr lo 254 (9, [some (.ref 162), some (.int x1), some (.int (nI i)), o3, o4], [.int (nI gc), .int (nI i)], h, 198, sl) = some R := hh
  obtain ⟨n, hh⟩ := en_cn (cc := .ge) (off := 75) (t := 84) (b := decide (gc ≤ i)) (hI_ge (by omega) (by omega)) rfl rfl hh
  have hh := en_t (show decide (gc ≤ i) = true from decide_eq_true (by omega)) hh
  have hh : pm_run PT n fr lo 254 (84, [some (.ref 162), some (.int x1), some (.int (nI i)), o3, o4], [], h, 198, sl) = some R := hh
  exact ⟨n, hh⟩
theorem v254_4_s {n fr lo sl cc gc : Nat} {q : QT} {h : pm_H} {R : pm_Rs} {u : Nat} {i : Nat} {x1 : Int32} {o3 : Option Value} {o4 : Option Value} (hw : HC q cc gc h) (hu : u ≤ 12) (e1 : Fi h 162 47 = nI u) (hi : i < gc) (hI : i < 1000000) (hh : pm_run PT n fr lo 254 (4, [some (.ref 162), some (.int x1), some (.int (nI i)), o3, o4], [], h, 198, sl) = some R) : ∃ m w3 w4, pm_run PT m fr lo 254 (4, [some (.ref 162), some (.int (v254_4b q cc gc (Ar h 166) (Ar h 167) (Ar h 170) (Ar h 191) (Ar h 192) u i x1)), some (.int (nI (i + 1))), w3, w4], [], h, 198, sl) = some R := by
  have hcc := hw.cb
  have hgc := hw.gb
  have hzr := hw.zr
  obtain ⟨n, hh⟩ := rn_i rfl rfl rfl rfl hh
  obtain ⟨n, hh⟩ := rn_i rfl rfl rfl rfl hh
  have hh : pm_run PT n fr lo 254 (6, [some (.ref 162), some (.int x1), some (.int (nI i)), o3, o4], [.ref 162, .int (nI i)], h, 198, sl) = some R := hh
  obtain ⟨n, hh⟩ := rn_gi (x := nI gc) hw.wt rfl rfl (by decide) rfl (by decide) rfl hw.m4 hh
  have hh : pm_run PT n fr lo 254 (9, [some (.ref 162), some (.int x1), some (.int (nI i)), o3, o4], [.int (nI gc), .int (nI i)], h, 198, sl) = some R := hh
  obtain ⟨n, hh⟩ := en_cn (cc := .ge) (off := 75) (t := 84) (b := decide (gc ≤ i)) (hI_ge (by omega) (by omega)) rfl rfl hh
  have hh := en_f (show decide (gc ≤ i) = false from decide_eq_false (by omega)) hh
  have hh : pm_run PT n fr lo 254 (12, [some (.ref 162), some (.int x1), some (.int (nI i)), o3, o4], [], h, 198, sl) = some R := hh
  obtain ⟨n, hh⟩ := rn_i rfl rfl rfl rfl hh
  obtain ⟨n, hh⟩ := rn_i rfl rfl rfl rfl hh
  obtain ⟨n, hh⟩ := rn_i rfl rfl rfl rfl hh
  obtain ⟨n, hh⟩ := rn_i rfl rfl rfl rfl hh
  have hh : pm_run PT n fr lo 254 (17, [some (.ref 162), some (.int x1), some (.int (nI i)), some (.int (nI 1)), some (.int (nI 0))], [], h, 198, sl) = some R := hh
  obtain ⟨n, u1, hh⟩ := v254_17_ok (t1 := x1) (m2 := i)  (i := 0) (x3 := (nI 1)) (j := u) (by omega) (by omega) hw (by omega) hu e1 hh
  have hh : pm_run PT n fr lo 254 (64, [some (.ref 162), some (.int x1), some (.int (nI i)), some (.int (v254_17 q cc gc (Ar h 166) (Ar h 167) (Ar h 170) (Ar h 191) (Ar h 192) u x1 i u 0 (nI 1))), u1], [], h, 198, sl) = some R := hh
  obtain ⟨n, hh⟩ := rn_i rfl rfl rfl rfl hh
  obtain ⟨n, hh⟩ := rn_i rfl rfl rfl rfl hh
  have hh : pm_run PT n fr lo 254 (66, [some (.ref 162), some (.int x1), some (.int (nI i)), some (.int (v254_17 q cc gc (Ar h 166) (Ar h 167) (Ar h 170) (Ar h 191) (Ar h 192) u x1 i u 0 (nI 1))), u1], [.int (v254_17 q cc gc (Ar h 166) (Ar h 167) (Ar h 170) (Ar h 191) (Ar h 192) u x1 i u 0 (nI 1)), .int x1], h, 198, sl) = some R := hh
  obtain ⟨n, hh⟩ := en_zn (cc := .eq) (off := 9) (t := 75) (b := pm_cmp .eq (v254_17 q cc gc (Ar h 166) (Ar h 167) (Ar h 170) (Ar h 191) (Ar h 192) u x1 i u 0 (nI 1)) 0) rfl rfl rfl hh
  have hj3 : ∃ mJ, pm_run PT mJ fr lo 254 (cond (pm_cmp .eq (v254_17 q cc gc (Ar h 166) (Ar h 167) (Ar h 170) (Ar h 191) (Ar h 192) u x1 i u 0 (nI 1)) 0) (76, [some (.ref 162), some (.int x1), some (.int (nI i)), some (.int (v254_17 q cc gc (Ar h 166) (Ar h 167) (Ar h 170) (Ar h 191) (Ar h 192) u x1 i u 0 (nI 1))), u1], [.int (nI 0), .int x1], h, 198, sl) (76, [some (.ref 162), some (.int x1), some (.int (nI i)), some (.int (v254_17 q cc gc (Ar h 166) (Ar h 167) (Ar h 170) (Ar h 191) (Ar h 192) u x1 i u 0 (nI 1))), u1], [.int (shl (nI 1) (nI i)), .int x1], h, 198, sl)) = some R := en_J (fun z2 => by
      have hh := en_t z2 hh
      have hh : pm_run PT n fr lo 254 (75, [some (.ref 162), some (.int x1), some (.int (nI i)), some (.int (v254_17 q cc gc (Ar h 166) (Ar h 167) (Ar h 170) (Ar h 191) (Ar h 192) u x1 i u 0 (nI 1))), u1], [.int x1], h, 198, sl) = some R := hh
      obtain ⟨n, hh⟩ := rn_i rfl rfl rfl rfl hh
      exact ⟨n, hh⟩) (fun z2 => by
      have hh := en_f z2 hh
      have hh : pm_run PT n fr lo 254 (69, [some (.ref 162), some (.int x1), some (.int (nI i)), some (.int (v254_17 q cc gc (Ar h 166) (Ar h 167) (Ar h 170) (Ar h 191) (Ar h 192) u x1 i u 0 (nI 1))), u1], [.int x1], h, 198, sl) = some R := hh
      obtain ⟨n, hh⟩ := rn_i rfl rfl rfl rfl hh
      obtain ⟨n, hh⟩ := rn_i rfl rfl rfl rfl hh
      obtain ⟨n, hh⟩ := rn_i rfl rfl rfl rfl hh
      obtain ⟨n, hh⟩ := rn_i rfl rfl rfl rfl hh
      exact ⟨n, hh⟩)
  obtain ⟨n, hh⟩ := hj3
  rw [show (cond (pm_cmp .eq (v254_17 q cc gc (Ar h 166) (Ar h 167) (Ar h 170) (Ar h 191) (Ar h 192) u x1 i u 0 (nI 1)) 0) (76, [some (.ref 162), some (.int x1), some (.int (nI i)), some (.int (v254_17 q cc gc (Ar h 166) (Ar h 167) (Ar h 170) (Ar h 191) (Ar h 192) u x1 i u 0 (nI 1))), u1], [.int (nI 0), .int x1], h, 198, sl) (76, [some (.ref 162), some (.int x1), some (.int (nI i)), some (.int (v254_17 q cc gc (Ar h 166) (Ar h 167) (Ar h 170) (Ar h 191) (Ar h 192) u x1 i u 0 (nI 1))), u1], [.int (shl (nI 1) (nI i)), .int x1], h, 198, sl) : pm_St) = (76, [some (.ref 162), some (.int x1), some (.int (nI i)), some (.int (v254_17 q cc gc (Ar h 166) (Ar h 167) (Ar h 170) (Ar h 191) (Ar h 192) u x1 i u 0 (nI 1))), u1], [.int (cond (pm_cmp .eq (v254_17 q cc gc (Ar h 166) (Ar h 167) (Ar h 170) (Ar h 191) (Ar h 192) u x1 i u 0 (nI 1)) 0) (nI 0) (shl (nI 1) (nI i))), .int x1], h, 198, sl) from by cases (pm_cmp .eq (v254_17 q cc gc (Ar h 166) (Ar h 167) (Ar h 170) (Ar h 191) (Ar h 192) u x1 i u 0 (nI 1)) 0) <;> rfl] at hh
  obtain ⟨n, hh⟩ := rn_i rfl rfl rfl rfl hh
  obtain ⟨n, hh⟩ := rn_i rfl rfl rfl rfl hh
  have hh : pm_run PT n fr lo 254 (78, [some (.ref 162), some (.int (x1 ||| (cond (pm_cmp .eq (v254_17 q cc gc (Ar h 166) (Ar h 167) (Ar h 170) (Ar h 191) (Ar h 192) u x1 i u 0 (nI 1)) 0) (nI 0) (shl (nI 1) (nI i))))), some (.int (nI i)), some (.int (v254_17 q cc gc (Ar h 166) (Ar h 167) (Ar h 170) (Ar h 191) (Ar h 192) u x1 i u 0 (nI 1))), u1], [], h, 198, sl) = some R := hh
  obtain ⟨n, hh⟩ := en_inc (x := i) (c := 1) (j := 2) rfl rfl (by decide) hh
  have hh : pm_run PT n fr lo 254 (81, [some (.ref 162), some (.int (x1 ||| (cond (pm_cmp .eq (v254_17 q cc gc (Ar h 166) (Ar h 167) (Ar h 170) (Ar h 191) (Ar h 192) u x1 i u 0 (nI 1)) 0) (nI 0) (shl (nI 1) (nI i))))), some (.int (nI (i + 1))), some (.int (v254_17 q cc gc (Ar h 166) (Ar h 167) (Ar h 170) (Ar h 191) (Ar h 192) u x1 i u 0 (nI 1))), u1], [], h, 198, sl) = some R := hh
  obtain ⟨n, hh⟩ := rn_i rfl rfl rfl rfl hh
  have ed : v254_4b q cc gc (Ar h 166) (Ar h 167) (Ar h 170) (Ar h 191) (Ar h 192) u i x1 = x1 ||| (cond (pm_cmp .eq (v254_17 q cc gc (Ar h 166) (Ar h 167) (Ar h 170) (Ar h 191) (Ar h 192) u x1 i u 0 (nI 1)) 0) (nI 0) (shl (nI 1) (nI i))) := rfl
  rw [ed]
  exact ⟨n, some (.int (v254_17 q cc gc (Ar h 166) (Ar h 167) (Ar h 170) (Ar h 191) (Ar h 192) u x1 i u 0 (nI 1))), u1, hh⟩
theorem v254_4_ok {fr lo sl cc gc : Nat} {q : QT} {R : pm_Rs} {u : Nat} : ∀ {j i : Nat} {x1 : Int32} {o3 : Option Value} {o4 : Option Value} {h : pm_H} {n : Nat}, gc - i = j → i + j < 1000000 → HC q cc gc h → u ≤ 12 → Fi h 162 47 = nI u → pm_run PT n fr lo 254 (4, [some (.ref 162), some (.int x1), some (.int (nI i)), o3, o4], [], h, 198, sl) = some R → ∃ m wc w3 w4, pm_run PT m fr lo 254 (84, [some (.ref 162), some (.int (v254_4 q cc gc (Ar h 166) (Ar h 167) (Ar h 170) (Ar h 191) (Ar h 192) u j i x1)), wc, w3, w4], [], h, 198, sl) = some R := by
  intro j
  induction j with
  | zero =>
    intro i x1 o3 o4 h n e eI hw hu e1 hh
    obtain ⟨n, hh⟩ := v254_4_e hw hu e1 (by omega) (by omega) hh
    exact ⟨n, _, o3, o4, hh⟩
  | succ j ih =>
    intro i x1 o3 o4 h n e eI hw hu e1 hh
    obtain ⟨n, w3, w4, hh⟩ := v254_4_s hw hu e1 (by omega) (by omega) hh
    obtain ⟨n, wc, v3, v4, hh⟩ := ih (by omega) (by omega) hw hu e1 hh
    exact ⟨n, wc, v3, v4, hh⟩
def v254 (q : QT) (cc gc : Nat) (d0 : Nat → Int32) (d1 : Nat → Int32) (d2 : Nat → Int32) (d3 : Nat → Int32) (d4 : Nat → Int32) (u : Nat) : Int32 := (v254_4 q cc gc (d0) (d1) (d2) (d3) (d4) u gc 0 (nI 0))
theorem v254_ok {n fr lo sl cc gc : Nat} {q : QT} {h : pm_H} {R : pm_Rs} {u : Nat} (hw : HC q cc gc h) (hu : u ≤ 12) (e1 : Fi h 162 47 = nI u) (hh : pm_run PT n fr lo 254 (0, pm_l0 [.ref 162] 5, [], h, 198, sl) = some R) : R = (some (.int (v254 q cc gc (Ar h 166) (Ar h 167) (Ar h 170) (Ar h 191) (Ar h 192) u)), h, 198, sl) := by
  have hcc := hw.cb
  have hgc := hw.gb
  have hzr := hw.zr
  obtain ⟨n, hh⟩ := rn_i rfl rfl rfl rfl hh
  obtain ⟨n, hh⟩ := rn_i rfl rfl rfl rfl hh
  obtain ⟨n, hh⟩ := rn_i rfl rfl rfl rfl hh
  obtain ⟨n, hh⟩ := rn_i rfl rfl rfl rfl hh
  have hh : pm_run PT n fr lo 254 (4, [some (.ref 162), some (.int (nI 0)), some (.int (nI 0)), none, none], [], h, 198, sl) = some R := hh
  obtain ⟨n, u3, u1, u2, hh⟩ := v254_4_ok  (i := 0) (x1 := (nI 0)) (o3 := none) (o4 := none) (j := gc) (by omega) (by omega) hw hu e1 hh
  have hh : pm_run PT n fr lo 254 (84, [some (.ref 162), some (.int (v254_4 q cc gc (Ar h 166) (Ar h 167) (Ar h 170) (Ar h 191) (Ar h 192) u gc 0 (nI 0))), u3, u1, u2], [], h, 198, sl) = some R := hh
  obtain ⟨n, hh⟩ := rn_i rfl rfl rfl rfl hh
  have hh : pm_run PT n fr lo 254 (85, [some (.ref 162), some (.int (v254_4 q cc gc (Ar h 166) (Ar h 167) (Ar h 170) (Ar h 191) (Ar h 192) u gc 0 (nI 0))), u3, u1, u2], [.int (v254_4 q cc gc (Ar h 166) (Ar h 167) (Ar h 170) (Ar h 191) (Ar h 192) u gc 0 (nI 0))], h, 198, sl) = some R := hh
  have er4 : R = (some (.int (v254_4 q cc gc (Ar h 166) (Ar h 167) (Ar h 170) (Ar h 191) (Ar h 192) u gc 0 (nI 0))), h, 198, sl) := (rn_ret rfl (Or.inl rfl) hh).2
  have ed : v254 q cc gc (Ar h 166) (Ar h 167) (Ar h 170) (Ar h 191) (Ar h 192) u = (v254_4 q cc gc (Ar h 166) (Ar h 167) (Ar h 170) (Ar h 191) (Ar h 192) u gc 0 (nI 0)) := rfl
  rw [ed]
  exact er4
end EE3
