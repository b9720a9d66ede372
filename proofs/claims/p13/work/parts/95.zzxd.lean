/-! runs told exactly, written by ext.py -/
section EB
def v173 (q : QT) (cc gc : Nat) (d0 : Nat → Int32) (g : Nat) : Bool := v164 q cc gc ((d0) 94) (nI g)
theorem v173_ok {n fr lo sl cc gc : Nat} {q : QT} {h : pm_H} {R : pm_Rs} {g : Nat} (hw : HC q cc gc h) (h_g : g < 10000) (hh : pm_run PT n fr lo 173 (0, pm_l0 [.ref 170, .int (nI g)] 2, [], h, 198, sl) = some R) : R = (some (.int (cond (v173 q cc gc (Ar h 170) g) 1 0)), h, 198, sl) := by
  have hcc := hw.cb
  have hgc := hw.gb
  have hzr := hw.zr
  obtain ⟨n, hh⟩ := rn_i rfl rfl rfl rfl hh
  obtain ⟨n, hh⟩ := rn_i rfl rfl rfl rfl hh
  have hh : pm_run PT n fr lo 173 (3, [some (.ref 170), some (.int (nI g))], [.int (nI 94), .ref 170], h, 198, sl) = some R := hh
  obtain ⟨n, hx1, hh⟩ := en_lu (t := 94) (f := Ar h 170) (w := (Ar h 170) 94) (nI_clamp (by omega)) hw.wt rfl (by decide) rfl (by decide) rfl (fun _ => rfl) hh
  obtain ⟨n, hh⟩ := rn_i rfl rfl rfl rfl hh
  have hh : pm_run PT n fr lo 173 (5, [some (.ref 170), some (.int (nI g))], [.int (nI g), .int ((Ar h 170) 94)], h, 198, sl) = some R := hh
  obtain ⟨n, fr1, lo1, r1, hh1, hh⟩ := rn_call (w := 2) (t := 164) rfl rfl hh
  have er2 := v164_ok (a := ((Ar h 170) 94)) (b := (nI g)) hw hh1
  subst er2
  have hh : pm_run PT n fr lo 173 (8, [some (.ref 170), some (.int (nI g))], [.int (cond (v164 q cc gc ((Ar h 170) 94) (nI g)) 1 0)], h, 198, sl) = some R := hh
  have er3 : R = (some (.int (cond (v164 q cc gc ((Ar h 170) 94) (nI g)) 1 0)), h, 198, sl) := (rn_ret rfl (Or.inr rfl) hh).2
  have ed : v173 q cc gc (Ar h 170) g = v164 q cc gc ((Ar h 170) 94) (nI g) := rfl
  rw [ed]
  exact er3
def v174_5b (q : QT) (cc gc : Nat) (d0 : Nat → Int32) (m2 : Nat) (i : Nat) (x3 : Int32) : Int32 := x3 ||| (cond (pm_cmp .ne ((d0) (78 + i)) (nI m2)) (nI 0) (shl (nI 1) (nI i)))
def v174_5 (q : QT) (cc gc : Nat) (d0 : Nat → Int32) (m2 : Nat) (j i : Nat) (a : Int32) : Int32 := lp (fun i a => v174_5b q cc gc d0 m2 i a) j i a
def v174 (q : QT) (cc gc : Nat) (d0 : Nat → Int32) (c : Nat) : Int32 := (v174_5 q cc gc (d0) c gc 0 (nI 0))
def v177_4b (q : QT) (cc gc : Nat) (d0 : Nat → Int32) (i : Nat) (x2 : Int32) : Int32 := x2 + ((d0) i)
def v177_4 (q : QT) (cc gc : Nat) (d0 : Nat → Int32) (j i : Nat) (a : Int32) : Int32 := lp (fun i a => v177_4b q cc gc d0 i a) j i a
theorem v177_4_e {n fr lo sl cc gc : Nat} {q : QT} {h : pm_H} {R : pm_Rs} {i : Nat} {x2 : Int32} (hw : HC q cc gc h) (hi : cc ≤ i) (hI : i < 1000000) (hh : pm_run PT n fr lo 177 (4, [some (.ref 162), some (.ref 170), some (.int x2), some (.int (nI i))], [], h, 198, sl) = some R) : ∃ m, pm_run PT m fr lo 177 (24, [some (.ref 162), some (.ref 170), some (.int x2), some (.int (nI i))], [], h, 198, sl) = some R := by
  have hcc := hw.cb
  have hgc := hw.gb
  have hzr := hw.zr
  obtain ⟨n, hh⟩ := rn_i rfl rfl rfl rfl hh
  obtain ⟨n, hh⟩ := rn_i rfl rfl rfl rfl hh
  have hh : pm_run PT n fr lo 177 (6, [some (.ref 162), some (.ref 170), some (.int x2), some (.int (nI i))], [.ref 162, .int (nI i)], h, 198, sl) = some R := hh
  obtain ⟨n, hh⟩ := rn_gi (x := nI cc) hw.wt rfl rfl (by decide) rfl (by decide) rfl hw.m3 hh
  have hh : pm_run PT n fr lo 177 (9, [some (.ref 162), some (.ref 170), some (.int x2), some (.int (nI i))], [.int (nI cc), .int (nI i)], h, 198, sl) = some R := hh
  obtain ⟨n, hh⟩ := en_cn (cc := .ge) (off := 15) (t := 24) (b := decide (cc ≤ i)) (hI_ge (by omega) (by omega)) rfl rfl hh
  have hh := en_t (show decide (cc ≤ i) = true from decide_eq_true (by omega)) hh
  have hh : pm_run PT n fr lo 177 (24, [some (.ref 162), some (.ref 170), some (.int x2), some (.int (nI i))], [], h, 198, sl) = some R := hh
  exact ⟨n, hh⟩
theorem v177_4_s {n fr lo sl cc gc : Nat} {q : QT} {h : pm_H} {R : pm_Rs} {i : Nat} {x2 : Int32} (hw : HC q cc gc h) (hi : i < cc) (hI : i < 1000000) (hh : pm_run PT n fr lo 177 (4, [some (.ref 162), some (.ref 170), some (.int x2), some (.int (nI i))], [], h, 198, sl) = some R) : ∃ m, pm_run PT m fr lo 177 (4, [some (.ref 162), some (.ref 170), some (.int (v177_4b q cc gc (Ar h 170) i x2)), some (.int (nI (i + 1)))], [], h, 198, sl) = some R := by
  have hcc := hw.cb
  have hgc := hw.gb
  have hzr := hw.zr
  obtain ⟨n, hh⟩ := rn_i rfl rfl rfl rfl hh
  obtain ⟨n, hh⟩ := rn_i rfl rfl rfl rfl hh
  have hh : pm_run PT n fr lo 177 (6, [some (.ref 162), some (.ref 170), some (.int x2), some (.int (nI i))], [.ref 162, .int (nI i)], h, 198, sl) = some R := hh
  obtain ⟨n, hh⟩ := rn_gi (x := nI cc) hw.wt rfl rfl (by decide) rfl (by decide) rfl hw.m3 hh
  have hh : pm_run PT n fr lo 177 (9, [some (.ref 162), some (.ref 170), some (.int x2), some (.int (nI i))], [.int (nI cc), .int (nI i)], h, 198, sl) = some R := hh
  obtain ⟨n, hh⟩ := en_cn (cc := .ge) (off := 15) (t := 24) (b := decide (cc ≤ i)) (hI_ge (by omega) (by omega)) rfl rfl hh
  have hh := en_f (show decide (cc ≤ i) = false from decide_eq_false (by omega)) hh
  have hh : pm_run PT n fr lo 177 (12, [some (.ref 162), some (.ref 170), some (.int x2), some (.int (nI i))], [], h, 198, sl) = some R := hh
  obtain ⟨n, hh⟩ := rn_i rfl rfl rfl rfl hh
  obtain ⟨n, hh⟩ := rn_i rfl rfl rfl rfl hh
  obtain ⟨n, hh⟩ := rn_i rfl rfl rfl rfl hh
  have hh : pm_run PT n fr lo 177 (15, [some (.ref 162), some (.ref 170), some (.int x2), some (.int (nI i))], [.int (nI i), .ref 170, .int x2], h, 198, sl) = some R := hh
  obtain ⟨n, hx1, hh⟩ := en_lu (t := i) (f := Ar h 170) (w := (Ar h 170) i) (nI_clamp (by omega)) hw.wt rfl (by decide) rfl (by decide) rfl (fun _ => rfl) hh
  obtain ⟨n, hh⟩ := rn_i rfl rfl rfl rfl hh
  obtain ⟨n, hh⟩ := rn_i rfl rfl rfl rfl hh
  have hh : pm_run PT n fr lo 177 (18, [some (.ref 162), some (.ref 170), some (.int (x2 + ((Ar h 170) i))), some (.int (nI i))], [], h, 198, sl) = some R := hh
  obtain ⟨n, hh⟩ := en_inc (x := i) (c := 1) (j := 3) rfl rfl (by decide) hh
  have hh : pm_run PT n fr lo 177 (21, [some (.ref 162), some (.ref 170), some (.int (x2 + ((Ar h 170) i))), some (.int (nI (i + 1)))], [], h, 198, sl) = some R := hh
  obtain ⟨n, hh⟩ := rn_i rfl rfl rfl rfl hh
  have ed : v177_4b q cc gc (Ar h 170) i x2 = x2 + ((Ar h 170) i) := rfl
  rw [ed]
  exact ⟨n, hh⟩
theorem v177_4_ok {fr lo sl cc gc : Nat} {q : QT} {R : pm_Rs} : ∀ {j i : Nat} {x2 : Int32} {h : pm_H} {n : Nat}, cc - i = j → i + j < 1000000 → HC q cc gc h → pm_run PT n fr lo 177 (4, [some (.ref 162), some (.ref 170), some (.int x2), some (.int (nI i))], [], h, 198, sl) = some R → ∃ m wc, pm_run PT m fr lo 177 (24, [some (.ref 162), some (.ref 170), some (.int (v177_4 q cc gc (Ar h 170) j i x2)), wc], [], h, 198, sl) = some R := by
  intro j
  induction j with
  | zero =>
    intro i x2 h n e eI hw hh
    obtain ⟨n, hh⟩ := v177_4_e hw (by omega) (by omega) hh
    exact ⟨n, _, hh⟩
  | succ j ih =>
    intro i x2 h n e eI hw hh
    obtain ⟨n, hh⟩ := v177_4_s hw (by omega) (by omega) hh
    obtain ⟨n, wc, hh⟩ := ih (by omega) (by omega) hw hh
    exact ⟨n, wc, hh⟩
def v177 (q : QT) (cc gc : Nat) (d0 : Nat → Int32) : Int32 := (v177_4 q cc gc (d0) cc 0 (nI 0))
theorem v177_ok {n fr lo sl cc gc : Nat} {q : QT} {h : pm_H} {R : pm_Rs} (hw : HC q cc gc h) (hh : pm_run PT n fr lo 177 (0, pm_l0 [.ref 162, .ref 170] 4, [], h, 198, sl) = some R) : R = (some (.int (v177 q cc gc (Ar h 170))), h, 198, sl) := by
  have hcc := hw.cb
  have hgc := hw.gb
  have hzr := hw.zr
  obtain ⟨n, hh⟩ := rn_i rfl rfl rfl rfl hh
  obtain ⟨n, hh⟩ := rn_i rfl rfl rfl rfl hh
  obtain ⟨n, hh⟩ := rn_i rfl rfl rfl rfl hh
  obtain ⟨n, hh⟩ := rn_i rfl rfl rfl rfl hh
  have hh : pm_run PT n fr lo 177 (4, [some (.ref 162), some (.ref 170), some (.int (nI 0)), some (.int (nI 0))], [], h, 198, sl) = some R := hh
  obtain ⟨n, u1, hh⟩ := v177_4_ok  (i := 0) (x2 := (nI 0)) (j := cc) (by omega) (by omega) hw hh
  have hh : pm_run PT n fr lo 177 (24, [some (.ref 162), some (.ref 170), some (.int (v177_4 q cc gc (Ar h 170) cc 0 (nI 0))), u1], [], h, 198, sl) = some R := hh
  obtain ⟨n, hh⟩ := rn_i rfl rfl rfl rfl hh
  have hh : pm_run PT n fr lo 177 (25, [some (.ref 162), some (.ref 170), some (.int (v177_4 q cc gc (Ar h 170) cc 0 (nI 0))), u1], [.int (v177_4 q cc gc (Ar h 170) cc 0 (nI 0))], h, 198, sl) = some R := hh
  have er2 : R = (some (.int (v177_4 q cc gc (Ar h 170) cc 0 (nI 0))), h, 198, sl) := (rn_ret rfl (Or.inl rfl) hh).2
  have ed : v177 q cc gc (Ar h 170) = (v177_4 q cc gc (Ar h 170) cc 0 (nI 0)) := rfl
  rw [ed]
  exact er2
theorem v173t_ok {n fr lo sl cc gc : Nat} {q : QT} {h : pm_H} {R : pm_Rs} {g : Nat} (hw : HC q cc gc h) (h_g : g < 10000) (hh : pm_run PT n fr lo 173 (0, pm_l0 [.ref 171, .int (nI g)] 2, [], h, 198, sl) = some R) : R = (some (.int (cond (v173 q cc gc (Ar h 171) g) 1 0)), h, 198, sl) := by
  have hcc := hw.cb
  have hgc := hw.gb
  have hzr := hw.zr
  obtain ⟨n, hh⟩ := rn_i rfl rfl rfl rfl hh
  obtain ⟨n, hh⟩ := rn_i rfl rfl rfl rfl hh
  have hh : pm_run PT n fr lo 173 (3, [some (.ref 171), some (.int (nI g))], [.int (nI 94), .ref 171], h, 198, sl) = some R := hh
  obtain ⟨n, hx1, hh⟩ := en_lu (t := 94) (f := Ar h 171) (w := (Ar h 171) 94) (nI_clamp (by omega)) hw.wt rfl (by decide) rfl (by decide) rfl (fun _ => rfl) hh
  obtain ⟨n, hh⟩ := rn_i rfl rfl rfl rfl hh
  have hh : pm_run PT n fr lo 173 (5, [some (.ref 171), some (.int (nI g))], [.int (nI g), .int ((Ar h 171) 94)], h, 198, sl) = some R := hh
  obtain ⟨n, fr1, lo1, r1, hh1, hh⟩ := rn_call (w := 2) (t := 164) rfl rfl hh
  have er2 := v164_ok (a := ((Ar h 171) 94)) (b := (nI g)) hw hh1
  subst er2
  have hh : pm_run PT n fr lo 173 (8, [some (.ref 171), some (.int (nI g))], [.int (cond (v164 q cc gc ((Ar h 171) 94) (nI g)) 1 0)], h, 198, sl) = some R := hh
  have er3 : R = (some (.int (cond (v164 q cc gc ((Ar h 171) 94) (nI g)) 1 0)), h, 198, sl) := (rn_ret rfl (Or.inr rfl) hh).2
  have ed : v173 q cc gc (Ar h 171) g = v164 q cc gc ((Ar h 171) 94) (nI g) := rfl
  rw [ed]
  exact er3
theorem v174t_5_e {n fr lo sl cc gc : Nat} {q : QT} {h : pm_H} {R : pm_Rs} {m2 : Nat} {i : Nat} {x3 : Int32} (hw : HC q cc gc h) (h_m2 : m2 < 10000) (hi : gc ≤ i) (hI : i < 1000000) (hh : pm_run PT n fr lo 174 (5, [some (.ref 162), some (.ref 171), some (.int (nI m2)), some (.int x3), some (.int (nI i))], [], h, 198, sl) = some R) : ∃ m, pm_run PT m fr lo 174 (42, [some (.ref 162), some (.ref 171), some (.int (nI m2)), some (.int x3), some (.int (nI i))], [], h, 198, sl) = some R := by
  have hcc := hw.cb
  have hgc := hw.gb
  have hzr := hw.zr
  obtain ⟨n, hh⟩ := rn_i rfl rfl rfl rfl hh
  obtain ⟨n, hh⟩ := rn_i rfl rfl rfl rfl hh
  have hh : pm_run PT n fr lo 174 (8, [some (.ref 162), some (.ref 171), some (.int (nI m2)), some (.int x3), some (.int (nI i))], [.ref 162, .int (nI i)], h, 198, sl) = some R := hh
  obtain ⟨n, hh⟩ := rn_gi (x := nI gc) hw.wt rfl rfl (by decide) rfl (by decide) rfl hw.m4 hh
  have hh : pm_run PT n fr lo 174 (11, [some (.ref 162), some (.ref 171), some (.int (nI m2)), some (.int x3), some (.int (nI i))], [.int (nI gc), .int (nI i)], h, 198, sl) = some R := hh
  obtain ⟨n, hh⟩ := en_cn (cc := .ge) (off := 31) (t := 42) (b := decide (gc ≤ i)) (hI_ge (by omega) (by omega)) rfl rfl hh
  have hh := en_t (show decide (gc ≤ i) = true from decide_eq_true (by omega)) hh
  have hh : pm_run PT n fr lo 174 (42, [some (.ref 162), some (.ref 171), some (.int (nI m2)), some (.int x3), some (.int (nI i))], [], h, 198, sl) = some R := hh
  exact ⟨n, hh⟩
theorem v174t_5_s {n fr lo sl cc gc : Nat} {q : QT} {h : pm_H} {R : pm_Rs} {m2 : Nat} {i : Nat} {x3 : Int32} (hw : HC q cc gc h) (h_m2 : m2 < 10000) (hi : i < gc) (hI : i < 1000000) (hh : pm_run PT n fr lo 174 (5, [some (.ref 162), some (.ref 171), some (.int (nI m2)), some (.int x3), some (.int (nI i))], [], h, 198, sl) = some R) : ∃ m, pm_run PT m fr lo 174 (5, [some (.ref 162), some (.ref 171), some (.int (nI m2)), some (.int (v174_5b q cc gc (Ar h 171) m2 i x3)), some (.int (nI (i + 1)))], [], h, 198, sl) = some R := by
  have hcc := hw.cb
  have hgc := hw.gb
  have hzr := hw.zr
  obtain ⟨n, hh⟩ := rn_i rfl rfl rfl rfl hh
  obtain ⟨n, hh⟩ := rn_i rfl rfl rfl rfl hh
  have hh : pm_run PT n fr lo 174 (8, [some (.ref 162), some (.ref 171), some (.int (nI m2)), some (.int x3), some (.int (nI i))], [.ref 162, .int (nI i)], h, 198, sl) = some R := hh
  obtain ⟨n, hh⟩ := rn_gi (x := nI gc) hw.wt rfl rfl (by decide) rfl (by decide) rfl hw.m4 hh
  have hh : pm_run PT n fr lo 174 (11, [some (.ref 162), some (.ref 171), some (.int (nI m2)), some (.int x3), some (.int (nI i))], [.int (nI gc), .int (nI i)], h, 198, sl) = some R := hh
  obtain ⟨n, hh⟩ := en_cn (cc := .ge) (off := 31) (t := 42) (b := decide (gc ≤ i)) (hI_ge (by omega) (by omega)) rfl rfl hh
  have hh := en_f (show decide (gc ≤ i) = false from decide_eq_false (by omega)) hh
  have hh : pm_run PT n fr lo 174 (14, [some (.ref 162), some (.ref 171), some (.int (nI m2)), some (.int x3), some (.int (nI i))], [], h, 198, sl) = some R := hh
  obtain ⟨n, hh⟩ := rn_i rfl rfl rfl rfl hh
  obtain ⟨n, hh⟩ := rn_i rfl rfl rfl rfl hh
  obtain ⟨n, hh⟩ := rn_i rfl rfl rfl rfl hh
  obtain ⟨n, hh⟩ := rn_i rfl rfl rfl rfl hh
  have hh : pm_run PT n fr lo 174 (20, [some (.ref 162), some (.ref 171), some (.int (nI m2)), some (.int x3), some (.int (nI i))], [.int (nI i), .int (nI 78), .ref 171, .int x3], h, 198, sl) = some R := hh
  obtain ⟨n, hh⟩ := en_add rfl hh
  have hh : pm_run PT n fr lo 174 (21, [some (.ref 162), some (.ref 171), some (.int (nI m2)), some (.int x3), some (.int (nI i))], [.int (nI (78 + i)), .ref 171, .int x3], h, 198, sl) = some R := hh
  have hh : pm_run PT n fr lo 174 (21, [some (.ref 162), some (.ref 171), some (.int (nI m2)), some (.int x3), some (.int (nI i))], [.int (nI (78 + i)), .ref 171, .int x3], h, 198, sl) = some R := hh
  obtain ⟨n, hx1, hh⟩ := en_lu (t := 78 + i) (f := Ar h 171) (w := (Ar h 171) (78 + i)) (nI_clamp (by omega)) hw.wt rfl (by decide) rfl (by decide) rfl (fun _ => rfl) hh
  obtain ⟨n, hh⟩ := rn_i rfl rfl rfl rfl hh
  have hh : pm_run PT n fr lo 174 (23, [some (.ref 162), some (.ref 171), some (.int (nI m2)), some (.int x3), some (.int (nI i))], [.int (nI m2), .int ((Ar h 171) (78 + i)), .int x3], h, 198, sl) = some R := hh
  obtain ⟨n, hh⟩ := en_cn (cc := .ne) (off := 10) (t := 33) (b := pm_cmp .ne ((Ar h 171) (78 + i)) (nI m2)) rfl rfl rfl hh
  have hj3 : ∃ mJ, pm_run PT mJ fr lo 174 (cond (pm_cmp .ne ((Ar h 171) (78 + i)) (nI m2)) (34, [some (.ref 162), some (.ref 171), some (.int (nI m2)), some (.int x3), some (.int (nI i))], [.int (nI 0), .int x3], h, 198, sl) (34, [some (.ref 162), some (.ref 171), some (.int (nI m2)), some (.int x3), some (.int (nI i))], [.int (shl (nI 1) (nI i)), .int x3], h, 198, sl)) = some R := en_J (fun z2 => by
      have hh := en_t z2 hh
      have hh : pm_run PT n fr lo 174 (33, [some (.ref 162), some (.ref 171), some (.int (nI m2)), some (.int x3), some (.int (nI i))], [.int x3], h, 198, sl) = some R := hh
      obtain ⟨n, hh⟩ := rn_i rfl rfl rfl rfl hh
      exact ⟨n, hh⟩) (fun z2 => by
      have hh := en_f z2 hh
      have hh : pm_run PT n fr lo 174 (26, [some (.ref 162), some (.ref 171), some (.int (nI m2)), some (.int x3), some (.int (nI i))], [.int x3], h, 198, sl) = some R := hh
      obtain ⟨n, hh⟩ := rn_i rfl rfl rfl rfl hh
      obtain ⟨n, hh⟩ := rn_i rfl rfl rfl rfl hh
      obtain ⟨n, hh⟩ := rn_i rfl rfl rfl rfl hh
      obtain ⟨n, hh⟩ := rn_i rfl rfl rfl rfl hh
      exact ⟨n, hh⟩)
  obtain ⟨n, hh⟩ := hj3
  rw [show (cond (pm_cmp .ne ((Ar h 171) (78 + i)) (nI m2)) (34, [some (.ref 162), some (.ref 171), some (.int (nI m2)), some (.int x3), some (.int (nI i))], [.int (nI 0), .int x3], h, 198, sl) (34, [some (.ref 162), some (.ref 171), some (.int (nI m2)), some (.int x3), some (.int (nI i))], [.int (shl (nI 1) (nI i)), .int x3], h, 198, sl) : pm_St) = (34, [some (.ref 162), some (.ref 171), some (.int (nI m2)), some (.int x3), some (.int (nI i))], [.int (cond (pm_cmp .ne ((Ar h 171) (78 + i)) (nI m2)) (nI 0) (shl (nI 1) (nI i))), .int x3], h, 198, sl) from by cases (pm_cmp .ne ((Ar h 171) (78 + i)) (nI m2)) <;> rfl] at hh
  obtain ⟨n, hh⟩ := rn_i rfl rfl rfl rfl hh
  obtain ⟨n, hh⟩ := rn_i rfl rfl rfl rfl hh
  have hh : pm_run PT n fr lo 174 (36, [some (.ref 162), some (.ref 171), some (.int (nI m2)), some (.int (x3 ||| (cond (pm_cmp .ne ((Ar h 171) (78 + i)) (nI m2)) (nI 0) (shl (nI 1) (nI i))))), some (.int (nI i))], [], h, 198, sl) = some R := hh
  obtain ⟨n, hh⟩ := en_inc (x := i) (c := 1) (j := 4) rfl rfl (by decide) hh
  have hh : pm_run PT n fr lo 174 (39, [some (.ref 162), some (.ref 171), some (.int (nI m2)), some (.int (x3 ||| (cond (pm_cmp .ne ((Ar h 171) (78 + i)) (nI m2)) (nI 0) (shl (nI 1) (nI i))))), some (.int (nI (i + 1)))], [], h, 198, sl) = some R := hh
  obtain ⟨n, hh⟩ := rn_i rfl rfl rfl rfl hh
  have ed : v174_5b q cc gc (Ar h 171) m2 i x3 = x3 ||| (cond (pm_cmp .ne ((Ar h 171) (78 + i)) (nI m2)) (nI 0) (shl (nI 1) (nI i))) := rfl
  rw [ed]
  exact ⟨n, hh⟩
theorem v174t_5_ok {fr lo sl cc gc : Nat} {q : QT} {R : pm_Rs} {m2 : Nat} : ∀ {j i : Nat} {x3 : Int32} {h : pm_H} {n : Nat}, gc - i = j → i + j < 1000000 → HC q cc gc h → m2 < 10000 → pm_run PT n fr lo 174 (5, [some (.ref 162), some (.ref 171), some (.int (nI m2)), some (.int x3), some (.int (nI i))], [], h, 198, sl) = some R → ∃ m wc, pm_run PT m fr lo 174 (42, [some (.ref 162), some (.ref 171), some (.int (nI m2)), some (.int (v174_5 q cc gc (Ar h 171) m2 j i x3)), wc], [], h, 198, sl) = some R := by
  intro j
  induction j with
  | zero =>
    intro i x3 h n e eI hw h_m2 hh
    obtain ⟨n, hh⟩ := v174t_5_e hw h_m2 (by omega) (by omega) hh
    exact ⟨n, _, hh⟩
  | succ j ih =>
    intro i x3 h n e eI hw h_m2 hh
    obtain ⟨n, hh⟩ := v174t_5_s hw h_m2 (by omega) (by omega) hh
    obtain ⟨n, wc, hh⟩ := ih (by omega) (by omega) hw h_m2 hh
    exact ⟨n, wc, hh⟩
theorem v174t_ok {n fr lo sl cc gc : Nat} {q : QT} {h : pm_H} {R : pm_Rs} {c : Nat} (hw : HC q cc gc h) (h_c : c < 10000) (hh : pm_run PT n fr lo 174 (0, pm_l0 [.ref 162, .ref 171, .int (nI c)] 5, [], h, 198, sl) = some R) : R = (some (.int (v174 q cc gc (Ar h 171) c)), h, 198, sl) := by
  have hcc := hw.cb
  have hgc := hw.gb
  have hzr := hw.zr
  obtain ⟨n, hh⟩ := rn_i rfl rfl rfl rfl hh
  obtain ⟨n, hh⟩ := rn_i rfl rfl rfl rfl hh
  obtain ⟨n, hh⟩ := rn_i rfl rfl rfl rfl hh
  obtain ⟨n, hh⟩ := rn_i rfl rfl rfl rfl hh
  have hh : pm_run PT n fr lo 174 (5, [some (.ref 162), some (.ref 171), some (.int (nI c)), some (.int (nI 0)), some (.int (nI 0))], [], h, 198, sl) = some R := hh
  obtain ⟨n, u1, hh⟩ := v174t_5_ok (m2 := c)  (i := 0) (x3 := (nI 0)) (j := gc) (by omega) (by omega) hw (by omega) hh
  have hh : pm_run PT n fr lo 174 (42, [some (.ref 162), some (.ref 171), some (.int (nI c)), some (.int (v174_5 q cc gc (Ar h 171) c gc 0 (nI 0))), u1], [], h, 198, sl) = some R := hh
  obtain ⟨n, hh⟩ := rn_i rfl rfl rfl rfl hh
  have hh : pm_run PT n fr lo 174 (43, [some (.ref 162), some (.ref 171), some (.int (nI c)), some (.int (v174_5 q cc gc (Ar h 171) c gc 0 (nI 0))), u1], [.int (v174_5 q cc gc (Ar h 171) c gc 0 (nI 0))], h, 198, sl) = some R := hh
  have er2 : R = (some (.int (v174_5 q cc gc (Ar h 171) c gc 0 (nI 0))), h, 198, sl) := (rn_ret rfl (Or.inl rfl) hh).2
  have ed : v174 q cc gc (Ar h 171) c = (v174_5 q cc gc (Ar h 171) c gc 0 (nI 0)) := rfl
  rw [ed]
  exact er2
end EB
