section MG95zzxdx0
/-! runs told exactly, written by ext.py -/
section EB
def v173 (q : QT) (cc gc : Nat) (d0 : Nat → Int32) (g : Nat) : Bool := v164 q cc gc ((d0) 94) (nI g)
theorem v173_ok {n fr lo sl cc gc : Nat} {q : QT} {h : pm_H} {R : pm_Rs} {g : Nat} (hw : HC q cc gc h) (h_g : g < 10000) (hh : pm_run PT n fr lo 173 (0, pm_l0 [.ref 170, .int (nI g)] 2, [], h, 198, sl) = some R) : R = (some (.int (cond (v173 q cc gc (Ar h 170) g) 1 0)), h, 198, sl) := by
  have hcc := hw.cb
  have hgc := hw.gb
  have hzr := hw.zr
  obtain ⟨n, hh⟩ := rn_i rfl rfl rfl rfl hh
  obtain ⟨n, hh⟩ := rn_i rfl rfl rfl rfl hh
  have hh : pm_run PT n fr lo 173 (3, [some (.ref 170), some (.int (nI g))], [.int (nI 94), .ref 170], h, 198, sl) = some R := hh
  obtain ⟨n, hx1, hh⟩ := en_lu (t := 94) (f := Ar h 170) (w := (Ar h 170) 94) (nI_clamp (by omega)) hw.wt rfl (by decide) rfl (by decide) rfl (fun _ => rfl) hh
  obtain ⟨n, hh⟩ := rn_i rfl rfl rfl rfl hh
  have hh : pm_run PT n fr lo 173 (5, [some (.ref 170), some (.int (nI g))], [.int (nI g), .int ((Ar h 170) 94)], h, 198, sl) = some R := hh
  obtain ⟨n, fr1, lo1, r1, hh1, hh⟩ := rn_call (w := 2) (t := 164) rfl rfl hh
  have er2 := v164_ok (a := ((Ar h 170) 94)) (b := (nI g)) hw hh1
  subst er2
  have hh : pm_run PT n fr lo 173 (8, [some (.ref 170), some (.int (nI g))], [.int (cond (v164 q cc gc ((Ar h 170) 94) (nI g)) 1 0)], h, 198, sl) = some R := hh
  have er3 : R = (some (.int (cond (v164 q cc gc ((Ar h 170) 94) (nI g)) 1 0)), h, 198, sl) := (rn_ret rfl (Or.inr rfl) hh).2
  have ed : v173 q cc gc (Ar h 170) g = v164 q cc gc ((Ar h 170) 94) (nI g) := rfl
  rw [ed]
  exact er3
def v174_5b (q : QT) (cc gc : Nat) (d0 : Nat → Int32) (m2 : Nat) (i : Nat) (x3 : Int32) : Int32 := x3 ||| (cond (pm_cmp .ne ((d0) (78 + i)) (nI m2)) (nI 0) (shl (nI 1) (nI i)))
def v174_5 (q : QT) (cc gc : Nat) (d0 : Nat → Int32) (m2 : Nat) (j i : Nat) (a : Int32) : Int32 := lp (fun i a => v174_5b q cc gc d0 m2 i a) j i a
def v174 (q : QT) (cc gc : Nat) (d0 : Nat → Int32) (c : Nat) : Int32 := (v174_5 q cc gc (d0) c gc 0 (nI 0))
def v177_4b (q : QT) (cc gc : Nat) (d0 : Nat → Int32) (i : Nat) (x2 : Int32) : Int32 := x2 + ((d0) i)
def v177_4 (q : QT) (cc gc : Nat) (d0 : Nat → Int32) (j i : Nat) (a : Int32) : Int32 := lp (fun i a => v177_4b q cc gc d0 i a) j i a
theorem v177_4_e {n fr lo sl cc gc : Nat} {q : QT} {h : pm_H} {R : pm_Rs} {i : Nat} {x2 : Int32} (hw : HC q cc gc h) (hi : cc ≤ i) (hI : i < 1000000) (hh : pm_run PT n fr lo 177 (4, [some (.ref 162), some (.ref 170), some (.int x2), some (.int (nI i))], [], h, 198, sl) = some R) : ∃ m, pm_run PT m fr lo 177 (24, [some (.ref 162), some (.ref 170), some (.int x2), some (.int (nI i))], [], h, 198, sl) = some R := by
  have hcc := hw.cb
  have hgc := hw.gb
  have hzr := hw.zr
  obtain ⟨n, hh⟩ := rn_i rfl rfl rfl rfl hh
  obtain ⟨n, hh⟩ := rn_i rfl rfl rfl rfl hh
  have hh : pm_run PT n fr lo 177 (6, [some (.ref 162), some (.ref 170), some (.int x2), some (.int (nI i))], [.ref 162, .int (nI i)], h, 198, sl) = some R := hh
  obtain ⟨n, hh⟩ := rn_gi (x := nI cc) hw.wt rfl rfl (by decide) rfl (by decide) rfl hw.m3 hh
  have hh : pm_run PT n fr lo 177 (9, [some (.ref 162), some (.ref 170), some (.int x2), some (.int (nI i))], [.int (nI cc), .int (nI i)], h, 198, sl) = some R := hh
  obtain ⟨n, hh⟩ := en_cn (cc := .ge) (off := 15) (t := 24) (b := decide (cc ≤ i)) (hI_ge (by omega) (by omega)) rfl rfl hh
  have hh := en_t (show decide (cc ≤ i) = true from decide_eq_true (by omega)) hh
  have hh : pm_run PT n fr lo 177 (24, [some (.ref 162), some (.ref 170), some (.int x2), some (.int (nI i))], [], h, 198, sl) = some R := hh
  exact ⟨n, hh⟩
theorem v177_4_s {n fr lo sl cc gc : Nat} {q : QT} {h : pm_H} {R : pm_Rs} {i : Nat} {x2 : Int32} (hw : HC q cc gc h) (hi : i < cc) (hI : i < 1000000) (hh : pm_run PT n fr lo 177 (4, [some (.ref 162), some (.ref 170), some (.int x2), some (.int (nI i))], [], h, 198, sl) = some R) : ∃ m, pm_run PT m fr lo 177 (4, [some (.ref 162), some (.ref 170), some (.int (v177_4b q cc gc (Ar h 170) i x2)), some (.int (nI (i + 1)))], [], h, 198, sl) = some R := by
  have hcc := hw.cb
  have hgc := hw.gb
  have hzr := hw.zr
  obtain ⟨n, hh⟩ := rn_i rfl rfl rfl rfl hh
  obtain ⟨n, hh⟩ := rn_i rfl rfl rfl rfl hh
  have hh : pm_run PT n fr lo 177 (6, [some (.ref 162), some (.ref 170), some (.int x2), some (.int (nI i))], [.ref 162, .int (nI i)], h, 198, sl) = some R := hh
  obtain ⟨n, hh⟩ := rn_gi (x := nI cc) hw.wt rfl rfl (by decide) rfl (by decide) rfl hw.m3 hh
  have hh : pm_run PT n fr lo 177 (9, [some (.ref 162), some (.ref 170), some (.int x2), some (.int (nI i))], [.int (nI cc), .int (nI i)], h, 198, sl) = some R := hh
  obtain ⟨n, hh⟩ := en_cn (cc := .ge) (off := 15) (t := 24) (b := decide (cc ≤ i)) (hI_ge (by omega) (by omega)) rfl rfl hh
  have hh := en_f (show decide (cc ≤ i) = false from decide_eq_false (by omega)) hh
  have hh : pm_run PT n fr lo 177 (12, [some (.ref 162), some (.ref 170), some (.int x2), some (.int (nI i))], [], h, 198, sl) = some R := hh
  obtain ⟨n, hh⟩ := rn_i rfl rfl rfl rfl hh
  obtain ⟨n, hh⟩ := rn_i rfl rfl rfl rfl hh
  obtain ⟨n, hh⟩ := rn_i rfl rfl rfl rfl hh
  have hh : pm_run PT n fr lo 177 (15, [some (.ref 162), some (.ref 170), some (.int x2), some (.int (nI i))], [.int (nI i), .ref 170, .int x2], h, 198, sl) = some R := hh
  obtain ⟨n, hx1, hh⟩ := en_lu (t := i) (f := Ar h 170) (w := (Ar h 170) i) (nI_clamp (by omega)) hw.wt rfl (by decide) rfl (by decide) rfl (fun _ => rfl) hh
  obtain ⟨n, hh⟩ := rn_i rfl rfl rfl rfl hh
  obtain ⟨n, hh⟩ := rn_i rfl rfl rfl rfl hh
  have hh : pm_run PT n fr lo 177 (18, [some (.ref 162), some (.ref 170), some (.int (x2 + ((Ar h 170) i))), some (.int (nI i))], [], h, 198, sl) = some R := hh
  obtain ⟨n, hh⟩ := en_inc (x := i) (c := 1) (j := 3) rfl rfl (by decide) hh
  have hh : pm_run PT n fr lo 177 (21, [some (.ref 162), some (.ref 170), some (.int (x2 + ((Ar h 170) i))), some (.int (nI (i + 1)))], [], h, 198, sl) = some R := hh
  obtain ⟨n, hh⟩ := rn_i rfl rfl rfl rfl hh
  have ed : v177_4b q cc gc (Ar h 170) i x2 = x2 + ((Ar h 170) i) := rfl
  rw [ed]
  exact ⟨n, hh⟩
theorem v177_4_ok {fr lo sl cc gc : Nat} {q : QT} {R : pm_Rs} : ∀ {j i : Nat} {x2 : Int32} {h : pm_H} {n : Nat}, cc - i = j → i + j < 1000000 → HC q cc gc h → pm_run PT n fr lo 177 (4, [some (.ref 162), some (.ref 170), some (.int x2), some (.int (nI i))], [], h, 198, sl) = some R → ∃ m wc, pm_run PT m fr lo 177 (24, [some (.ref 162), some (.ref 170), some (.int (v177_4 q cc gc (Ar h 170) j i x2)), wc], [], h, 198, sl) = some R := by
  intro j
  induction j with
  | zero =>
    intro i x2 h n e eI hw hh
    obtain ⟨n, hh⟩ := v177_4_e hw (by omega) (by omega) hh
    exact ⟨n, _, hh⟩
  | succ j ih =>
    intro i x2 h n e eI hw hh
    obtain ⟨n, hh⟩ := v177_4_s hw (by omega) (by omega) hh
    obtain ⟨n, wc, hh⟩ := ih (by omega) (by omega) hw hh
    exact ⟨n, wc, hh⟩
def v177 (q : QT) (cc gc : Nat) (d0 : Nat → Int32) : Int32 := (v177_4 q cc gc (d0) cc 0 (nI 0))
theorem v177_ok {n fr lo sl cc gc : Nat} {q : QT} {h : pm_H} {R : pm_Rs} (hw : HC q cc gc h) (hh : pm_run PT n fr lo 177 (0, pm_l0 [.ref 162, .ref 170] 4, [], h, 198, sl) = some R) : R = (some (.int (v177 q cc gc (Ar h 170))), h, 198, sl) := by
  have hcc := hw.cb
  have hgc := hw.gb
  have hzr := hw.zr
  obtain ⟨n, hh⟩ := rn_i rfl rfl rfl rfl hh
  obtain ⟨n, hh⟩ := rn_i rfl rfl rfl rfl hh
  obtain ⟨n, hh⟩ := rn_i rfl rfl rfl rfl hh
  obtain ⟨n, hh⟩ := rn_i rfl rfl rfl rfl hh
  have hh : pm_run PT n fr lo 177 (4, [some (.ref 162), some (.ref 170), some (.int (nI 0)), some (.int (nI 0))], [], h, 198, sl) = some R := hh
  obtain ⟨n, u1, hh⟩ := v177_4_ok  (i := 0) (x2 := (nI 0)) (j := cc) (by omega) (by omega) hw hh
  have hh : pm_run PT n fr lo 177 (24, [some (.ref 162), some (.ref 170), some (.int (v177_4 q cc gc (Ar h 170) cc 0 (nI 0))), u1], [], h, 198, sl) = some R := hh
  obtain ⟨n, hh⟩ := rn_i rfl rfl rfl rfl hh
  have hh : pm_run PT n fr lo 177 (25, [some (.ref 162), some (.ref 170), some (.int (v177_4 q cc gc (Ar h 170) cc 0 (nI 0))), u1], [.int (v177_4 q cc gc (Ar h 170) cc 0 (nI 0))], h, 198, sl) = some R := hh
  have er2 : R = (some (.int (v177_4 q cc gc (Ar h 170) cc 0 (nI 0))), h, 198, sl) := (rn_ret rfl (Or.inl rfl) hh).2
  have ed : v177 q cc gc (Ar h 170) = (v177_4 q cc gc (Ar h 170) cc 0 (nI 0)) := rfl
  rw [ed]
  exact er2
theorem v173t_ok {n fr lo sl cc gc : Nat} {q : QT} {h : pm_H} {R : pm_Rs} {g : Nat} (hw : HC q cc gc h) (h_g : g < 10000) (hh : pm_run PT n fr lo 173 (0, pm_l0 [.ref 171, .int (nI g)] 2, [], h, 198, sl) = some R) : R = (some (.int (cond (v173 q cc gc (Ar h 171) g) 1 0)), h, 198, sl) := by
  have hcc := hw.cb
  have hgc := hw.gb
  have hzr := hw.zr
  obtain ⟨n, hh⟩ := rn_i rfl rfl rfl rfl hh
  obtain ⟨n, hh⟩ := rn_i rfl rfl rfl rfl hh
  have hh : pm_run PT n fr lo 173 (3, [some (.ref 171), some (.int (nI g))], [.int (nI 94), .ref 171], h, 198, sl) = some R := hh
  obtain ⟨n, hx1, hh⟩ := en_lu (t := 94) (f := Ar h 171) (w := (Ar h 171) 94) (nI_clamp (by omega)) hw.wt rfl (by decide) rfl (by decide) rfl (fun _ => rfl) hh
  obtain ⟨n, hh⟩ := rn_i rfl rfl rfl rfl hh
  have hh : pm_run PT n fr lo 173 (5, [some (.ref 171), some (.int (nI g))], [.int (nI g), .int ((Ar h 171) 94)], h, 198, sl) = some R := hh
  obtain ⟨n, fr1, lo1, r1, hh1, hh⟩ := rn_call (w := 2) (t := 164) rfl rfl hh
  have er2 := v164_ok (a := ((Ar h 171) 94)) (b := (nI g)) hw hh1
  subst er2
  have hh : pm_run PT n fr lo 173 (8, [some (.ref 171), some (.int (nI g))], [.int (cond (v164 q cc gc ((Ar h 171) 94) (nI g)) 1 0)], h, 198, sl) = some R := hh
  have er3 : R = (some (.int (cond (v164 q cc gc ((Ar h 171) 94) (nI g)) 1 0)), h, 198, sl) := (rn_ret rfl (Or.inr rfl) hh).2
  have ed : v173 q cc gc (Ar h 171) g = v164 q cc gc ((Ar h 171) 94) (nI g) := rfl
  rw [ed]
  exact er3
theorem v174t_5_e {n fr lo sl cc gc : Nat} {q : QT} {h : pm_H} {R : pm_Rs} {m2 : Nat} {i : Nat} {x3 : Int32} (hw : HC q cc gc h) (h_m2 : m2 < 10000) (hi : gc ≤ i) (hI : i < 1000000) (hh : pm_run PT n fr lo 174 (5, [some (.ref 162), some (.ref 171), some (.int (nI m2)), some (.int x3), some (.int (nI i))], [], h, 198, sl) = some R) : ∃ m, pm_run PT m fr lo 174 (42, [some (.ref 162), some (.ref 171), some (.int (nI m2)), some (.int x3), some (.int (nI i))], [], h, 198, sl) = some R := by
  have hcc := hw.cb
  have hgc := hw.gb
  have hzr := hw.zr
  obtain ⟨n, hh⟩ := rn_i rfl rfl rfl rfl hh
  obtain ⟨n, hh⟩ := rn_i rfl rfl rfl rfl hh
  have hh : pm_run PT n fr lo 174 (8, [some (.ref 162), some (.ref 171), some (.int (nI m2)), some (.int x3), some (.int (nI i))], [.ref 162, .int (nI i)], h, 198, sl) = some R := hh
  obtain ⟨n, hh⟩ := rn_gi (x := nI gc) hw.wt rfl rfl (by decide) rfl (by decide) rfl hw.m4 hh
  have hh : pm_run PT n fr lo 174 (11, [some (.ref 162), some (.ref 171), some (.int (nI m2)), some (.int x3), some (.int (nI i))], [.int (nI gc), .int (nI i)], h, 198, sl) = some R := hh
  obtain ⟨n, hh⟩ := en_cn (cc := .ge) (off := 31) (t := 42) (b := decide (gc ≤ i)) (hI_ge (by omega) (by omega)) rfl rfl hh
  have hh := en_t (show decide (gc ≤ i) = true from decide_eq_true (by omega)) hh
  have hh : pm_run PT n fr lo 174 (42, [some (.ref 162), some (.ref 171), some (.int (nI m2)), some (.int x3), some (.int (nI i))], [], h, 198, sl) = some R := hh
  exact ⟨n, hh⟩
theorem v174t_5_s {n fr lo sl cc gc : Nat} {q : QT} {h : pm_H} {R : pm_Rs} {m2 : Nat} {i : Nat} {x3 : Int32} (hw : HC q cc gc h) (h_m2 : m2 < 10000) (hi : i < gc) (hI : i < 1000000) (hh : pm_run PT n fr lo 174 (5, [some (.ref 162), some (.ref 171), some (.int (nI m2)), some (.int x3), some (.int (nI i))], [], h, 198, sl) = some R) : ∃ m, pm_run PT m fr lo 174 (5, [some (.ref 162), some (.ref 171), some (.int (nI m2)), some (.int (v174_5b q cc gc (Ar h 171) m2 i x3)), some (.int (nI (i + 1)))], [], h, 198, sl) = some R := by
  have hcc := hw.cb
  have hgc := hw.gb
  have hzr := hw.zr
  obtain ⟨n, hh⟩ := rn_i rfl rfl rfl rfl hh
  obtain ⟨n, hh⟩ := rn_i rfl rfl rfl rfl hh
  have hh : pm_run PT n fr lo 174 (8, [some (.ref 162), some (.ref 171), some (.int (nI m2)), some (.int x3), some (.int (nI i))], [.ref 162, .int (nI i)], h, 198, sl) = some R := hh
  obtain ⟨n, hh⟩ := rn_gi (x := nI gc) hw.wt rfl rfl (by decide) rfl (by decide) rfl hw.m4 hh
  have hh : pm_run PT n fr lo 174 (11, [some (.ref 162), some (.ref 171), some (.int (nI m2)), some (.int x3), some (.int (nI i))], [.int (nI gc), .int (nI i)], h, 198, sl) = some R := hh
  obtain ⟨n, hh⟩ := en_cn (cc := .ge) (off := 31) (t := 42) (b := decide (gc ≤ i)) (hI_ge (by omega) (by omega)) rfl rfl hh
  have hh := en_f (show decide (gc ≤ i) = false from decide_eq_false (by omega)) hh
  have hh : pm_run PT n fr lo 174 (14, [some (.ref 162), some (.ref 171), some (.int (nI m2)), some (.int x3), some (.int (nI i))], [], h, 198, sl) = some R := hh
  obtain ⟨n, hh⟩ := rn_i rfl rfl rfl rfl hh
  obtain ⟨n, hh⟩ := rn_i rfl rfl rfl rfl hh
  obtain ⟨n, hh⟩ := rn_i rfl rfl rfl rfl hh
  obtain ⟨n, hh⟩ := rn_i rfl rfl rfl rfl hh
  have hh : pm_run PT n fr lo 174 (20, [some (.ref 162), some (.ref 171), some (.int (nI m2)), some (.int x3), some (.int (nI i))], [.int (nI i), .int (nI 78), .ref 171, .int x3], h, 198, sl) = some R := hh
  obtain ⟨n, hh⟩ := en_add rfl hh
  have hh : pm_run PT n fr lo 174 (21, [some (.ref 162), some (.ref 171), some (.int (nI m2)), some (.int x3), some (.int (nI i))], [.int (nI (78 + i)), .ref 171, .int x3], h, 198, sl) = some R := hh
  have hh : pm_run PT n fr lo 174 (21, [some (.ref 162), some (.ref 171), some (.int (nI m2)), some (.int x3), some (.int (nI i))], [.int (nI (78 + i)), .ref 171, .int x3], h, 198, sl) = some R := hh
  obtain ⟨n, hx1, hh⟩ := en_lu (t := 78 + i) (f := Ar h 171) (w := (Ar h 171) (78 + i)) (nI_clamp (by omega)) hw.wt rfl (by decide) rfl (by decide) rfl (fun _ => rfl) hh
  obtain ⟨n, hh⟩ := rn_i rfl rfl rfl rfl hh
  have hh : pm_run PT n fr lo 174 (23, [some (.ref 162), some (.ref 171), some (.int (nI m2)), some (.int x3), some (.int (nI i))], [.int (nI m2), .int ((Ar h 171) (78 + i)), .int x3], h, 198, sl) = some R := hh
  obtain ⟨n, hh⟩ := en_cn (cc := .ne) (off := 10) (t := 33) (b := pm_cmp .ne ((Ar h 171) (78 + i)) (nI m2)) rfl rfl rfl hh
  have hj3 : ∃ mJ, pm_run PT mJ fr lo 174 (cond (pm_cmp .ne ((Ar h 171) (78 + i)) (nI m2)) (34, [some (.ref 162), some (.ref 171), some (.int (nI m2)), some (.int x3), some (.int (nI i))], [.int (nI 0), .int x3], h, 198, sl) (34, [some (.ref 162), some (.ref 171), some (.int (nI m2)), some (.int x3), some (.int (nI i))], [.int (shl (nI 1) (nI i)), .int x3], h, 198, sl)) = some R := en_J (fun z2 => by
      have hh := en_t z2 hh
      have hh : pm_run PT n fr lo 174 (33, [some (.ref 162), some (.ref 171), some (.int (nI m2)), some (.int x3), some (.int (nI i))], [.int x3], h, 198, sl) = some R := hh
      obtain ⟨n, hh⟩ := rn_i rfl rfl rfl rfl hh
      exact ⟨n, hh⟩) (fun z2 => by
      have hh := en_f z2 hh
      have hh : pm_run PT n fr lo 174 (26, [some (.ref 162), some (.ref 171), some (.int (nI m2)), some (.int x3), some (.int (nI i))], [.int x3], h, 198, sl) = some R := hh
      obtain ⟨n, hh⟩ := rn_i rfl rfl rfl rfl hh
      obtain ⟨n, hh⟩ := rn_i rfl rfl rfl rfl hh
      obtain ⟨n, hh⟩ := rn_i rfl rfl rfl rfl hh
      obtain ⟨n, hh⟩ := rn_i rfl rfl rfl rfl hh
      exact ⟨n, hh⟩)
  obtain ⟨n, hh⟩ := hj3
  rw [show (cond (pm_cmp .ne ((Ar h 171) (78 + i)) (nI m2)) (34, [some (.ref 162), some (.ref 171), some (.int (nI m2)), some (.int x3), some (.int (nI i))], [.int (nI 0), .int x3], h, 198, sl) (34, [some (.ref 162), some (.ref 171), some (.int (nI m2)), some (.int x3), some (.int (nI i))], [.int (shl (nI 1) (nI i)), .int x3], h, 198, sl) : pm_St) = (34, [some (.ref 162), some (.ref 171), some (.int (nI m2)), some (.int x3), some (.int (nI i))], [.int (cond (pm_cmp .ne ((Ar h 171) (78 + i)) (nI m2)) (nI 0) (shl (nI 1) (nI i))), .int x3], h, 198, sl) from by cases (pm_cmp .ne ((Ar h 171) (78 + i)) (nI m2)) <;> rfl] at hh
  obtain ⟨n, hh⟩ := rn_i rfl rfl rfl rfl hh
  obtain ⟨n, hh⟩ := rn_i rfl rfl rfl rfl hh
  have hh : pm_run PT n fr lo 174 (36, [some (.ref 162), some (.ref 171), some (.int (nI m2)), some (.int (x3 ||| (cond (pm_cmp .ne ((Ar h 171) (78 + i)) (nI m2)) (nI 0) (shl (nI 1) (nI i))))), some (.int (nI i))], [], h, 198, sl) = some R := hh
  obtain ⟨n, hh⟩ := en_inc (x := i) (c := 1) (j := 4) rfl rfl (by decide) hh
  have hh : pm_run PT n fr lo 174 (39, [some (.ref 162), some (.ref 171), some (.int (nI m2)), some (.int (x3 ||| (cond (pm_cmp .ne ((Ar h 171) (78 + i)) (nI m2)) (nI 0) (shl (nI 1) (nI i))))), some (.int (nI (i + 1)))], [], h, 198, sl) = some R := hh
  obtain ⟨n, hh⟩ := rn_i rfl rfl rfl rfl hh
  have ed : v174_5b q cc gc (Ar h 171) m2 i x3 = x3 ||| (cond (pm_cmp .ne ((Ar h 171) (78 + i)) (nI m2)) (nI 0) (shl (nI 1) (nI i))) := rfl
  rw [ed]
  exact ⟨n, hh⟩
theorem v174t_5_ok {fr lo sl cc gc : Nat} {q : QT} {R : pm_Rs} {m2 : Nat} : ∀ {j i : Nat} {x3 : Int32} {h : pm_H} {n : Nat}, gc - i = j → i + j < 1000000 → HC q cc gc h → m2 < 10000 → pm_run PT n fr lo 174 (5, [some (.ref 162), some (.ref 171), some (.int (nI m2)), some (.int x3), some (.int (nI i))], [], h, 198, sl) = some R → ∃ m wc, pm_run PT m fr lo 174 (42, [some (.ref 162), some (.ref 171), some (.int (nI m2)), some (.int (v174_5 q cc gc (Ar h 171) m2 j i x3)), wc], [], h, 198, sl) = some R := by
  intro j
  induction j with
  | zero =>
    intro i x3 h n e eI hw h_m2 hh
    obtain ⟨n, hh⟩ := v174t_5_e hw h_m2 (by omega) (by omega) hh
    exact ⟨n, _, hh⟩
  | succ j ih =>
    intro i x3 h n e eI hw h_m2 hh
    obtain ⟨n, hh⟩ := v174t_5_s hw h_m2 (by omega) (by omega) hh
    obtain ⟨n, wc, hh⟩ := ih (by omega) (by omega) hw h_m2 hh
    exact ⟨n, wc, hh⟩
theorem v174t_ok {n fr lo sl cc gc : Nat} {q : QT} {h : pm_H} {R : pm_Rs} {c : Nat} (hw : HC q cc gc h) (h_c : c < 10000) (hh : pm_run PT n fr lo 174 (0, pm_l0 [.ref 162, .ref 171, .int (nI c)] 5, [], h, 198, sl) = some R) : R = (some (.int (v174 q cc gc (Ar h 171) c)), h, 198, sl) := by
  have hcc := hw.cb
  have hgc := hw.gb
  have hzr := hw.zr
  obtain ⟨n, hh⟩ := rn_i rfl rfl rfl rfl hh
  obtain ⟨n, hh⟩ := rn_i rfl rfl rfl rfl hh
  obtain ⟨n, hh⟩ := rn_i rfl rfl rfl rfl hh
  obtain ⟨n, hh⟩ := rn_i rfl rfl rfl rfl hh
  have hh : pm_run PT n fr lo 174 (5, [some (.ref 162), some (.ref 171), some (.int (nI c)), some (.int (nI 0)), some (.int (nI 0))], [], h, 198, sl) = some R := hh
  obtain ⟨n, u1, hh⟩ := v174t_5_ok (m2 := c)  (i := 0) (x3 := (nI 0)) (j := gc) (by omega) (by omega) hw (by omega) hh
  have hh : pm_run PT n fr lo 174 (42, [some (.ref 162), some (.ref 171), some (.int (nI c)), some (.int (v174_5 q cc gc (Ar h 171) c gc 0 (nI 0))), u1], [], h, 198, sl) = some R := hh
  obtain ⟨n, hh⟩ := rn_i rfl rfl rfl rfl hh
  have hh : pm_run PT n fr lo 174 (43, [some (.ref 162), some (.ref 171), some (.int (nI c)), some (.int (v174_5 q cc gc (Ar h 171) c gc 0 (nI 0))), u1], [.int (v174_5 q cc gc (Ar h 171) c gc 0 (nI 0))], h, 198, sl) = some R := hh
  have er2 : R = (some (.int (v174_5 q cc gc (Ar h 171) c gc 0 (nI 0))), h, 198, sl) := (rn_ret rfl (Or.inl rfl) hh).2
  have ed : v174 q cc gc (Ar h 171) c = (v174_5 q cc gc (Ar h 171) c gc 0 (nI 0)) := rfl
  rw [ed]
  exact er2
end EB
end MG95zzxdx0
section MG95zzxdx1
/-! a state is copied: any of the class's states into any other -/
section CPY
variable {n fr lo k pc sl cc gc s t j : Nat} {q : QT} {L : pm_L} {S : List Value} {h g h' : pm_H} {R : pm_Rs}
def stL : List Nat := [13, 19, 27, 33, 39, 45, 51, 57, 63, 69, 75, 81, 87, 93, 99, 105, 111, 117, 124, 130, 136]
def isSt (s : Nat) : Bool := stL.elem s
theorem xst_all : stL.all (fun s => decide (s + 6 < 150) && (decide (13 ≤ s) && (decide (wd (bB s) = .inr (7, [(2, ((s + 1 : Nat) : Int), 1), (2, ((s + 2 : Nat) : Int), 1), (2, ((s + 3 : Nat) : Int), 1), (2, ((s + 4 : Nat) : Int), 1), (2, ((s + 5 : Nat) : Int), 1), ai_top, ai_top])) && (decide (wd (bB (s + 1)) = .inl (0, 6, ai_top)) && (decide (wd (bB (s + 2)) = .inl (0, 36, ai_top)) && (decide (wd (bB (s + 3)) = .inl (0, 36, ai_top)) && (decide (wd (bB (s + 4)) = .inl (0, 8, ai_top)) && (decide (wd (bB (s + 5)) = .inl (0, 8, ai_top)) && ((List.range 6).all (fun i => hcA (s + i)) && (hcF s 5 && hcF s 6)))))))))) = true := by decide +kernel
theorem xst_of (hs : isSt s = true) : (s + 6 < 150 ∧ 13 ≤ s) ∧ wd (bB s) = .inr (7, [(2, ((s + 1 : Nat) : Int), 1), (2, ((s + 2 : Nat) : Int), 1), (2, ((s + 3 : Nat) : Int), 1), (2, ((s + 4 : Nat) : Int), 1), (2, ((s + 5 : Nat) : Int), 1), ai_top, ai_top]) ∧ (wd (bB (s + 1)) = .inl (0, 6, ai_top) ∧ wd (bB (s + 2)) = .inl (0, 36, ai_top) ∧ wd (bB (s + 3)) = .inl (0, 36, ai_top) ∧ wd (bB (s + 4)) = .inl (0, 8, ai_top) ∧ wd (bB (s + 5)) = .inl (0, 8, ai_top)) ∧ (∀ i, i < 6 → hcA (s + i) = true) ∧ hcF s 5 = true ∧ hcF s 6 = true := by
  have q := List.all_eq_true.mp xst_all s (List.elem_iff.mp hs)
  simp only [Bool.and_eq_true] at q
  obtain ⟨q1, q2, q3, q4, q5, q6, q7, q8, q9, q10, q11⟩ := q
  exact ⟨⟨of_decide_eq_true q1, of_decide_eq_true q2⟩, of_decide_eq_true q3, ⟨of_decide_eq_true q4, of_decide_eq_true q5, of_decide_eq_true q6, of_decide_eq_true q7, of_decide_eq_true q8⟩, fun i hi => List.all_eq_true.mp q9 i (List.mem_range.mpr hi), q10, q11⟩
theorem av_ids1 (p : Nat) : av_ids (2, (p : Int), 1) = [p] := by
  unfold av_ids
  rfl
/-- what a state tells -/
def cpA (h : pm_H) (s t m : Nat) (i : Nat) (g : pm_H) : pm_H := aset g (s + i) m (va_cpy (Ar h (t + i)) (Ar h (s + i)) 0 0 m)
def cp73 (h : pm_H) (s t : Nat) : pm_H := fset (fset (cpA h s t 8 5 (cpA h s t 8 4 (cpA h s t 36 3 (cpA h s t 36 2 (cpA h s t 6 1 h))))) s 5 (.int (Fi h t 5))) s 6 (.int (Fi h t 6))
theorem cp73_hc (hs : isSt s = true) (hw : HC q cc gc h) : HC q cc gc (cp73 h s t) := by
  obtain ⟨⟨bs, ls⟩, os, ⟨s1, s2, s3, s4, s5⟩, cs, f5, f6⟩ := xst_of hs
  have w1 := hc_a (m := 6) (f := va_cpy (Ar h (t + 1)) (Ar h (s + 1)) 0 0 6) (cs 1 (by decide)) s1 hw
  have w2 := hc_a (m := 36) (f := va_cpy (Ar h (t + 2)) (Ar h (s + 2)) 0 0 36) (cs 2 (by decide)) s2 w1
  have w3 := hc_a (m := 36) (f := va_cpy (Ar h (t + 3)) (Ar h (s + 3)) 0 0 36) (cs 3 (by decide)) s3 w2
  have w4 := hc_a (m := 8) (f := va_cpy (Ar h (t + 4)) (Ar h (s + 4)) 0 0 8) (cs 4 (by decide)) s4 w3
  have w5 := hc_a (m := 8) (f := va_cpy (Ar h (t + 5)) (Ar h (s + 5)) 0 0 8) (cs 5 (by decide)) s5 w4
  have w6 := hc_f (g := 5) (x := Fi h t 5) f5 os (by decide) rfl w5
  exact hc_f (g := 6) (x := Fi h t 6) f6 os (by decide) rfl w6
theorem cp73_ok (hs : isSt s = true) (ht : isSt t = true) (hst : s + 6 ≤ t ∨ t + 6 ≤ s) (hw : HC q cc gc h) (hh : pm_run PT n fr lo 73 (0, pm_l0 [.ref s, .ref t] 2, [], h, 198, sl) = some R) : R = (none, cp73 h s t, 198, sl) ∧ HC q cc gc (cp73 h s t) := by
  obtain ⟨⟨bs, ls⟩, os, ⟨s1, s2, s3, s4, s5⟩, cs, f5, f6⟩ := xst_of hs
  obtain ⟨⟨bt, lt⟩, ot, ⟨t1, t2, t3, t4, t5⟩, -, -, -⟩ := xst_of ht
  have w1 := hc_a (m := 6) (f := va_cpy (Ar h (t + 1)) (Ar h (s + 1)) 0 0 6) (cs 1 (by decide)) s1 hw
  have w2 := hc_a (m := 36) (f := va_cpy (Ar h (t + 2)) (Ar h (s + 2)) 0 0 36) (cs 2 (by decide)) s2 w1
  have w3 := hc_a (m := 36) (f := va_cpy (Ar h (t + 3)) (Ar h (s + 3)) 0 0 36) (cs 3 (by decide)) s3 w2
  have w4 := hc_a (m := 8) (f := va_cpy (Ar h (t + 4)) (Ar h (s + 4)) 0 0 8) (cs 4 (by decide)) s4 w3
  have w5 := hc_a (m := 8) (f := va_cpy (Ar h (t + 5)) (Ar h (s + 5)) 0 0 8) (cs 5 (by decide)) s5 w4
  have w6 := hc_f (g := 5) (x := Fi h t 5) f5 os (by decide) rfl w5
  have w7 := hc_f (g := 6) (x := Fi h t 6) f6 os (by decide) rfl w6
  refine ⟨?_, w7⟩
  obtain ⟨n, hh⟩ := rn_i rfl rfl rfl rfl hh
  have hh : pm_run PT n fr lo 73 (1, [some (.ref s), some (.ref t)], [.ref t], h, 198, sl) = some R := hh
  obtain ⟨n, hh⟩ := rn_gr (p := t + 1) hw.wt rfl rfl (by omega) ot (by decide) rfl (av_ids1 _) hh
  obtain ⟨n, hh⟩ := rn_i rfl rfl rfl rfl hh
  obtain ⟨n, hh⟩ := rn_i rfl rfl rfl rfl hh
  have hh : pm_run PT n fr lo 73 (6, [some (.ref s), some (.ref t)], [.ref s, .int (nI 0), .ref (t + 1)], h, 198, sl) = some R := hh
  obtain ⟨n, hh⟩ := rn_gr (p := s + 1) hw.wt rfl rfl (by omega) os (by decide) rfl (av_ids1 _) hh
  obtain ⟨n, hh⟩ := rn_i rfl rfl rfl rfl hh
  obtain ⟨n, hh⟩ := rn_i rfl rfl rfl rfl hh
  have hh : pm_run PT n fr lo 73 (12, [some (.ref s), some (.ref t)], [.int (nI 6), .int (nI 0), .ref (s + 1), .int (nI 0), .ref (t + 1)], h, 198, sl) = some R := hh
  obtain ⟨n, hh⟩ := rn_cp (f := Ar h (t + 1)) (g := Ar h (s + 1)) hw.wt rfl rfl rfl (by omega) t1 (by decide) rfl (by omega) s1 (by decide) rfl hh
  obtain ⟨n, hh⟩ := rn_i rfl rfl rfl rfl hh
  have hh : pm_run PT n fr lo 73 (16, [some (.ref s), some (.ref t)], [.ref t], cpA h s t 6 1 h, 198, sl) = some R := hh
  obtain ⟨n, hh⟩ := rn_gr (p := t + 2) w1.wt rfl rfl (by omega) ot (by decide) rfl (av_ids1 _) hh
  obtain ⟨n, hh⟩ := rn_i rfl rfl rfl rfl hh
  obtain ⟨n, hh⟩ := rn_i rfl rfl rfl rfl hh
  have hh : pm_run PT n fr lo 73 (21, [some (.ref s), some (.ref t)], [.ref s, .int (nI 0), .ref (t + 2)], cpA h s t 6 1 h, 198, sl) = some R := hh
  obtain ⟨n, hh⟩ := rn_gr (p := s + 2) w1.wt rfl rfl (by omega) os (by decide) rfl (av_ids1 _) hh
  obtain ⟨n, hh⟩ := rn_i rfl rfl rfl rfl hh
  obtain ⟨n, hh⟩ := rn_i rfl rfl rfl rfl hh
  have hh : pm_run PT n fr lo 73 (27, [some (.ref s), some (.ref t)], [.int (nI 36), .int (nI 0), .ref (s + 2), .int (nI 0), .ref (t + 2)], cpA h s t 6 1 h, 198, sl) = some R := hh
  obtain ⟨n, hh⟩ := rn_cp (f := Ar h (t + 2)) (g := Ar h (s + 2)) w1.wt rfl rfl rfl (by omega) t2 (by decide) (Ar_n (by omega)) (by omega) s2 (by decide) (Ar_n (by omega)) hh
  obtain ⟨n, hh⟩ := rn_i rfl rfl rfl rfl hh
  have hh : pm_run PT n fr lo 73 (31, [some (.ref s), some (.ref t)], [.ref t], cpA h s t 36 2 (cpA h s t 6 1 h), 198, sl) = some R := hh
  obtain ⟨n, hh⟩ := rn_gr (p := t + 3) w2.wt rfl rfl (by omega) ot (by decide) rfl (av_ids1 _) hh
  obtain ⟨n, hh⟩ := rn_i rfl rfl rfl rfl hh
  obtain ⟨n, hh⟩ := rn_i rfl rfl rfl rfl hh
  have hh : pm_run PT n fr lo 73 (36, [some (.ref s), some (.ref t)], [.ref s, .int (nI 0), .ref (t + 3)], cpA h s t 36 2 (cpA h s t 6 1 h), 198, sl) = some R := hh
  obtain ⟨n, hh⟩ := rn_gr (p := s + 3) w2.wt rfl rfl (by omega) os (by decide) rfl (av_ids1 _) hh
  obtain ⟨n, hh⟩ := rn_i rfl rfl rfl rfl hh
  obtain ⟨n, hh⟩ := rn_i rfl rfl rfl rfl hh
  have hh : pm_run PT n fr lo 73 (42, [some (.ref s), some (.ref t)], [.int (nI 36), .int (nI 0), .ref (s + 3), .int (nI 0), .ref (t + 3)], cpA h s t 36 2 (cpA h s t 6 1 h), 198, sl) = some R := hh
  obtain ⟨n, hh⟩ := rn_cp (f := Ar h (t + 3)) (g := Ar h (s + 3)) w2.wt rfl rfl rfl (by omega) t3 (by decide) ((Ar_n (by omega)).trans (Ar_n (by omega))) (by omega) s3 (by decide) ((Ar_n (by omega)).trans (Ar_n (by omega))) hh
  obtain ⟨n, hh⟩ := rn_i rfl rfl rfl rfl hh
  have hh : pm_run PT n fr lo 73 (46, [some (.ref s), some (.ref t)], [.ref t], cpA h s t 36 3 (cpA h s t 36 2 (cpA h s t 6 1 h)), 198, sl) = some R := hh
  obtain ⟨n, hh⟩ := rn_gr (p := t + 4) w3.wt rfl rfl (by omega) ot (by decide) rfl (av_ids1 _) hh
  obtain ⟨n, hh⟩ := rn_i rfl rfl rfl rfl hh
  obtain ⟨n, hh⟩ := rn_i rfl rfl rfl rfl hh
  have hh : pm_run PT n fr lo 73 (51, [some (.ref s), some (.ref t)], [.ref s, .int (nI 0), .ref (t + 4)], cpA h s t 36 3 (cpA h s t 36 2 (cpA h s t 6 1 h)), 198, sl) = some R := hh
  obtain ⟨n, hh⟩ := rn_gr (p := s + 4) w3.wt rfl rfl (by omega) os (by decide) rfl (av_ids1 _) hh
  obtain ⟨n, hh⟩ := rn_i rfl rfl rfl rfl hh
  obtain ⟨n, hh⟩ := rn_i rfl rfl rfl rfl hh
  have hh : pm_run PT n fr lo 73 (57, [some (.ref s), some (.ref t)], [.int (nI 8), .int (nI 0), .ref (s + 4), .int (nI 0), .ref (t + 4)], cpA h s t 36 3 (cpA h s t 36 2 (cpA h s t 6 1 h)), 198, sl) = some R := hh
  obtain ⟨n, hh⟩ := rn_cp (f := Ar h (t + 4)) (g := Ar h (s + 4)) w3.wt rfl rfl rfl (by omega) t4 (by decide) ((Ar_n (by omega)).trans ((Ar_n (by omega)).trans (Ar_n (by omega)))) (by omega) s4 (by decide) ((Ar_n (by omega)).trans ((Ar_n (by omega)).trans (Ar_n (by omega)))) hh
  obtain ⟨n, hh⟩ := rn_i rfl rfl rfl rfl hh
  have hh : pm_run PT n fr lo 73 (61, [some (.ref s), some (.ref t)], [.ref t], cpA h s t 8 4 (cpA h s t 36 3 (cpA h s t 36 2 (cpA h s t 6 1 h))), 198, sl) = some R := hh
  obtain ⟨n, hh⟩ := rn_gr (p := t + 5) w4.wt rfl rfl (by omega) ot (by decide) rfl (av_ids1 _) hh
  obtain ⟨n, hh⟩ := rn_i rfl rfl rfl rfl hh
  obtain ⟨n, hh⟩ := rn_i rfl rfl rfl rfl hh
  have hh : pm_run PT n fr lo 73 (66, [some (.ref s), some (.ref t)], [.ref s, .int (nI 0), .ref (t + 5)], cpA h s t 8 4 (cpA h s t 36 3 (cpA h s t 36 2 (cpA h s t 6 1 h))), 198, sl) = some R := hh
  obtain ⟨n, hh⟩ := rn_gr (p := s + 5) w4.wt rfl rfl (by omega) os (by decide) rfl (av_ids1 _) hh
  obtain ⟨n, hh⟩ := rn_i rfl rfl rfl rfl hh
  obtain ⟨n, hh⟩ := rn_i rfl rfl rfl rfl hh
  have hh : pm_run PT n fr lo 73 (72, [some (.ref s), some (.ref t)], [.int (nI 8), .int (nI 0), .ref (s + 5), .int (nI 0), .ref (t + 5)], cpA h s t 8 4 (cpA h s t 36 3 (cpA h s t 36 2 (cpA h s t 6 1 h))), 198, sl) = some R := hh
  obtain ⟨n, hh⟩ := rn_cp (f := Ar h (t + 5)) (g := Ar h (s + 5)) w4.wt rfl rfl rfl (by omega) t5 (by decide) ((Ar_n (by omega)).trans ((Ar_n (by omega)).trans ((Ar_n (by omega)).trans (Ar_n (by omega))))) (by omega) s5 (by decide) ((Ar_n (by omega)).trans ((Ar_n (by omega)).trans ((Ar_n (by omega)).trans (Ar_n (by omega))))) hh
  obtain ⟨n, hh⟩ := rn_i rfl rfl rfl rfl hh
  obtain ⟨n, hh⟩ := rn_i rfl rfl rfl rfl hh
  have hh : pm_run PT n fr lo 73 (77, [some (.ref s), some (.ref t)], [.ref t, .ref s], cpA h s t 8 5 (cpA h s t 8 4 (cpA h s t 36 3 (cpA h s t 36 2 (cpA h s t 6 1 h)))), 198, sl) = some R := hh
  obtain ⟨n, hh⟩ := rn_gi (x := Fi h t 5) w5.wt rfl rfl (by omega) ot (by decide) rfl ((Fi_a (by omega)).trans ((Fi_a (by omega)).trans ((Fi_a (by omega)).trans ((Fi_a (by omega)).trans (Fi_a (by omega)))))) hh
  have hh : pm_run PT n fr lo 73 (80, [some (.ref s), some (.ref t)], [.int (Fi h t 5), .ref s], cpA h s t 8 5 (cpA h s t 8 4 (cpA h s t 36 3 (cpA h s t 36 2 (cpA h s t 6 1 h)))), 198, sl) = some R := hh
  obtain ⟨n, hh⟩ := rn_pi w5.wt rfl rfl (by omega) os (by decide) rfl hh
  obtain ⟨n, hh⟩ := rn_i rfl rfl rfl rfl hh
  obtain ⟨n, hh⟩ := rn_i rfl rfl rfl rfl hh
  have hh : pm_run PT n fr lo 73 (85, [some (.ref s), some (.ref t)], [.ref t, .ref s], fset (cpA h s t 8 5 (cpA h s t 8 4 (cpA h s t 36 3 (cpA h s t 36 2 (cpA h s t 6 1 h))))) s 5 (.int (Fi h t 5)), 198, sl) = some R := hh
  obtain ⟨n, hh⟩ := rn_gi (x := Fi h t 6) w6.wt rfl rfl (by omega) ot (by decide) rfl ((Fi_n (Or.inl (by omega))).trans ((Fi_a (by omega)).trans ((Fi_a (by omega)).trans ((Fi_a (by omega)).trans ((Fi_a (by omega)).trans (Fi_a (by omega))))))) hh
  have hh : pm_run PT n fr lo 73 (88, [some (.ref s), some (.ref t)], [.int (Fi h t 6), .ref s], fset (cpA h s t 8 5 (cpA h s t 8 4 (cpA h s t 36 3 (cpA h s t 36 2 (cpA h s t 6 1 h))))) s 5 (.int (Fi h t 5)), 198, sl) = some R := hh
  obtain ⟨n, hh⟩ := rn_pi w6.wt rfl rfl (by omega) os (by decide) rfl hh
  exact rn_vret rfl rfl hh
theorem cpA_ne {m i a : Nat} (z : a ≠ s + i) : cpA h s t m i g a = g a := asR_ne z
/-- nothing else -/
theorem cp73_ne {i : Nat} (z : i < s ∨ s + 6 ≤ i) : cp73 h s t i = h i := by
  unfold cp73
  rw [fs_ne (by omega), fs_ne (by omega), cpA_ne (by omega), cpA_ne (by omega), cpA_ne (by omega), cpA_ne (by omega), cpA_ne (by omega)]
theorem va_cpy0 {f g : Nat → Int32} {m k : Nat} (hk : k < m) : va_cpy f g 0 0 m k = f k := by
  unfold va_cpy
  rw [if_pos ⟨Nat.zero_le _, by omega⟩, Nat.zero_add, Nat.sub_zero]
theorem cp73_a {i m k : Nat} (hm : (i = 1 ∧ m = 6) ∨ (i = 2 ∧ m = 36) ∨ (i = 3 ∧ m = 36) ∨ (i = 4 ∧ m = 8) ∨ (i = 5 ∧ m = 8)) (hk : k < m) : Ar (cp73 h s t) (s + i) k = Ar h (t + i) k := by
  unfold cp73 cpA
  rw [Ar_f, Ar_f]
  rcases hm with ⟨rfl, rfl⟩ | ⟨rfl, rfl⟩ | ⟨rfl, rfl⟩ | ⟨rfl, rfl⟩ | ⟨rfl, rfl⟩
  · rw [Ar_n (by omega), Ar_n (by omega), Ar_n (by omega), Ar_n (by omega), Ar_s, va_cpy0 hk]
  · rw [Ar_n (by omega), Ar_n (by omega), Ar_n (by omega), Ar_s, va_cpy0 hk]
  · rw [Ar_n (by omega), Ar_n (by omega), Ar_s, va_cpy0 hk]
  · rw [Ar_n (by omega), Ar_s, va_cpy0 hk]
  · rw [Ar_s, va_cpy0 hk]
theorem cp73_f (hs : isSt s = true) (hw : WT h) : Fi (cp73 h s t) s 5 = Fi h t 5 ∧ Fi (cp73 h s t) s 6 = Fi h t 6 := by
  obtain ⟨⟨bs, ls⟩, os, ⟨s1, s2, s3, s4, s5⟩, -, -, -⟩ := xst_of hs
  have w5 : WT (cpA h s t 8 5 (cpA h s t 8 4 (cpA h s t 36 3 (cpA h s t 36 2 (cpA h s t 6 1 h))))) := wt_as s5 (wt_as s4 (wt_as s3 (wt_as s2 (wt_as s1 hw))))
  refine ⟨(Fi_n (Or.inr (by decide))).trans (Fi_s w5 (by omega) os (by decide) rfl), Fi_s (wt_fs os (by decide) rfl w5) (by omega) os (by decide) rfl⟩
theorem xst_27 {i : Nat} (hi : i < 16) : isSt (27 + 6 * i) = true := by
  have e : ∀ i, i < 16 → isSt (27 + 6 * i) = true := by decide
  exact e i hi
theorem xst_124 {i : Nat} (hi : i < 3) : isSt (124 + 6 * i) = true := by
  have e : ∀ i, i < 3 → isSt (124 + 6 * i) = true := by decide
  exact e i hi
theorem stF (hs : isSt s = true) {c j : Nat} (hw : WT h) (z : c ≠ s ∨ (j ≠ 5 ∧ j ≠ 6)) (ho : isO c = true) : Fi (cp73 h s t) c j = Fi h c j := by
  obtain ⟨⟨bs, ls⟩, os, ⟨s1, s2, s3, s4, s5⟩, -, -, -⟩ := xst_of hs
  have ne : ∀ i m : Nat, wd (bB (s + i)) = .inl (0, m, ai_top) → c ≠ s + i := by
    intro i m e
    rintro rfl
    unfold isO at ho
    cases e2 : bB (s + i) with
    | inl y => rw [e2] at ho; cases ho
    | inr y =>
      rw [e2] at ho
      unfold wd at e
      rw [e2] at e
      have hl : y.1 < 1000 := Nat.le_of_ble_eq_true ho
      dsimp only at e
      rw [show Nat.ble 1000 y.1 = false by
        cases w : Nat.ble 1000 y.1 with
        | false => rfl
        | true => exact absurd (Nat.le_of_ble_eq_true w) (by omega)] at e
      cases e
  unfold cp73 cpA
  rw [Fi_n (z.elim Or.inl (fun y => Or.inr y.2)), Fi_n (z.elim Or.inl (fun y => Or.inr y.1)), Fi_a (ne 5 8 s5), Fi_a (ne 4 8 s4), Fi_a (ne 3 36 s3), Fi_a (ne 2 36 s2), Fi_a (ne 1 6 s1)]
theorem fr_c27 {W : List Nat} {V : List (Nat × Nat)} {i : Nat} (hi : i < 16) (hw : WT g) (e : (List.range 96).all (fun j => W.elem (27 + j)) = true) (e2 : (List.range 16).all (fun j => V.elem (27 + 6 * j, 5) && V.elem (27 + 6 * j, 6)) = true) (z : frm W V h g) : frm W V h (cp73 g (27 + 6 * i) t) := by
  refine ⟨fun j hj => (cp73_ne ?_).trans (z.1 j hj), fun c j hc hv => (stF (xst_27 hi) hw ?_ hc).trans (z.2 c j hc hv)⟩
  · by_cases y : j < 27 ∨ 123 ≤ j
    · omega
    · have q := List.all_eq_true.mp e (j - 27) (List.mem_range.mpr (by omega))
      rw [show 27 + (j - 27) = j by omega, hj] at q
      cases q
  · by_cases y : c = 27 + 6 * i
    · refine Or.inr ?_
      have q := List.all_eq_true.mp e2 i (List.mem_range.mpr hi)
      rw [Bool.and_eq_true] at q
      constructor
      · rintro rfl
        rw [y, q.1] at hv
        cases hv
      · rintro rfl
        rw [y, q.2] at hv
        cases hv
    · exact Or.inl y
theorem fr_c124 {W : List Nat} {V : List (Nat × Nat)} {i : Nat} (hi : i < 3) (hw : WT g) (e : (List.range 18).all (fun j => W.elem (124 + j)) = true) (e2 : (List.range 3).all (fun j => V.elem (124 + 6 * j, 5) && V.elem (124 + 6 * j, 6)) = true) (z : frm W V h g) : frm W V h (cp73 g (124 + 6 * i) t) := by
  refine ⟨fun j hj => (cp73_ne ?_).trans (z.1 j hj), fun c j hc hv => (stF (xst_124 hi) hw ?_ hc).trans (z.2 c j hc hv)⟩
  · by_cases y : j < 124 ∨ 142 ≤ j
    · omega
    · have q := List.all_eq_true.mp e (j - 124) (List.mem_range.mpr (by omega))
      rw [show 124 + (j - 124) = j by omega, hj] at q
      cases q
  · by_cases y : c = 124 + 6 * i
    · refine Or.inr ?_
      have q := List.all_eq_true.mp e2 i (List.mem_range.mpr hi)
      rw [Bool.and_eq_true] at q
      constructor
      · rintro rfl
        rw [y, q.1] at hv
        cases hv
      · rintro rfl
        rw [y, q.2] at hv
        cases hv
    · exact Or.inl y
theorem fr_cs {W : List Nat} {V : List (Nat × Nat)} (hs : isSt s = true) (hw : WT g) (e : (List.range 6).all (fun j => W.elem (s + j)) = true) (e2 : (V.elem (s, 5) && V.elem (s, 6)) = true) (z : frm W V h g) : frm W V h (cp73 g s t) := by
  refine ⟨fun j hj => (cp73_ne ?_).trans (z.1 j hj), fun c j hc hv => (stF hs hw ?_ hc).trans (z.2 c j hc hv)⟩
  · by_cases y : j < s ∨ s + 6 ≤ j
    · omega
    · have q := List.all_eq_true.mp e (j - s) (List.mem_range.mpr (by omega))
      rw [show s + (j - s) = j by omega, hj] at q
      cases q
  · by_cases y : c = s
    · refine Or.inr ?_
      rw [Bool.and_eq_true] at e2
      constructor
      · rintro rfl
        rw [y, e2.1] at hv
        cases hv
      · rintro rfl
        rw [y, e2.2] at hv
        cases hv
    · exact Or.inl y
end CPY
end MG95zzxdx1
