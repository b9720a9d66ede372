/-! runs told exactly, written by ext.py -/
section EE3
def v257_4b (q : QT) (cc gc : Nat) (h : pm_H) (i : Nat) (x1 : Int32) : Int32 × pm_H := (x1 + ((v201 q cc gc h i (((Ar h 170) (78 + i)).toNatClampNeg)).1), (v201 q cc gc h i (((Ar h 170) (78 + i)).toNatClampNeg)).2)
def v257_4 (q : QT) (cc gc : Nat) (j i : Nat) (a : Int32 × pm_H) : Int32 × pm_H := lp (fun i a => v257_4b q cc gc a.2 i a.1) j i a
theorem v257_4_e {n fr lo sl cc gc : Nat} {q : QT} {h : pm_H} {R : pm_Rs} {i : Nat} {x1 : Int32} (hw : HC q cc gc h) (hol : NA h 170 78 86 6) (hi : gc ≤ i) (hI : i < 1000000) (hh : pm_run PT n fr lo 257 (4, [some (.ref 162), some (.int x1), some (.int (nI i))], [], h, 198, sl) = some R) : ∃ m, pm_run PT m fr lo 257 (39, [some (.ref 162), some (.int x1), some (.int (nI i))], [], h, 198, sl) = some R := by
  have hcc := hw.cb
  have hgc := hw.gb
  have hzr := hw.zr
  obtain ⟨n, hh⟩ := rn_i rfl rfl rfl rfl hh
  obtain ⟨n, hh⟩ := rn_i rfl rfl rfl rfl hh
  have hh : pm_run PT n fr lo 257 (6, [some (.ref 162), some (.int x1), some (.int (nI i))], [.ref 162, .int (nI i)], h, 198, sl) = some R := hh
  obtain ⟨n, hh⟩ := rn_gi (x := nI gc) hw.wt rfl rfl (by decide) rfl (by decide) rfl hw.m4 hh
  have hh : pm_run PT n fr lo 257 (9, [some (.ref 162), some (.int x1), some (.int (nI i))], [.int (nI gc), .int (nI i)], h, 198, sl) = some R := hh
  obtain ⟨n, hh⟩ := en_cn (cc := .ge) (off := 30) (t := 39) (b := decide (gc ≤ i)) (hI_ge (by omega) (by omega)) rfl rfl hh
  have hh := en_t (show decide (gc ≤ i) = true from decide_eq_true (by omega)) hh
  have hh : pm_run PT n fr lo 257 (39, [some (.ref 162), some (.int x1), some (.int (nI i))], [], h, 198, sl) = some R := hh
  exact ⟨n, hh⟩
theorem v257_4_s {n fr lo sl cc gc : Nat} {q : QT} {h : pm_H} {R : pm_Rs} {i : Nat} {x1 : Int32} (hw : HC q cc gc h) (hol : NA h 170 78 86 6) (hi : i < gc) (hI : i < 1000000) (hh : pm_run PT n fr lo 257 (4, [some (.ref 162), some (.int x1), some (.int (nI i))], [], h, 198, sl) = some R) : ∃ m, HC q cc gc ((v257_4b q cc gc h i x1).2) ∧ frm [176, 177] [] h ((v257_4b q cc gc h i x1).2) ∧ NA ((v257_4b q cc gc h i x1).2) 170 78 86 6 ∧ pm_run PT m fr lo 257 (4, [some (.ref 162), some (.int ((v257_4b q cc gc h i x1).1)), some (.int (nI (i + 1)))], [], (v257_4b q cc gc h i x1).2, 198, sl) = some R := by
  have hcc := hw.cb
  have hgc := hw.gb
  have hzr := hw.zr
  obtain ⟨n, hh⟩ := rn_i rfl rfl rfl rfl hh
  obtain ⟨n, hh⟩ := rn_i rfl rfl rfl rfl hh
  have hh : pm_run PT n fr lo 257 (6, [some (.ref 162), some (.int x1), some (.int (nI i))], [.ref 162, .int (nI i)], h, 198, sl) = some R := hh
  obtain ⟨n, hh⟩ := rn_gi (x := nI gc) hw.wt rfl rfl (by decide) rfl (by decide) rfl hw.m4 hh
  have hh : pm_run PT n fr lo 257 (9, [some (.ref 162), some (.int x1), some (.int (nI i))], [.int (nI gc), .int (nI i)], h, 198, sl) = some R := hh
  obtain ⟨n, hh⟩ := en_cn (cc := .ge) (off := 30) (t := 39) (b := decide (gc ≤ i)) (hI_ge (by omega) (by omega)) rfl rfl hh
  have hh := en_f (show decide (gc ≤ i) = false from decide_eq_false (by omega)) hh
  have hh : pm_run PT n fr lo 257 (12, [some (.ref 162), some (.int x1), some (.int (nI i))], [], h, 198, sl) = some R := hh
  obtain ⟨n, hh⟩ := rn_i rfl rfl rfl rfl hh
  obtain ⟨n, hh⟩ := rn_i rfl rfl rfl rfl hh
  obtain ⟨n, hh⟩ := rn_i rfl rfl rfl rfl hh
  have hh : pm_run PT n fr lo 257 (15, [some (.ref 162), some (.int x1), some (.int (nI i))], [.ref 162, .ref 162, .int x1], h, 198, sl) = some R := hh
  obtain ⟨n, hh⟩ := rn_gr hw.wt rfl rfl (by decide) rfl (by decide) (show _ = some (2, ((170 : Nat) : Int), 1) from rfl) rfl hh
  obtain ⟨n, hh⟩ := rn_i rfl rfl rfl rfl hh
  obtain ⟨n, hh⟩ := rn_i rfl rfl rfl rfl hh
  have hh : pm_run PT n fr lo 257 (20, [some (.ref 162), some (.int x1), some (.int (nI i))], [.ref 162, .int (nI i), .ref 170, .ref 162, .int x1], h, 198, sl) = some R := hh
  obtain ⟨n, hh⟩ := rn_gr hw.wt rfl rfl (by decide) rfl (by decide) (show _ = some (2, ((170 : Nat) : Int), 1) from rfl) rfl hh
  obtain ⟨n, hh⟩ := rn_i rfl rfl rfl rfl hh
  obtain ⟨n, hh⟩ := rn_i rfl rfl rfl rfl hh
  have hh : pm_run PT n fr lo 257 (26, [some (.ref 162), some (.int x1), some (.int (nI i))], [.int (nI i), .int (nI 78), .ref 170, .int (nI i), .ref 170, .ref 162, .int x1], h, 198, sl) = some R := hh
  obtain ⟨n, hh⟩ := en_add rfl hh
  have hh : pm_run PT n fr lo 257 (27, [some (.ref 162), some (.int x1), some (.int (nI i))], [.int (nI (78 + i)), .ref 170, .int (nI i), .ref 170, .ref 162, .int x1], h, 198, sl) = some R := hh
  have hh : pm_run PT n fr lo 257 (27, [some (.ref 162), some (.int x1), some (.int (nI i))], [.int (nI (78 + i)), .ref 170, .int (nI i), .ref 170, .ref 162, .int x1], h, 198, sl) = some R := hh
  obtain ⟨n, hx1, hh⟩ := en_lu (t := 78 + i) (f := Ar h 170) (w := nI (((Ar h 170) (78 + i)).toNatClampNeg)) (nI_clamp (by omega)) hw.wt rfl (by decide) rfl (by decide) rfl (fun z => (hol _ (by omega) (by omega)).1) hh
  have hb2 := (hol (78 + i) (by omega) (by omega)).2
  have hh : pm_run PT n fr lo 257 (28, [some (.ref 162), some (.int x1), some (.int (nI i))], [.int (nI (((Ar h 170) (78 + i)).toNatClampNeg)), .int (nI i), .ref 170, .ref 162, .int x1], h, 198, sl) = some R := hh
  obtain ⟨n, fr1, lo1, r1, hh1, hh⟩ := rn_call (w := 0) (t := 201) rfl rfl hh
  obtain ⟨er3, hc4, hf5⟩ := v201_ok (g := i) (c := (((Ar h 170) (78 + i)).toNatClampNeg)) hw (by omega) (by omega) hh1
  subst er3
  obtain ⟨n, hh⟩ := rn_i rfl rfl rfl rfl hh
  obtain ⟨n, hh⟩ := rn_i rfl rfl rfl rfl hh
  have hh : pm_run PT n fr lo 257 (33, [some (.ref 162), some (.int (x1 + ((v201 q cc gc h i (((Ar h 170) (78 + i)).toNatClampNeg)).1))), some (.int (nI i))], [], (v201 q cc gc h i (((Ar h 170) (78 + i)).toNatClampNeg)).2, 198, sl) = some R := hh
  obtain ⟨n, hh⟩ := en_inc (x := i) (c := 1) (j := 2) rfl rfl (by decide) hh
  have hh : pm_run PT n fr lo 257 (36, [some (.ref 162), some (.int (x1 + ((v201 q cc gc h i (((Ar h 170) (78 + i)).toNatClampNeg)).1))), some (.int (nI (i + 1)))], [], (v201 q cc gc h i (((Ar h 170) (78 + i)).toNatClampNeg)).2, 198, sl) = some R := hh
  obtain ⟨n, hh⟩ := rn_i rfl rfl rfl rfl hh
  have ed : v257_4b q cc gc h i x1 = (x1 + ((v201 q cc gc h i (((Ar h 170) (78 + i)).toNatClampNeg)).1), (v201 q cc gc h i (((Ar h 170) (78 + i)).toNatClampNeg)).2) := rfl
  rw [ed]
  exact ⟨n, hc4, (fr_g rfl rfl hf5 fr_0), (NA_e ((Ar_e (hf5.1 170 rfl)).trans rfl) hol), hh⟩
theorem v257_4_ok {fr lo sl cc gc : Nat} {q : QT} {R : pm_Rs} : ∀ {j i : Nat} {x1 : Int32} {h : pm_H} {n : Nat}, gc - i = j → i + j < 1000000 → HC q cc gc h → NA h 170 78 86 6 → pm_run PT n fr lo 257 (4, [some (.ref 162), some (.int x1), some (.int (nI i))], [], h, 198, sl) = some R → ∃ m wc, HC q cc gc ((v257_4 q cc gc j i (x1, h)).2) ∧ frm [176, 177] [] h ((v257_4 q cc gc j i (x1, h)).2) ∧ NA ((v257_4 q cc gc j i (x1, h)).2) 170 78 86 6 ∧ pm_run PT m fr lo 257 (39, [some (.ref 162), some (.int ((v257_4 q cc gc j i (x1, h)).1)), wc], [], (v257_4 q cc gc j i (x1, h)).2, 198, sl) = some R := by
  intro j
  induction j with
  | zero =>
    intro i x1 h n e eI hw hol hh
    obtain ⟨n, hh⟩ := v257_4_e hw hol (by omega) (by omega) hh
    exact ⟨n, _, hw, fr_0, hol, hh⟩
  | succ j ih =>
    intro i x1 h n e eI hw hol hh
    obtain ⟨n, hc, hf, hol', hh⟩ := v257_4_s hw hol (by omega) (by omega) hh
    obtain ⟨n, wc, hc2, hf2, hol'', hh⟩ := ih (by omega) (by omega) hc hol' hh
    exact ⟨n, wc, hc2, fr_t hf2 hf, hol'', hh⟩
def v257 (q : QT) (cc gc : Nat) (h : pm_H) : Int32 × pm_H := ((v257_4 q cc gc gc 0 ((nI 0), h)).1, (v257_4 q cc gc gc 0 ((nI 0), h)).2)
theorem v257_ok {n fr lo sl cc gc : Nat} {q : QT} {h : pm_H} {R : pm_Rs} (hw : HC q cc gc h) (hol : NA h 170 78 86 6) (hh : pm_run PT n fr lo 257 (0, pm_l0 [.ref 162] 3, [], h, 198, sl) = some R) : R = (some (.int ((v257 q cc gc h).1)), (v257 q cc gc h).2, 198, sl) ∧ HC q cc gc ((v257 q cc gc h).2) ∧ frm [176, 177] [] h ((v257 q cc gc h).2) := by
  have hcc := hw.cb
  have hgc := hw.gb
  have hzr := hw.zr
  obtain ⟨n, hh⟩ := rn_i rfl rfl rfl rfl hh
  obtain ⟨n, hh⟩ := rn_i rfl rfl rfl rfl hh
  obtain ⟨n, hh⟩ := rn_i rfl rfl rfl rfl hh
  obtain ⟨n, hh⟩ := rn_i rfl rfl rfl rfl hh
  have hh : pm_run PT n fr lo 257 (4, [some (.ref 162), some (.int (nI 0)), some (.int (nI 0))], [], h, 198, sl) = some R := hh
  obtain ⟨n, u1, hc3, hf4, hn2, hh⟩ := v257_4_ok  (i := 0) (x1 := (nI 0)) (j := gc) (by omega) (by omega) hw hol hh
  have hh : pm_run PT n fr lo 257 (39, [some (.ref 162), some (.int ((v257_4 q cc gc gc 0 ((nI 0), h)).1)), u1], [], (v257_4 q cc gc gc 0 ((nI 0), h)).2, 198, sl) = some R := hh
  obtain ⟨n, hh⟩ := rn_i rfl rfl rfl rfl hh
  have hh : pm_run PT n fr lo 257 (40, [some (.ref 162), some (.int ((v257_4 q cc gc gc 0 ((nI 0), h)).1)), u1], [.int ((v257_4 q cc gc gc 0 ((nI 0), h)).1)], (v257_4 q cc gc gc 0 ((nI 0), h)).2, 198, sl) = some R := hh
  have er5 : R = (some (.int ((v257_4 q cc gc gc 0 ((nI 0), h)).1)), (v257_4 q cc gc gc 0 ((nI 0), h)).2, 198, sl) := (rn_ret rfl (Or.inl rfl) hh).2
  have ed : v257 q cc gc h = ((v257_4 q cc gc gc 0 ((nI 0), h)).1, (v257_4 q cc gc gc 0 ((nI 0), h)).2) := rfl
  refine ⟨?_, ?_, ?_⟩ <;> rw [ed]
  · exact er5
  · exact hc3
  · exact (fr_g rfl rfl hf4 fr_0)
end EE3
