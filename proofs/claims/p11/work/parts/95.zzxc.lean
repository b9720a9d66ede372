/-! runs told exactly, written by ext.py -/
section EA
def v36_4b (q : QT) (cc gc : Nat) (d0 : Nat → Int32) (i : Nat) (x2 : Int32) : Int32 := x2 + ((d0) i)
def v36_4 (q : QT) (cc gc : Nat) (d0 : Nat → Int32) (j i : Nat) (a : Int32) : Int32 := lp (fun i a => v36_4b q cc gc d0 i a) j i a
theorem v36_4_e {n fr lo sl cc gc : Nat} {q : QT} {h : pm_H} {R : pm_Rs} {i : Nat} {x2 : Int32} (hw : HC q cc gc h) (hi : cc ≤ i) (hI : i < 1000000) (hh : pm_run PT n fr lo 36 (4, [some (.ref 5), some (.ref 13), some (.int x2), some (.int (nI i))], [], h, 198, sl) = some R) : ∃ m, pm_run PT m fr lo 36 (27, [some (.ref 5), some (.ref 13), some (.int x2), some (.int (nI i))], [], h, 198, sl) = some R := by
  have hcc := hw.cb
  have hgc := hw.gb
  have hzr := hw.zr
  obtain ⟨n, hh⟩ := rn_i rfl rfl rfl rfl hh
  obtain ⟨n, hh⟩ := rn_i rfl rfl rfl rfl hh
  have hh : pm_run PT n fr lo 36 (6, [some (.ref 5), some (.ref 13), some (.int x2), some (.int (nI i))], [.ref 5, .int (nI i)], h, 198, sl) = some R := hh
  obtain ⟨n, hh⟩ := rn_gi (x := nI cc) hw.wt rfl rfl (by decide) rfl (by decide) rfl hw.x0 hh
  have hh : pm_run PT n fr lo 36 (9, [some (.ref 5), some (.ref 13), some (.int x2), some (.int (nI i))], [.int (nI cc), .int (nI i)], h, 198, sl) = some R := hh
  obtain ⟨n, hh⟩ := en_cn (cc := .ge) (off := 18) (t := 27) (b := decide (cc ≤ i)) (hI_ge (by omega) (by omega)) rfl rfl hh
  have hh := en_t (show decide (cc ≤ i) = true from decide_eq_true (by omega)) hh
  have hh : pm_run PT n fr lo 36 (27, [some (.ref 5), some (.ref 13), some (.int x2), some (.int (nI i))], [], h, 198, sl) = some R := hh
  exact ⟨n, hh⟩
theorem v36_4_s {n fr lo sl cc gc : Nat} {q : QT} {h : pm_H} {R : pm_Rs} {i : Nat} {x2 : Int32} (hw : HC q cc gc h) (hi : i < cc) (hI : i < 1000000) (hh : pm_run PT n fr lo 36 (4, [some (.ref 5), some (.ref 13), some (.int x2), some (.int (nI i))], [], h, 198, sl) = some R) : ∃ m, pm_run PT m fr lo 36 (4, [some (.ref 5), some (.ref 13), some (.int (v36_4b q cc gc (Ar h 14) i x2)), some (.int (nI (i + 1)))], [], h, 198, sl) = some R := by
  have hcc := hw.cb
  have hgc := hw.gb
  have hzr := hw.zr
  obtain ⟨n, hh⟩ := rn_i rfl rfl rfl rfl hh
  obtain ⟨n, hh⟩ := rn_i rfl rfl rfl rfl hh
  have hh : pm_run PT n fr lo 36 (6, [some (.ref 5), some (.ref 13), some (.int x2), some (.int (nI i))], [.ref 5, .int (nI i)], h, 198, sl) = some R := hh
  obtain ⟨n, hh⟩ := rn_gi (x := nI cc) hw.wt rfl rfl (by decide) rfl (by decide) rfl hw.x0 hh
  have hh : pm_run PT n fr lo 36 (9, [some (.ref 5), some (.ref 13), some (.int x2), some (.int (nI i))], [.int (nI cc), .int (nI i)], h, 198, sl) = some R := hh
  obtain ⟨n, hh⟩ := en_cn (cc := .ge) (off := 18) (t := 27) (b := decide (cc ≤ i)) (hI_ge (by omega) (by omega)) rfl rfl hh
  have hh := en_f (show decide (cc ≤ i) = false from decide_eq_false (by omega)) hh
  have hh : pm_run PT n fr lo 36 (12, [some (.ref 5), some (.ref 13), some (.int x2), some (.int (nI i))], [], h, 198, sl) = some R := hh
  obtain ⟨n, hh⟩ := rn_i rfl rfl rfl rfl hh
  obtain ⟨n, hh⟩ := rn_i rfl rfl rfl rfl hh
  have hh : pm_run PT n fr lo 36 (14, [some (.ref 5), some (.ref 13), some (.int x2), some (.int (nI i))], [.ref 13, .int x2], h, 198, sl) = some R := hh
  obtain ⟨n, hh⟩ := rn_gr hw.wt rfl rfl (by decide) rfl (by decide) (show _ = some (2, ((14 : Nat) : Int), 1) from rfl) rfl hh
  obtain ⟨n, hh⟩ := rn_i rfl rfl rfl rfl hh
  have hh : pm_run PT n fr lo 36 (18, [some (.ref 5), some (.ref 13), some (.int x2), some (.int (nI i))], [.int (nI i), .ref 14, .int x2], h, 198, sl) = some R := hh
  obtain ⟨n, hx1, hh⟩ := en_lu (t := i) (f := Ar h 14) (w := (Ar h 14) i) (nI_clamp (by omega)) hw.wt rfl (by decide) rfl (by decide) rfl (fun _ => rfl) hh
  obtain ⟨n, hh⟩ := rn_i rfl rfl rfl rfl hh
  obtain ⟨n, hh⟩ := rn_i rfl rfl rfl rfl hh
  have hh : pm_run PT n fr lo 36 (21, [some (.ref 5), some (.ref 13), some (.int (x2 + ((Ar h 14) i))), some (.int (nI i))], [], h, 198, sl) = some R := hh
  obtain ⟨n, hh⟩ := en_inc (x := i) (c := 1) (j := 3) rfl rfl (by decide) hh
  have hh : pm_run PT n fr lo 36 (24, [some (.ref 5), some (.ref 13), some (.int (x2 + ((Ar h 14) i))), some (.int (nI (i + 1)))], [], h, 198, sl) = some R := hh
  obtain ⟨n, hh⟩ := rn_i rfl rfl rfl rfl hh
  have ed : v36_4b q cc gc (Ar h 14) i x2 = x2 + ((Ar h 14) i) := rfl
  rw [ed]
  exact ⟨n, hh⟩
theorem v36_4_ok {fr lo sl cc gc : Nat} {q : QT} {R : pm_Rs} : ∀ {j i : Nat} {x2 : Int32} {h : pm_H} {n : Nat}, cc - i = j → i + j < 1000000 → HC q cc gc h → pm_run PT n fr lo 36 (4, [some (.ref 5), some (.ref 13), some (.int x2), some (.int (nI i))], [], h, 198, sl) = some R → ∃ m wc, pm_run PT m fr lo 36 (27, [some (.ref 5), some (.ref 13), some (.int (v36_4 q cc gc (Ar h 14) j i x2)), wc], [], h, 198, sl) = some R := by
  intro j
  induction j with
  | zero =>
    intro i x2 h n e eI hw hh
    obtain ⟨n, hh⟩ := v36_4_e hw (by omega) (by omega) hh
    exact ⟨n, _, hh⟩
  | succ j ih =>
    intro i x2 h n e eI hw hh
    obtain ⟨n, hh⟩ := v36_4_s hw (by omega) (by omega) hh
    obtain ⟨n, wc, hh⟩ := ih (by omega) (by omega) hw hh
    exact ⟨n, wc, hh⟩
def v36 (q : QT) (cc gc : Nat) (d0 : Nat → Int32) : Int32 := (v36_4 q cc gc (d0) cc 0 (nI 0))
theorem v36_ok {n fr lo sl cc gc : Nat} {q : QT} {h : pm_H} {R : pm_Rs} (hw : HC q cc gc h) (hh : pm_run PT n fr lo 36 (0, pm_l0 [.ref 5, .ref 13] 4, [], h, 198, sl) = some R) : R = (some (.int (v36 q cc gc (Ar h 14))), h, 198, sl) := by
  have hcc := hw.cb
  have hgc := hw.gb
  have hzr := hw.zr
  obtain ⟨n, hh⟩ := rn_i rfl rfl rfl rfl hh
  obtain ⟨n, hh⟩ := rn_i rfl rfl rfl rfl hh
  obtain ⟨n, hh⟩ := rn_i rfl rfl rfl rfl hh
  obtain ⟨n, hh⟩ := rn_i rfl rfl rfl rfl hh
  have hh : pm_run PT n fr lo 36 (4, [some (.ref 5), some (.ref 13), some (.int (nI 0)), some (.int (nI 0))], [], h, 198, sl) = some R := hh
  obtain ⟨n, u1, hh⟩ := v36_4_ok  (i := 0) (x2 := (nI 0)) (j := cc) (by omega) (by omega) hw hh
  have hh : pm_run PT n fr lo 36 (27, [some (.ref 5), some (.ref 13), some (.int (v36_4 q cc gc (Ar h 14) cc 0 (nI 0))), u1], [], h, 198, sl) = some R := hh
  obtain ⟨n, hh⟩ := rn_i rfl rfl rfl rfl hh
  have hh : pm_run PT n fr lo 36 (28, [some (.ref 5), some (.ref 13), some (.int (v36_4 q cc gc (Ar h 14) cc 0 (nI 0))), u1], [.int (v36_4 q cc gc (Ar h 14) cc 0 (nI 0))], h, 198, sl) = some R := hh
  have er2 : R = (some (.int (v36_4 q cc gc (Ar h 14) cc 0 (nI 0))), h, 198, sl) := (rn_ret rfl (Or.inl rfl) hh).2
  have ed : v36 q cc gc (Ar h 14) = (v36_4 q cc gc (Ar h 14) cc 0 (nI 0)) := rfl
  rw [ed]
  exact er2
def v157t (q : QT) (cc gc : Nat) (k : Int32) (e : Int32) : Int32 := cond (pm_cmp .eq k (nI 0)) ((e).toInt8.toInt32) (cond (pm_cmp .eq k (nI 1)) ((e).toInt16.toInt32) e)
theorem v157t_ok {n fr lo sl cc gc : Nat} {q : QT} {h : pm_H} {R : pm_Rs} {k : Int32} {e : Int32} (hw : HC q cc gc h) (hh : pm_run PT n fr lo 157 (0, pm_l0 [.int k, .int e] 2, [], h, 198, sl) = some R) : R = (some (.int (v157t q cc gc k e)), h, 198, sl) := by
  have hcc := hw.cb
  have hgc := hw.gb
  have hzr := hw.zr
  obtain ⟨n, hh⟩ := rn_i rfl rfl rfl rfl hh
  have hh : pm_run PT n fr lo 157 (1, [some (.int k), some (.int e)], [.int k], h, 198, sl) = some R := hh
  cases z1 : pm_cmp .eq k (nI 0) with
  | true =>
    obtain ⟨n, hh⟩ := en_lsc (c := 0) (t := 28) (off := 27) rfl (by decide) (en_xc (c := 0) (by decide) z1) (by decide) rfl hh
    have hh : pm_run PT n fr lo 157 (28, [some (.int k), some (.int e)], [], h, 198, sl) = some R := hh
    obtain ⟨n, hh⟩ := rn_i rfl rfl rfl rfl hh
    obtain ⟨n, hh⟩ := rn_i rfl rfl rfl rfl hh
    have hh : pm_run PT n fr lo 157 (30, [some (.int k), some (.int e)], [.int ((e).toInt8.toInt32)], h, 198, sl) = some R := hh
    have er2 : R = (some (.int ((e).toInt8.toInt32)), h, 198, sl) := (rn_ret rfl (Or.inl rfl) hh).2
    have ed : v157t q cc gc k e = (e).toInt8.toInt32 := (ct z1).trans rfl
    rw [ed]
    exact er2
  | false =>
    cases z3 : pm_cmp .eq k (nI 1) with
    | true =>
      obtain ⟨n, hh⟩ := en_lsc (c := 1) (t := 31) (off := 30) rfl (by decide) (en_xc (c := 1) (by decide) z3) (by decide) rfl hh
      have hh : pm_run PT n fr lo 157 (31, [some (.int k), some (.int e)], [], h, 198, sl) = some R := hh
      obtain ⟨n, hh⟩ := rn_i rfl rfl rfl rfl hh
      obtain ⟨n, hh⟩ := rn_i rfl rfl rfl rfl hh
      have hh : pm_run PT n fr lo 157 (33, [some (.int k), some (.int e)], [.int ((e).toInt16.toInt32)], h, 198, sl) = some R := hh
      have er4 : R = (some (.int ((e).toInt16.toInt32)), h, 198, sl) := (rn_ret rfl (Or.inl rfl) hh).2
      have ed : v157t q cc gc k e = (e).toInt16.toInt32 := (cf z1).trans ((ct z3).trans rfl)
      rw [ed]
      exact er4
    | false =>
      obtain ⟨n, hh⟩ := en_lsd (t := 34) [0, 1] rfl (by decide) (by decide) (en_l1 (en_xn (c := 0) (by decide) z1) (en_l1 (en_xn (c := 1) (by decide) z3) en_l0)) rfl hh
      have hh : pm_run PT n fr lo 157 (34, [some (.int k), some (.int e)], [], h, 198, sl) = some R := hh
      obtain ⟨n, hh⟩ := rn_i rfl rfl rfl rfl hh
      have hh : pm_run PT n fr lo 157 (35, [some (.int k), some (.int e)], [.int e], h, 198, sl) = some R := hh
      have er5 : R = (some (.int e), h, 198, sl) := (rn_ret rfl (Or.inl rfl) hh).2
      have ed : v157t q cc gc k e = e := (cf z1).trans ((cf z3).trans rfl)
      rw [ed]
      exact er5
def v95_44b (q : QT) (cc gc : Nat) (h : pm_H) (t1 : Int32) (t2 : Int32) (t3 : Int32) (t4 : Int32) (b5 : Bool) (i : Nat) : pm_H := aset h 14 6 (upd (Ar h 14) i (cond (cond b5 false (cond (pm_cmp .ge (nI i) t2) false true)) (imax (nI 0) (imin (nI 999) (v157t q cc gc t1 (t3 + ((nI i) * t4))))) (nI 0)))
def v95_44 (q : QT) (cc gc : Nat) (t1 : Int32) (t2 : Int32) (t3 : Int32) (t4 : Int32) (b5 : Bool) (j i : Nat) (a : pm_H) : pm_H := lp (fun i a => v95_44b q cc gc a t1 t2 t3 t4 b5 i) j i a
theorem v95_44_e {n fr lo sl cc gc : Nat} {q : QT} {h : pm_H} {R : pm_Rs} {t1 : Int32} {t2 : Int32} {t3 : Int32} {t4 : Int32} {b5 : Bool} {i : Nat} {o7 : Option Value} (hw : HC q cc gc h) (hi : cc ≤ i) (hI : i < 1000000) (hh : pm_run PT n fr lo 95 (44, [some (.ref 0), some (.int t1), some (.int t2), some (.int t3), some (.int t4), some (.int (cond b5 1 0)), some (.int (nI i)), o7], [], h, 198, sl) = some R) : ∃ m, pm_run PT m fr lo 95 (116, [some (.ref 0), some (.int t1), some (.int t2), some (.int t3), some (.int t4), some (.int (cond b5 1 0)), some (.int (nI i)), o7], [], h, 198, sl) = some R := by
  have hcc := hw.cb
  have hgc := hw.gb
  have hzr := hw.zr
  obtain ⟨n, hh⟩ := rn_i rfl rfl rfl rfl hh
  obtain ⟨n, hh⟩ := rn_i rfl rfl rfl rfl hh
  have hh : pm_run PT n fr lo 95 (47, [some (.ref 0), some (.int t1), some (.int t2), some (.int t3), some (.int t4), some (.int (cond b5 1 0)), some (.int (nI i)), o7], [.ref 0, .int (nI i)], h, 198, sl) = some R := hh
  obtain ⟨n, hh⟩ := rn_gr hw.wt rfl rfl (by decide) rfl (by decide) (show _ = some (2, ((5 : Nat) : Int), 1) from rfl) rfl hh
  have hh : pm_run PT n fr lo 95 (50, [some (.ref 0), some (.int t1), some (.int t2), some (.int t3), some (.int t4), some (.int (cond b5 1 0)), some (.int (nI i)), o7], [.ref 5, .int (nI i)], h, 198, sl) = some R := hh
  obtain ⟨n, hh⟩ := rn_gi (x := nI cc) hw.wt rfl rfl (by decide) rfl (by decide) rfl hw.x0 hh
  have hh : pm_run PT n fr lo 95 (53, [some (.ref 0), some (.int t1), some (.int t2), some (.int t3), some (.int t4), some (.int (cond b5 1 0)), some (.int (nI i)), o7], [.int (nI cc), .int (nI i)], h, 198, sl) = some R := hh
  obtain ⟨n, hh⟩ := en_cn (cc := .ge) (off := 63) (t := 116) (b := decide (cc ≤ i)) (hI_ge (by omega) (by omega)) rfl rfl hh
  have hh := en_t (show decide (cc ≤ i) = true from decide_eq_true (by omega)) hh
  have hh : pm_run PT n fr lo 95 (116, [some (.ref 0), some (.int t1), some (.int t2), some (.int t3), some (.int t4), some (.int (cond b5 1 0)), some (.int (nI i)), o7], [], h, 198, sl) = some R := hh
  exact ⟨n, hh⟩
theorem v95_44_s {n fr lo sl cc gc : Nat} {q : QT} {h : pm_H} {R : pm_Rs} {t1 : Int32} {t2 : Int32} {t3 : Int32} {t4 : Int32} {b5 : Bool} {i : Nat} {o7 : Option Value} (hw : HC q cc gc h) (hi : i < cc) (hI : i < 1000000) (hh : pm_run PT n fr lo 95 (44, [some (.ref 0), some (.int t1), some (.int t2), some (.int t3), some (.int t4), some (.int (cond b5 1 0)), some (.int (nI i)), o7], [], h, 198, sl) = some R) : ∃ m w7, HC q cc gc ((v95_44b q cc gc h t1 t2 t3 t4 b5 i)) ∧ frm [14] [] h ((v95_44b q cc gc h t1 t2 t3 t4 b5 i)) ∧ pm_run PT m fr lo 95 (44, [some (.ref 0), some (.int t1), some (.int t2), some (.int t3), some (.int t4), some (.int (cond b5 1 0)), some (.int (nI (i + 1))), w7], [], (v95_44b q cc gc h t1 t2 t3 t4 b5 i), 198, sl) = some R := by
  have hcc := hw.cb
  have hgc := hw.gb
  have hzr := hw.zr
  obtain ⟨n, hh⟩ := rn_i rfl rfl rfl rfl hh
  obtain ⟨n, hh⟩ := rn_i rfl rfl rfl rfl hh
  have hh : pm_run PT n fr lo 95 (47, [some (.ref 0), some (.int t1), some (.int t2), some (.int t3), some (.int t4), some (.int (cond b5 1 0)), some (.int (nI i)), o7], [.ref 0, .int (nI i)], h, 198, sl) = some R := hh
  obtain ⟨n, hh⟩ := rn_gr hw.wt rfl rfl (by decide) rfl (by decide) (show _ = some (2, ((5 : Nat) : Int), 1) from rfl) rfl hh
  have hh : pm_run PT n fr lo 95 (50, [some (.ref 0), some (.int t1), some (.int t2), some (.int t3), some (.int t4), some (.int (cond b5 1 0)), some (.int (nI i)), o7], [.ref 5, .int (nI i)], h, 198, sl) = some R := hh
  obtain ⟨n, hh⟩ := rn_gi (x := nI cc) hw.wt rfl rfl (by decide) rfl (by decide) rfl hw.x0 hh
  have hh : pm_run PT n fr lo 95 (53, [some (.ref 0), some (.int t1), some (.int t2), some (.int t3), some (.int t4), some (.int (cond b5 1 0)), some (.int (nI i)), o7], [.int (nI cc), .int (nI i)], h, 198, sl) = some R := hh
  obtain ⟨n, hh⟩ := en_cn (cc := .ge) (off := 63) (t := 116) (b := decide (cc ≤ i)) (hI_ge (by omega) (by omega)) rfl rfl hh
  have hh := en_f (show decide (cc ≤ i) = false from decide_eq_false (by omega)) hh
  have hh : pm_run PT n fr lo 95 (56, [some (.ref 0), some (.int t1), some (.int t2), some (.int t3), some (.int t4), some (.int (cond b5 1 0)), some (.int (nI i)), o7], [], h, 198, sl) = some R := hh
  obtain ⟨n, hh⟩ := rn_i rfl rfl rfl rfl hh
  have hh : pm_run PT n fr lo 95 (58, [some (.ref 0), some (.int t1), some (.int t2), some (.int t3), some (.int t4), some (.int (cond b5 1 0)), some (.int (nI i)), o7], [.int (cond b5 1 0)], h, 198, sl) = some R := hh
  obtain ⟨n, hh⟩ := en_zn (cc := .ne) (off := 13) (t := 71) (b := b5) eb_ne rfl rfl hh
  have hj12 : ∃ mJ, pm_run PT mJ fr lo 95 (cond b5 (72, [some (.ref 0), some (.int t1), some (.int t2), some (.int t3), some (.int t4), some (.int (cond b5 1 0)), some (.int (nI i)), o7], [.int (nI 0)], h, 198, sl) (72, [some (.ref 0), some (.int t1), some (.int t2), some (.int t3), some (.int t4), some (.int (cond b5 1 0)), some (.int (nI i)), o7], [.int (cond (cond (pm_cmp .ge (nI i) t2) false true) 1 0)], h, 198, sl)) = some R := en_J (fun z9 => by
      have hh := en_t z9 hh
      have hh : pm_run PT n fr lo 95 (71, [some (.ref 0), some (.int t1), some (.int t2), some (.int t3), some (.int t4), some (.int (cond b5 1 0)), some (.int (nI i)), o7], [], h, 198, sl) = some R := hh
      obtain ⟨n, hh⟩ := rn_i rfl rfl rfl rfl hh
      exact ⟨n, hh⟩) (fun z9 => by
      have hh := en_f z9 hh
      have hh : pm_run PT n fr lo 95 (61, [some (.ref 0), some (.int t1), some (.int t2), some (.int t3), some (.int t4), some (.int (cond b5 1 0)), some (.int (nI i)), o7], [], h, 198, sl) = some R := hh
      obtain ⟨n, hh⟩ := rn_i rfl rfl rfl rfl hh
      obtain ⟨n, hh⟩ := rn_i rfl rfl rfl rfl hh
      have hh : pm_run PT n fr lo 95 (64, [some (.ref 0), some (.int t1), some (.int t2), some (.int t3), some (.int t4), some (.int (cond b5 1 0)), some (.int (nI i)), o7], [.int t2, .int (nI i)], h, 198, sl) = some R := hh
      obtain ⟨n, hh⟩ := en_cn (cc := .ge) (off := 7) (t := 71) (b := pm_cmp .ge (nI i) t2) rfl rfl rfl hh
      have hj11 : ∃ mJ, pm_run PT mJ fr lo 95 (cond (pm_cmp .ge (nI i) t2) (72, [some (.ref 0), some (.int t1), some (.int t2), some (.int t3), some (.int t4), some (.int (cond b5 1 0)), some (.int (nI i)), o7], [.int (nI 0)], h, 198, sl) (72, [some (.ref 0), some (.int t1), some (.int t2), some (.int t3), some (.int t4), some (.int (cond b5 1 0)), some (.int (nI i)), o7], [.int (nI 1)], h, 198, sl)) = some R := en_J (fun z10 => by
          have hh := en_t z10 hh
          have hh : pm_run PT n fr lo 95 (71, [some (.ref 0), some (.int t1), some (.int t2), some (.int t3), some (.int t4), some (.int (cond b5 1 0)), some (.int (nI i)), o7], [], h, 198, sl) = some R := hh
          obtain ⟨n, hh⟩ := rn_i rfl rfl rfl rfl hh
          exact ⟨n, hh⟩) (fun z10 => by
          have hh := en_f z10 hh
          have hh : pm_run PT n fr lo 95 (67, [some (.ref 0), some (.int t1), some (.int t2), some (.int t3), some (.int t4), some (.int (cond b5 1 0)), some (.int (nI i)), o7], [], h, 198, sl) = some R := hh
          obtain ⟨n, hh⟩ := rn_i rfl rfl rfl rfl hh
          obtain ⟨n, hh⟩ := rn_i rfl rfl rfl rfl hh
          exact ⟨n, hh⟩)
      obtain ⟨n, hh⟩ := hj11
      rw [show (cond (pm_cmp .ge (nI i) t2) (72, [some (.ref 0), some (.int t1), some (.int t2), some (.int t3), some (.int t4), some (.int (cond b5 1 0)), some (.int (nI i)), o7], [.int (nI 0)], h, 198, sl) (72, [some (.ref 0), some (.int t1), some (.int t2), some (.int t3), some (.int t4), some (.int (cond b5 1 0)), some (.int (nI i)), o7], [.int (nI 1)], h, 198, sl) : pm_St) = (72, [some (.ref 0), some (.int t1), some (.int t2), some (.int t3), some (.int t4), some (.int (cond b5 1 0)), some (.int (nI i)), o7], [.int (cond (cond (pm_cmp .ge (nI i) t2) false true) 1 0)], h, 198, sl) from by cases (pm_cmp .ge (nI i) t2) <;> rfl] at hh
      exact ⟨n, hh⟩)
  obtain ⟨n, hh⟩ := hj12
  rw [show (cond b5 (72, [some (.ref 0), some (.int t1), some (.int t2), some (.int t3), some (.int t4), some (.int (cond b5 1 0)), some (.int (nI i)), o7], [.int (nI 0)], h, 198, sl) (72, [some (.ref 0), some (.int t1), some (.int t2), some (.int t3), some (.int t4), some (.int (cond b5 1 0)), some (.int (nI i)), o7], [.int (cond (cond (pm_cmp .ge (nI i) t2) false true) 1 0)], h, 198, sl) : pm_St) = (72, [some (.ref 0), some (.int t1), some (.int t2), some (.int t3), some (.int t4), some (.int (cond b5 1 0)), some (.int (nI i)), o7], [.int (cond (cond b5 false (cond (pm_cmp .ge (nI i) t2) false true)) 1 0)], h, 198, sl) from by cases b5 <;> rfl] at hh
  obtain ⟨n, hh⟩ := rn_i rfl rfl rfl rfl hh
  obtain ⟨n, hh⟩ := rn_i rfl rfl rfl rfl hh
  have hh : pm_run PT n fr lo 95 (75, [some (.ref 0), some (.int t1), some (.int t2), some (.int t3), some (.int t4), some (.int (cond b5 1 0)), some (.int (nI i)), some (.int (cond (cond b5 false (cond (pm_cmp .ge (nI i) t2) false true)) 1 0))], [.ref 0], h, 198, sl) = some R := hh
  obtain ⟨n, hh⟩ := rn_gr hw.wt rfl rfl (by decide) rfl (by decide) (show _ = some (2, ((13 : Nat) : Int), 1) from rfl) rfl hh
  have hh : pm_run PT n fr lo 95 (78, [some (.ref 0), some (.int t1), some (.int t2), some (.int t3), some (.int t4), some (.int (cond b5 1 0)), some (.int (nI i)), some (.int (cond (cond b5 false (cond (pm_cmp .ge (nI i) t2) false true)) 1 0))], [.ref 13], h, 198, sl) = some R := hh
  obtain ⟨n, hh⟩ := rn_gr hw.wt rfl rfl (by decide) rfl (by decide) (show _ = some (2, ((14 : Nat) : Int), 1) from rfl) rfl hh
  obtain ⟨n, hh⟩ := rn_i rfl rfl rfl rfl hh
  obtain ⟨n, hh⟩ := rn_i rfl rfl rfl rfl hh
  have hh : pm_run PT n fr lo 95 (85, [some (.ref 0), some (.int t1), some (.int t2), some (.int t3), some (.int t4), some (.int (cond b5 1 0)), some (.int (nI i)), some (.int (cond (cond b5 false (cond (pm_cmp .ge (nI i) t2) false true)) 1 0))], [.int (cond (cond b5 false (cond (pm_cmp .ge (nI i) t2) false true)) 1 0), .int (nI i), .ref 14], h, 198, sl) = some R := hh
  obtain ⟨n, hh⟩ := en_zn (cc := .eq) (off := 23) (t := 108) (b := !(cond b5 false (cond (pm_cmp .ge (nI i) t2) false true))) eb_eq rfl rfl hh
  have hj16 : ∃ mJ, pm_run PT mJ fr lo 95 (cond (cond b5 false (cond (pm_cmp .ge (nI i) t2) false true)) (109, [some (.ref 0), some (.int t1), some (.int t2), some (.int t3), some (.int t4), some (.int (cond b5 1 0)), some (.int (nI i)), some (.int (cond (cond b5 false (cond (pm_cmp .ge (nI i) t2) false true)) 1 0))], [.int (imax (nI 0) (imin (nI 999) (v157t q cc gc t1 (t3 + ((nI i) * t4))))), .int (nI i), .ref 14], h, 198, sl) (109, [some (.ref 0), some (.int t1), some (.int t2), some (.int t3), some (.int t4), some (.int (cond b5 1 0)), some (.int (nI i)), some (.int (cond (cond b5 false (cond (pm_cmp .ge (nI i) t2) false true)) 1 0))], [.int (nI 0), .int (nI i), .ref 14], h, 198, sl)) = some R := en_J (fun z13 => by
      have hh := en_nt z13 hh
      have hh : pm_run PT n fr lo 95 (88, [some (.ref 0), some (.int t1), some (.int t2), some (.int t3), some (.int t4), some (.int (cond b5 1 0)), some (.int (nI i)), some (.int (cond (cond b5 false (cond (pm_cmp .ge (nI i) t2) false true)) 1 0))], [.int (nI i), .ref 14], h, 198, sl) = some R := hh
      obtain ⟨n, hh⟩ := rn_i rfl rfl rfl rfl hh
      obtain ⟨n, hh⟩ := rn_i rfl rfl rfl rfl hh
      obtain ⟨n, hh⟩ := rn_i rfl rfl rfl rfl hh
      obtain ⟨n, hh⟩ := rn_i rfl rfl rfl rfl hh
      obtain ⟨n, hh⟩ := rn_i rfl rfl rfl rfl hh
      obtain ⟨n, hh⟩ := rn_i rfl rfl rfl rfl hh
      have hh : pm_run PT n fr lo 95 (96, [some (.ref 0), some (.int t1), some (.int t2), some (.int t3), some (.int t4), some (.int (cond b5 1 0)), some (.int (nI i)), some (.int (cond (cond b5 false (cond (pm_cmp .ge (nI i) t2) false true)) 1 0))], [.int (t3 + ((nI i) * t4)), .int t1, .int (nI i), .ref 14], h, 198, sl) = some R := hh
      obtain ⟨n, fr1, lo1, r1, hh1, hh⟩ := rn_call (w := 2) (t := 157) rfl rfl hh
      have er14 := v157t_ok (k := t1) (e := (t3 + ((nI i) * t4))) hw hh1
      subst er14
      obtain ⟨n, hh⟩ := rn_i rfl rfl rfl rfl hh
      have hh : pm_run PT n fr lo 95 (102, [some (.ref 0), some (.int t1), some (.int t2), some (.int t3), some (.int t4), some (.int (cond b5 1 0)), some (.int (nI i)), some (.int (cond (cond b5 false (cond (pm_cmp .ge (nI i) t2) false true)) 1 0))], [.int (nI 999), .int (v157t q cc gc t1 (t3 + ((nI i) * t4))), .int (nI i), .ref 14], h, 198, sl) = some R := hh
      obtain ⟨n, fr1, lo1, r1, hh1, hh⟩ := rn_call (w := 2) (t := 159) rfl rfl hh
      have hh1 : pm_run PT n fr1 lo1 159 (0, [some (.int (v157t q cc gc t1 (t3 + ((nI i) * t4)))), some (.int (nI 999))], [], h, 198, sl) = some r1 := hh1
      obtain ⟨n1, hh1⟩ := rn_i rfl rfl rfl rfl hh1
      obtain ⟨n1, hh1⟩ := rn_i rfl rfl rfl rfl hh1
      obtain ⟨n1, hh1⟩ := rn_i rfl rfl rfl rfl hh1
      have hh1 : pm_run PT n1 fr1 lo1 159 (3, [some (.int (v157t q cc gc t1 (t3 + ((nI i) * t4)))), some (.int (nI 999))], [.int (v157t q cc gc t1 (t3 + ((nI i) * t4))), .int (nI 999), .int (nI 0)], h, 198, sl) = some r1 := hh1
      obtain ⟨n1, hh1⟩ := en_min rfl rfl rfl hh1
      have hh1 : pm_run PT n1 fr1 lo1 159 (6, [some (.int (v157t q cc gc t1 (t3 + ((nI i) * t4)))), some (.int (nI 999))], [.int (imin (nI 999) (v157t q cc gc t1 (t3 + ((nI i) * t4)))), .int (nI 0)], h, 198, sl) = some r1 := hh1
      obtain ⟨n1, hh1⟩ := en_max rfl rfl rfl hh1
      have hh1 : pm_run PT n1 fr1 lo1 159 (9, [some (.int (v157t q cc gc t1 (t3 + ((nI i) * t4)))), some (.int (nI 999))], [.int (imax (nI 0) (imin (nI 999) (v157t q cc gc t1 (t3 + ((nI i) * t4)))))], h, 198, sl) = some r1 := hh1
      have er15 : r1 = (some (.int (imax (nI 0) (imin (nI 999) (v157t q cc gc t1 (t3 + ((nI i) * t4)))))), h, 198, sl) := (rn_ret rfl (Or.inl rfl) hh1).2
      subst er15
      obtain ⟨n, hh⟩ := rn_i rfl rfl rfl rfl hh
      exact ⟨n, hh⟩) (fun z13 => by
      have hh := en_nf z13 hh
      have hh : pm_run PT n fr lo 95 (108, [some (.ref 0), some (.int t1), some (.int t2), some (.int t3), some (.int t4), some (.int (cond b5 1 0)), some (.int (nI i)), some (.int (cond (cond b5 false (cond (pm_cmp .ge (nI i) t2) false true)) 1 0))], [.int (nI i), .ref 14], h, 198, sl) = some R := hh
      obtain ⟨n, hh⟩ := rn_i rfl rfl rfl rfl hh
      exact ⟨n, hh⟩)
  obtain ⟨n, hh⟩ := hj16
  rw [show (cond (cond b5 false (cond (pm_cmp .ge (nI i) t2) false true)) (109, [some (.ref 0), some (.int t1), some (.int t2), some (.int t3), some (.int t4), some (.int (cond b5 1 0)), some (.int (nI i)), some (.int (cond (cond b5 false (cond (pm_cmp .ge (nI i) t2) false true)) 1 0))], [.int (imax (nI 0) (imin (nI 999) (v157t q cc gc t1 (t3 + ((nI i) * t4))))), .int (nI i), .ref 14], h, 198, sl) (109, [some (.ref 0), some (.int t1), some (.int t2), some (.int t3), some (.int t4), some (.int (cond b5 1 0)), some (.int (nI i)), some (.int (cond (cond b5 false (cond (pm_cmp .ge (nI i) t2) false true)) 1 0))], [.int (nI 0), .int (nI i), .ref 14], h, 198, sl) : pm_St) = (109, [some (.ref 0), some (.int t1), some (.int t2), some (.int t3), some (.int t4), some (.int (cond b5 1 0)), some (.int (nI i)), some (.int (cond (cond b5 false (cond (pm_cmp .ge (nI i) t2) false true)) 1 0))], [.int (cond (cond b5 false (cond (pm_cmp .ge (nI i) t2) false true)) (imax (nI 0) (imin (nI 999) (v157t q cc gc t1 (t3 + ((nI i) * t4))))) (nI 0)), .int (nI i), .ref 14], h, 198, sl) from by cases (cond b5 false (cond (pm_cmp .ge (nI i) t2) false true)) <;> rfl] at hh
  have hh : pm_run PT n fr lo 95 (109, [some (.ref 0), some (.int t1), some (.int t2), some (.int t3), some (.int t4), some (.int (cond b5 1 0)), some (.int (nI i)), some (.int (cond (cond b5 false (cond (pm_cmp .ge (nI i) t2) false true)) 1 0))], [.int (cond (cond b5 false (cond (pm_cmp .ge (nI i) t2) false true)) (imax (nI 0) (imin (nI 999) (v157t q cc gc t1 (t3 + ((nI i) * t4))))) (nI 0)), .int (nI i), .ref 14], h, 198, sl) = some R := hh
  obtain ⟨n, hx17, hh⟩ := en_st (t := i) (f := Ar h 14) (nI_clamp (by omega)) hw.wt rfl (by decide) rfl (by decide) rfl hh
  have hh : pm_run PT n fr lo 95 (110, [some (.ref 0), some (.int t1), some (.int t2), some (.int t3), some (.int t4), some (.int (cond b5 1 0)), some (.int (nI i)), some (.int (cond (cond b5 false (cond (pm_cmp .ge (nI i) t2) false true)) 1 0))], [], aset h 14 6 (upd (Ar h 14) i (cond (cond b5 false (cond (pm_cmp .ge (nI i) t2) false true)) (imax (nI 0) (imin (nI 999) (v157t q cc gc t1 (t3 + ((nI i) * t4))))) (nI 0))), 198, sl) = some R := hh
  obtain ⟨n, hh⟩ := en_inc (x := i) (c := 1) (j := 6) rfl rfl (by decide) hh
  have hh : pm_run PT n fr lo 95 (113, [some (.ref 0), some (.int t1), some (.int t2), some (.int t3), some (.int t4), some (.int (cond b5 1 0)), some (.int (nI (i + 1))), some (.int (cond (cond b5 false (cond (pm_cmp .ge (nI i) t2) false true)) 1 0))], [], aset h 14 6 (upd (Ar h 14) i (cond (cond b5 false (cond (pm_cmp .ge (nI i) t2) false true)) (imax (nI 0) (imin (nI 999) (v157t q cc gc t1 (t3 + ((nI i) * t4))))) (nI 0))), 198, sl) = some R := hh
  obtain ⟨n, hh⟩ := rn_i rfl rfl rfl rfl hh
  have ed : v95_44b q cc gc h t1 t2 t3 t4 b5 i = aset h 14 6 (upd (Ar h 14) i (cond (cond b5 false (cond (pm_cmp .ge (nI i) t2) false true)) (imax (nI 0) (imin (nI 999) (v157t q cc gc t1 (t3 + ((nI i) * t4))))) (nI 0))) := rfl
  rw [ed]
  exact ⟨n, some (.int (cond (cond b5 false (cond (pm_cmp .ge (nI i) t2) false true)) 1 0)), (hc_a rfl rfl hw), (fr_a rfl rfl fr_0), hh⟩
theorem v95_44_ok {fr lo sl cc gc : Nat} {q : QT} {R : pm_Rs} {t1 : Int32} {t2 : Int32} {t3 : Int32} {t4 : Int32} {b5 : Bool} : ∀ {j i : Nat} {o7 : Option Value} {h : pm_H} {n : Nat}, cc - i = j → i + j < 1000000 → HC q cc gc h → pm_run PT n fr lo 95 (44, [some (.ref 0), some (.int t1), some (.int t2), some (.int t3), some (.int t4), some (.int (cond b5 1 0)), some (.int (nI i)), o7], [], h, 198, sl) = some R → ∃ m wc w7, HC q cc gc ((v95_44 q cc gc t1 t2 t3 t4 b5 j i h)) ∧ frm [14] [] h ((v95_44 q cc gc t1 t2 t3 t4 b5 j i h)) ∧ pm_run PT m fr lo 95 (116, [some (.ref 0), some (.int t1), some (.int t2), some (.int t3), some (.int t4), some (.int (cond b5 1 0)), wc, w7], [], (v95_44 q cc gc t1 t2 t3 t4 b5 j i h), 198, sl) = some R := by
  intro j
  induction j with
  | zero =>
    intro i o7 h n e eI hw hh
    obtain ⟨n, hh⟩ := v95_44_e hw (by omega) (by omega) hh
    exact ⟨n, _, o7, hw, fr_0, hh⟩
  | succ j ih =>
    intro i o7 h n e eI hw hh
    obtain ⟨n, w7, hc, hf, hh⟩ := v95_44_s hw (by omega) (by omega) hh
    obtain ⟨n, wc, v7, hc2, hf2, hh⟩ := ih (by omega) (by omega) hc hh
    exact ⟨n, wc, v7, hc2, fr_t hf2 hf, hh⟩
theorem v95_44_fb {cc gc : Nat} {q : QT} {h : pm_H} {t1 : Int32} {t2 : Int32} {t3 : Int32} {t4 : Int32} {b5 : Bool} {i : Nat} (hw : HC q cc gc h) : HC q cc gc ((v95_44b q cc gc h t1 t2 t3 t4 b5 i)) ∧ frm [14] [] h ((v95_44b q cc gc h t1 t2 t3 t4 b5 i)) := by
  unfold v95_44b
  show HC q cc gc (aset h 14 6 (upd (Ar h 14) i (cond (cond b5 false (cond (pm_cmp .ge (nI i) t2) false true)) (imax (nI 0) (imin (nI 999) (v157t q cc gc t1 (t3 + ((nI i) * t4))))) (nI 0)))) ∧ frm [14] [] h (aset h 14 6 (upd (Ar h 14) i (cond (cond b5 false (cond (pm_cmp .ge (nI i) t2) false true)) (imax (nI 0) (imin (nI 999) (v157t q cc gc t1 (t3 + ((nI i) * t4))))) (nI 0))))
  exact ⟨(hc_a rfl rfl hw), (fr_a rfl rfl fr_0)⟩
theorem v95_44_fr {cc gc : Nat} {q : QT} {t1 : Int32} {t2 : Int32} {t3 : Int32} {t4 : Int32} {b5 : Bool} : ∀ {j i : Nat} {h : pm_H}, HC q cc gc h → HC q cc gc ((v95_44 q cc gc t1 t2 t3 t4 b5 j i h)) ∧ frm [14] [] h ((v95_44 q cc gc t1 t2 t3 t4 b5 j i h)) := by
  intro j
  induction j with
  | zero =>
    intro i h hw
    exact ⟨hw, fr_0⟩
  | succ j ih =>
    intro i h hw
    obtain ⟨a1, a2⟩ := v95_44_fb (i := i) (t1 := t1) (t2 := t2) (t3 := t3) (t4 := t4) (b5 := b5) hw
    obtain ⟨b1, b2⟩ := ih (i := i + 1) a1
    exact ⟨b1, fr_t b2 a2⟩
def v95 (q : QT) (cc gc : Nat) (h : pm_H) (k : Int32) (m : Int32) (e : Int32) (s : Int32) : Int32 × pm_H := cond (pm_cmp .lt k 0) ((Int32.ofInt (-1)), h) (cond (pm_cmp .gt k (nI 3)) ((Int32.ofInt (-1)), h) (cond (pm_cmp .le m (nI 6)) (cond (cond (pm_cmp .ne k (nI 3)) false true) (cond (cond (pm_cmp .ne k (nI 3)) false true) (Int32.ofInt (-3)) (v36 q cc gc (Ar (v95_44 q cc gc k m e s (cond (pm_cmp .ne k (nI 3)) false true) cc 0 h) 14)), (v95_44 q cc gc k m e s (cond (pm_cmp .ne k (nI 3)) false true) cc 0 h)) (cond (pm_cmp .ge m 0) (cond (cond (pm_cmp .ne k (nI 3)) false true) (Int32.ofInt (-3)) (v36 q cc gc (Ar (v95_44 q cc gc k m e s (cond (pm_cmp .ne k (nI 3)) false true) cc 0 h) 14)), (v95_44 q cc gc k m e s (cond (pm_cmp .ne k (nI 3)) false true) cc 0 h)) ((Int32.ofInt (-2)), h))) ((Int32.ofInt (-1)), h)))
theorem v95_ok {n fr lo sl cc gc : Nat} {q : QT} {h : pm_H} {R : pm_Rs} {k : Int32} {m : Int32} {e : Int32} {s : Int32} (hw : HC q cc gc h) (hh : pm_run PT n fr lo 95 (0, pm_l0 [.ref 0, .int k, .int m, .int e, .int s] 8, [], h, 198, sl) = some R) : R = (some (.int ((v95 q cc gc h k m e s).1)), (v95 q cc gc h k m e s).2, 198, sl) ∧ HC q cc gc ((v95 q cc gc h k m e s).2) ∧ frm [14] [] h ((v95 q cc gc h k m e s).2) := by
  have hcc := hw.cb
  have hgc := hw.gb
  have hzr := hw.zr
  obtain ⟨n, hh⟩ := rn_i rfl rfl rfl rfl hh
  have hh : pm_run PT n fr lo 95 (1, [some (.ref 0), some (.int k), some (.int m), some (.int e), some (.int s), none, none, none], [.int k], h, 198, sl) = some R := hh
  obtain ⟨n, hh⟩ := en_zn (cc := .lt) (off := 14) (t := 15) (b := pm_cmp .lt k 0) rfl rfl rfl hh
  cases z1 : pm_cmp .lt k 0 with
  | true =>
    have hh := en_t z1 hh
    have hh : pm_run PT n fr lo 95 (15, [some (.ref 0), some (.int k), some (.int m), some (.int e), some (.int s), none, none, none], [], h, 198, sl) = some R := hh
    obtain ⟨n, hh⟩ := rn_i rfl rfl rfl rfl hh
    have hh : pm_run PT n fr lo 95 (16, [some (.ref 0), some (.int k), some (.int m), some (.int e), some (.int s), none, none, none], [.int (Int32.ofInt (-1))], h, 198, sl) = some R := hh
    have er2 : R = (some (.int (Int32.ofInt (-1))), h, 198, sl) := (rn_ret rfl (Or.inl rfl) hh).2
    have ed : v95 q cc gc h k m e s = ((Int32.ofInt (-1)), h) := (ct z1).trans rfl
    refine ⟨?_, ?_, ?_⟩ <;> rw [ed]
    · exact er2
    · exact hw
    · exact fr_0
  | false =>
    have hh := en_f z1 hh
    have hh : pm_run PT n fr lo 95 (4, [some (.ref 0), some (.int k), some (.int m), some (.int e), some (.int s), none, none, none], [], h, 198, sl) = some R := hh
    obtain ⟨n, hh⟩ := rn_i rfl rfl rfl rfl hh
    obtain ⟨n, hh⟩ := rn_i rfl rfl rfl rfl hh
    have hh : pm_run PT n fr lo 95 (6, [some (.ref 0), some (.int k), some (.int m), some (.int e), some (.int s), none, none, none], [.int (nI 3), .int k], h, 198, sl) = some R := hh
    obtain ⟨n, hh⟩ := en_cn (cc := .gt) (off := 9) (t := 15) (b := pm_cmp .gt k (nI 3)) rfl rfl rfl hh
    cases z3 : pm_cmp .gt k (nI 3) with
    | true =>
      have hh := en_t z3 hh
      have hh : pm_run PT n fr lo 95 (15, [some (.ref 0), some (.int k), some (.int m), some (.int e), some (.int s), none, none, none], [], h, 198, sl) = some R := hh
      obtain ⟨n, hh⟩ := rn_i rfl rfl rfl rfl hh
      have hh : pm_run PT n fr lo 95 (16, [some (.ref 0), some (.int k), some (.int m), some (.int e), some (.int s), none, none, none], [.int (Int32.ofInt (-1))], h, 198, sl) = some R := hh
      have er4 : R = (some (.int (Int32.ofInt (-1))), h, 198, sl) := (rn_ret rfl (Or.inl rfl) hh).2
      have ed : v95 q cc gc h k m e s = ((Int32.ofInt (-1)), h) := (cf z1).trans ((ct z3).trans rfl)
      refine ⟨?_, ?_, ?_⟩ <;> rw [ed]
      · exact er4
      · exact hw
      · exact fr_0
    | false =>
      have hh := en_f z3 hh
      have hh : pm_run PT n fr lo 95 (9, [some (.ref 0), some (.int k), some (.int m), some (.int e), some (.int s), none, none, none], [], h, 198, sl) = some R := hh
      obtain ⟨n, hh⟩ := rn_i rfl rfl rfl rfl hh
      obtain ⟨n, hh⟩ := rn_i rfl rfl rfl rfl hh
      have hh : pm_run PT n fr lo 95 (12, [some (.ref 0), some (.int k), some (.int m), some (.int e), some (.int s), none, none, none], [.int (nI 6), .int m], h, 198, sl) = some R := hh
      obtain ⟨n, hh⟩ := en_cn (cc := .le) (off := 5) (t := 17) (b := pm_cmp .le m (nI 6)) rfl rfl rfl hh
      cases z5 : pm_cmp .le m (nI 6) with
      | true =>
        have hh := en_t z5 hh
        have hh : pm_run PT n fr lo 95 (17, [some (.ref 0), some (.int k), some (.int m), some (.int e), some (.int s), none, none, none], [], h, 198, sl) = some R := hh
        obtain ⟨n, hh⟩ := rn_i rfl rfl rfl rfl hh
        obtain ⟨n, hh⟩ := rn_i rfl rfl rfl rfl hh
        have hh : pm_run PT n fr lo 95 (19, [some (.ref 0), some (.int k), some (.int m), some (.int e), some (.int s), none, none, none], [.int (nI 3), .int k], h, 198, sl) = some R := hh
        obtain ⟨n, hh⟩ := en_cn (cc := .ne) (off := 7) (t := 26) (b := pm_cmp .ne k (nI 3)) rfl rfl rfl hh
        have hj7 : ∃ mJ, pm_run PT mJ fr lo 95 (cond (pm_cmp .ne k (nI 3)) (27, [some (.ref 0), some (.int k), some (.int m), some (.int e), some (.int s), none, none, none], [.int (nI 0)], h, 198, sl) (27, [some (.ref 0), some (.int k), some (.int m), some (.int e), some (.int s), none, none, none], [.int (nI 1)], h, 198, sl)) = some R := en_J (fun z6 => by
            have hh := en_t z6 hh
            have hh : pm_run PT n fr lo 95 (26, [some (.ref 0), some (.int k), some (.int m), some (.int e), some (.int s), none, none, none], [], h, 198, sl) = some R := hh
            obtain ⟨n, hh⟩ := rn_i rfl rfl rfl rfl hh
            exact ⟨n, hh⟩) (fun z6 => by
            have hh := en_f z6 hh
            have hh : pm_run PT n fr lo 95 (22, [some (.ref 0), some (.int k), some (.int m), some (.int e), some (.int s), none, none, none], [], h, 198, sl) = some R := hh
            obtain ⟨n, hh⟩ := rn_i rfl rfl rfl rfl hh
            obtain ⟨n, hh⟩ := rn_i rfl rfl rfl rfl hh
            exact ⟨n, hh⟩)
        obtain ⟨n, hh⟩ := hj7
        rw [show (cond (pm_cmp .ne k (nI 3)) (27, [some (.ref 0), some (.int k), some (.int m), some (.int e), some (.int s), none, none, none], [.int (nI 0)], h, 198, sl) (27, [some (.ref 0), some (.int k), some (.int m), some (.int e), some (.int s), none, none, none], [.int (nI 1)], h, 198, sl) : pm_St) = (27, [some (.ref 0), some (.int k), some (.int m), some (.int e), some (.int s), none, none, none], [.int (cond (cond (pm_cmp .ne k (nI 3)) false true) 1 0)], h, 198, sl) from by cases (pm_cmp .ne k (nI 3)) <;> rfl] at hh
        obtain ⟨n, hh⟩ := rn_i rfl rfl rfl rfl hh
        obtain ⟨n, hh⟩ := rn_i rfl rfl rfl rfl hh
        have hh : pm_run PT n fr lo 95 (31, [some (.ref 0), some (.int k), some (.int m), some (.int e), some (.int s), some (.int (cond (cond (pm_cmp .ne k (nI 3)) false true) 1 0)), none, none], [.int (cond (cond (pm_cmp .ne k (nI 3)) false true) 1 0)], h, 198, sl) = some R := hh
        obtain ⟨n, hh⟩ := en_zn (cc := .ne) (off := 10) (t := 41) (b := cond (pm_cmp .ne k (nI 3)) false true) eb_ne rfl rfl hh
        cases z8 : cond (pm_cmp .ne k (nI 3)) false true with
        | true =>
          have hh := en_t z8 hh
          have hh : pm_run PT n fr lo 95 (41, [some (.ref 0), some (.int k), some (.int m), some (.int e), some (.int s), some (.int (cond (cond (pm_cmp .ne k (nI 3)) false true) 1 0)), none, none], [], h, 198, sl) = some R := hh
          obtain ⟨n, hh⟩ := rn_i rfl rfl rfl rfl hh
          obtain ⟨n, hh⟩ := rn_i rfl rfl rfl rfl hh
          have hh : pm_run PT n fr lo 95 (44, [some (.ref 0), some (.int k), some (.int m), some (.int e), some (.int s), some (.int (cond (cond (pm_cmp .ne k (nI 3)) false true) 1 0)), some (.int (nI 0)), none], [], h, 198, sl) = some R := hh
          obtain ⟨n, u10, u9, hc11, hf12, hh⟩ := v95_44_ok (t1 := k) (t2 := m) (t3 := e) (t4 := s) (b5 := (cond (pm_cmp .ne k (nI 3)) false true))  (i := 0) (o7 := none) (j := cc) (by omega) (by omega) hw hh
          have hh : pm_run PT n fr lo 95 (116, [some (.ref 0), some (.int k), some (.int m), some (.int e), some (.int s), some (.int (cond (cond (pm_cmp .ne k (nI 3)) false true) 1 0)), u10, u9], [], (v95_44 q cc gc k m e s (cond (pm_cmp .ne k (nI 3)) false true) cc 0 h), 198, sl) = some R := hh
          obtain ⟨n, hh⟩ := rn_i rfl rfl rfl rfl hh
          have hh : pm_run PT n fr lo 95 (118, [some (.ref 0), some (.int k), some (.int m), some (.int e), some (.int s), some (.int (cond (cond (pm_cmp .ne k (nI 3)) false true) 1 0)), u10, u9], [.int (cond (cond (pm_cmp .ne k (nI 3)) false true) 1 0)], (v95_44 q cc gc k m e s (cond (pm_cmp .ne k (nI 3)) false true) cc 0 h), 198, sl) = some R := hh
          obtain ⟨n, hh⟩ := en_zn (cc := .eq) (off := 8) (t := 126) (b := !(cond (pm_cmp .ne k (nI 3)) false true)) eb_eq rfl rfl hh
          have hj15 : ∃ mJ, pm_run PT mJ fr lo 95 (cond (cond (pm_cmp .ne k (nI 3)) false true) (137, [some (.ref 0), some (.int k), some (.int m), some (.int e), some (.int s), some (.int (cond (cond (pm_cmp .ne k (nI 3)) false true) 1 0)), u10, u9], [.int (Int32.ofInt (-3))], (v95_44 q cc gc k m e s (cond (pm_cmp .ne k (nI 3)) false true) cc 0 h), 198, sl) (137, [some (.ref 0), some (.int k), some (.int m), some (.int e), some (.int s), some (.int (cond (cond (pm_cmp .ne k (nI 3)) false true) 1 0)), u10, u9], [.int (v36 q cc gc (Ar (v95_44 q cc gc k m e s (cond (pm_cmp .ne k (nI 3)) false true) cc 0 h) 14))], (v95_44 q cc gc k m e s (cond (pm_cmp .ne k (nI 3)) false true) cc 0 h), 198, sl)) = some R := en_J (fun z13 => by
              have hh := en_nt z13 hh
              have hh : pm_run PT n fr lo 95 (121, [some (.ref 0), some (.int k), some (.int m), some (.int e), some (.int s), some (.int (cond (cond (pm_cmp .ne k (nI 3)) false true) 1 0)), u10, u9], [], (v95_44 q cc gc k m e s (cond (pm_cmp .ne k (nI 3)) false true) cc 0 h), 198, sl) = some R := hh
              obtain ⟨n, hh⟩ := rn_i rfl rfl rfl rfl hh
              obtain ⟨n, hh⟩ := rn_i rfl rfl rfl rfl hh
              exact ⟨n, hh⟩) (fun z13 => by
              have hh := en_nf z13 hh
              have hh : pm_run PT n fr lo 95 (126, [some (.ref 0), some (.int k), some (.int m), some (.int e), some (.int s), some (.int (cond (cond (pm_cmp .ne k (nI 3)) false true) 1 0)), u10, u9], [], (v95_44 q cc gc k m e s (cond (pm_cmp .ne k (nI 3)) false true) cc 0 h), 198, sl) = some R := hh
              obtain ⟨n, hh⟩ := rn_i rfl rfl rfl rfl hh
              have hh : pm_run PT n fr lo 95 (127, [some (.ref 0), some (.int k), some (.int m), some (.int e), some (.int s), some (.int (cond (cond (pm_cmp .ne k (nI 3)) false true) 1 0)), u10, u9], [.ref 0], (v95_44 q cc gc k m e s (cond (pm_cmp .ne k (nI 3)) false true) cc 0 h), 198, sl) = some R := hh
              obtain ⟨n, hh⟩ := rn_gr hc11.wt rfl rfl (by decide) rfl (by decide) (show _ = some (2, ((5 : Nat) : Int), 1) from rfl) rfl hh
              obtain ⟨n, hh⟩ := rn_i rfl rfl rfl rfl hh
              have hh : pm_run PT n fr lo 95 (131, [some (.ref 0), some (.int k), some (.int m), some (.int e), some (.int s), some (.int (cond (cond (pm_cmp .ne k (nI 3)) false true) 1 0)), u10, u9], [.ref 0, .ref 5], (v95_44 q cc gc k m e s (cond (pm_cmp .ne k (nI 3)) false true) cc 0 h), 198, sl) = some R := hh
              obtain ⟨n, hh⟩ := rn_gr hc11.wt rfl rfl (by decide) rfl (by decide) (show _ = some (2, ((13 : Nat) : Int), 1) from rfl) rfl hh
              have hh : pm_run PT n fr lo 95 (134, [some (.ref 0), some (.int k), some (.int m), some (.int e), some (.int s), some (.int (cond (cond (pm_cmp .ne k (nI 3)) false true) 1 0)), u10, u9], [.ref 13, .ref 5], (v95_44 q cc gc k m e s (cond (pm_cmp .ne k (nI 3)) false true) cc 0 h), 198, sl) = some R := hh
              obtain ⟨n, fr1, lo1, r1, hh1, hh⟩ := rn_call (w := 0) (t := 36) rfl rfl hh
              have er14 := v36_ok hc11 hh1
              subst er14
              exact ⟨n, hh⟩)
          obtain ⟨n, hh⟩ := hj15
          rw [show (cond (cond (pm_cmp .ne k (nI 3)) false true) (137, [some (.ref 0), some (.int k), some (.int m), some (.int e), some (.int s), some (.int (cond (cond (pm_cmp .ne k (nI 3)) false true) 1 0)), u10, u9], [.int (Int32.ofInt (-3))], (v95_44 q cc gc k m e s (cond (pm_cmp .ne k (nI 3)) false true) cc 0 h), 198, sl) (137, [some (.ref 0), some (.int k), some (.int m), some (.int e), some (.int s), some (.int (cond (cond (pm_cmp .ne k (nI 3)) false true) 1 0)), u10, u9], [.int (v36 q cc gc (Ar (v95_44 q cc gc k m e s (cond (pm_cmp .ne k (nI 3)) false true) cc 0 h) 14))], (v95_44 q cc gc k m e s (cond (pm_cmp .ne k (nI 3)) false true) cc 0 h), 198, sl) : pm_St) = (137, [some (.ref 0), some (.int k), some (.int m), some (.int e), some (.int s), some (.int (cond (cond (pm_cmp .ne k (nI 3)) false true) 1 0)), u10, u9], [.int (cond (cond (pm_cmp .ne k (nI 3)) false true) (Int32.ofInt (-3)) (v36 q cc gc (Ar (v95_44 q cc gc k m e s (cond (pm_cmp .ne k (nI 3)) false true) cc 0 h) 14)))], (v95_44 q cc gc k m e s (cond (pm_cmp .ne k (nI 3)) false true) cc 0 h), 198, sl) from by cases (cond (pm_cmp .ne k (nI 3)) false true) <;> rfl] at hh
          have hh : pm_run PT n fr lo 95 (137, [some (.ref 0), some (.int k), some (.int m), some (.int e), some (.int s), some (.int (cond (cond (pm_cmp .ne k (nI 3)) false true) 1 0)), u10, u9], [.int (cond (cond (pm_cmp .ne k (nI 3)) false true) (Int32.ofInt (-3)) (v36 q cc gc (Ar (v95_44 q cc gc k m e s (cond (pm_cmp .ne k (nI 3)) false true) cc 0 h) 14)))], (v95_44 q cc gc k m e s (cond (pm_cmp .ne k (nI 3)) false true) cc 0 h), 198, sl) = some R := hh
          have er16 : R = (some (.int (cond (cond (pm_cmp .ne k (nI 3)) false true) (Int32.ofInt (-3)) (v36 q cc gc (Ar (v95_44 q cc gc k m e s (cond (pm_cmp .ne k (nI 3)) false true) cc 0 h) 14)))), (v95_44 q cc gc k m e s (cond (pm_cmp .ne k (nI 3)) false true) cc 0 h), 198, sl) := (rn_ret rfl (Or.inl rfl) hh).2
          have ed : v95 q cc gc h k m e s = (cond (cond (pm_cmp .ne k (nI 3)) false true) (Int32.ofInt (-3)) (v36 q cc gc (Ar (v95_44 q cc gc k m e s (cond (pm_cmp .ne k (nI 3)) false true) cc 0 h) 14)), (v95_44 q cc gc k m e s (cond (pm_cmp .ne k (nI 3)) false true) cc 0 h)) := (cf z1).trans ((cf z3).trans ((ct z5).trans ((ct z8).trans rfl)))
          refine ⟨?_, ?_, ?_⟩ <;> rw [ed]
          · exact er16
          · exact hc11
          · exact (fr_g rfl rfl hf12 fr_0)
        | false =>
          have hh := en_f z8 hh
          have hh : pm_run PT n fr lo 95 (34, [some (.ref 0), some (.int k), some (.int m), some (.int e), some (.int s), some (.int (cond (cond (pm_cmp .ne k (nI 3)) false true) 1 0)), none, none], [], h, 198, sl) = some R := hh
          obtain ⟨n, hh⟩ := rn_i rfl rfl rfl rfl hh
          have hh : pm_run PT n fr lo 95 (35, [some (.ref 0), some (.int k), some (.int m), some (.int e), some (.int s), some (.int (cond (cond (pm_cmp .ne k (nI 3)) false true) 1 0)), none, none], [.int m], h, 198, sl) = some R := hh
          obtain ⟨n, hh⟩ := en_zn (cc := .ge) (off := 6) (t := 41) (b := pm_cmp .ge m 0) rfl rfl rfl hh
          cases z17 : pm_cmp .ge m 0 with
          | true =>
            have hh := en_t z17 hh
            have hh : pm_run PT n fr lo 95 (41, [some (.ref 0), some (.int k), some (.int m), some (.int e), some (.int s), some (.int (cond (cond (pm_cmp .ne k (nI 3)) false true) 1 0)), none, none], [], h, 198, sl) = some R := hh
            obtain ⟨n, hh⟩ := rn_i rfl rfl rfl rfl hh
            obtain ⟨n, hh⟩ := rn_i rfl rfl rfl rfl hh
            have hh : pm_run PT n fr lo 95 (44, [some (.ref 0), some (.int k), some (.int m), some (.int e), some (.int s), some (.int (cond (cond (pm_cmp .ne k (nI 3)) false true) 1 0)), some (.int (nI 0)), none], [], h, 198, sl) = some R := hh
            obtain ⟨n, u19, u18, hc20, hf21, hh⟩ := v95_44_ok (t1 := k) (t2 := m) (t3 := e) (t4 := s) (b5 := (cond (pm_cmp .ne k (nI 3)) false true))  (i := 0) (o7 := none) (j := cc) (by omega) (by omega) hw hh
            have hh : pm_run PT n fr lo 95 (116, [some (.ref 0), some (.int k), some (.int m), some (.int e), some (.int s), some (.int (cond (cond (pm_cmp .ne k (nI 3)) false true) 1 0)), u19, u18], [], (v95_44 q cc gc k m e s (cond (pm_cmp .ne k (nI 3)) false true) cc 0 h), 198, sl) = some R := hh
            obtain ⟨n, hh⟩ := rn_i rfl rfl rfl rfl hh
            have hh : pm_run PT n fr lo 95 (118, [some (.ref 0), some (.int k), some (.int m), some (.int e), some (.int s), some (.int (cond (cond (pm_cmp .ne k (nI 3)) false true) 1 0)), u19, u18], [.int (cond (cond (pm_cmp .ne k (nI 3)) false true) 1 0)], (v95_44 q cc gc k m e s (cond (pm_cmp .ne k (nI 3)) false true) cc 0 h), 198, sl) = some R := hh
            obtain ⟨n, hh⟩ := en_zn (cc := .eq) (off := 8) (t := 126) (b := !(cond (pm_cmp .ne k (nI 3)) false true)) eb_eq rfl rfl hh
            have hj24 : ∃ mJ, pm_run PT mJ fr lo 95 (cond (cond (pm_cmp .ne k (nI 3)) false true) (137, [some (.ref 0), some (.int k), some (.int m), some (.int e), some (.int s), some (.int (cond (cond (pm_cmp .ne k (nI 3)) false true) 1 0)), u19, u18], [.int (Int32.ofInt (-3))], (v95_44 q cc gc k m e s (cond (pm_cmp .ne k (nI 3)) false true) cc 0 h), 198, sl) (137, [some (.ref 0), some (.int k), some (.int m), some (.int e), some (.int s), some (.int (cond (cond (pm_cmp .ne k (nI 3)) false true) 1 0)), u19, u18], [.int (v36 q cc gc (Ar (v95_44 q cc gc k m e s (cond (pm_cmp .ne k (nI 3)) false true) cc 0 h) 14))], (v95_44 q cc gc k m e s (cond (pm_cmp .ne k (nI 3)) false true) cc 0 h), 198, sl)) = some R := en_J (fun z22 => by
                have hh := en_nt z22 hh
                have hh : pm_run PT n fr lo 95 (121, [some (.ref 0), some (.int k), some (.int m), some (.int e), some (.int s), some (.int (cond (cond (pm_cmp .ne k (nI 3)) false true) 1 0)), u19, u18], [], (v95_44 q cc gc k m e s (cond (pm_cmp .ne k (nI 3)) false true) cc 0 h), 198, sl) = some R := hh
                obtain ⟨n, hh⟩ := rn_i rfl rfl rfl rfl hh
                obtain ⟨n, hh⟩ := rn_i rfl rfl rfl rfl hh
                exact ⟨n, hh⟩) (fun z22 => by
                have hh := en_nf z22 hh
                have hh : pm_run PT n fr lo 95 (126, [some (.ref 0), some (.int k), some (.int m), some (.int e), some (.int s), some (.int (cond (cond (pm_cmp .ne k (nI 3)) false true) 1 0)), u19, u18], [], (v95_44 q cc gc k m e s (cond (pm_cmp .ne k (nI 3)) false true) cc 0 h), 198, sl) = some R := hh
                obtain ⟨n, hh⟩ := rn_i rfl rfl rfl rfl hh
                have hh : pm_run PT n fr lo 95 (127, [some (.ref 0), some (.int k), some (.int m), some (.int e), some (.int s), some (.int (cond (cond (pm_cmp .ne k (nI 3)) false true) 1 0)), u19, u18], [.ref 0], (v95_44 q cc gc k m e s (cond (pm_cmp .ne k (nI 3)) false true) cc 0 h), 198, sl) = some R := hh
                obtain ⟨n, hh⟩ := rn_gr hc20.wt rfl rfl (by decide) rfl (by decide) (show _ = some (2, ((5 : Nat) : Int), 1) from rfl) rfl hh
                obtain ⟨n, hh⟩ := rn_i rfl rfl rfl rfl hh
                have hh : pm_run PT n fr lo 95 (131, [some (.ref 0), some (.int k), some (.int m), some (.int e), some (.int s), some (.int (cond (cond (pm_cmp .ne k (nI 3)) false true) 1 0)), u19, u18], [.ref 0, .ref 5], (v95_44 q cc gc k m e s (cond (pm_cmp .ne k (nI 3)) false true) cc 0 h), 198, sl) = some R := hh
                obtain ⟨n, hh⟩ := rn_gr hc20.wt rfl rfl (by decide) rfl (by decide) (show _ = some (2, ((13 : Nat) : Int), 1) from rfl) rfl hh
                have hh : pm_run PT n fr lo 95 (134, [some (.ref 0), some (.int k), some (.int m), some (.int e), some (.int s), some (.int (cond (cond (pm_cmp .ne k (nI 3)) false true) 1 0)), u19, u18], [.ref 13, .ref 5], (v95_44 q cc gc k m e s (cond (pm_cmp .ne k (nI 3)) false true) cc 0 h), 198, sl) = some R := hh
                obtain ⟨n, fr1, lo1, r1, hh1, hh⟩ := rn_call (w := 0) (t := 36) rfl rfl hh
                have er23 := v36_ok hc20 hh1
                subst er23
                exact ⟨n, hh⟩)
            obtain ⟨n, hh⟩ := hj24
            rw [show (cond (cond (pm_cmp .ne k (nI 3)) false true) (137, [some (.ref 0), some (.int k), some (.int m), some (.int e), some (.int s), some (.int (cond (cond (pm_cmp .ne k (nI 3)) false true) 1 0)), u19, u18], [.int (Int32.ofInt (-3))], (v95_44 q cc gc k m e s (cond (pm_cmp .ne k (nI 3)) false true) cc 0 h), 198, sl) (137, [some (.ref 0), some (.int k), some (.int m), some (.int e), some (.int s), some (.int (cond (cond (pm_cmp .ne k (nI 3)) false true) 1 0)), u19, u18], [.int (v36 q cc gc (Ar (v95_44 q cc gc k m e s (cond (pm_cmp .ne k (nI 3)) false true) cc 0 h) 14))], (v95_44 q cc gc k m e s (cond (pm_cmp .ne k (nI 3)) false true) cc 0 h), 198, sl) : pm_St) = (137, [some (.ref 0), some (.int k), some (.int m), some (.int e), some (.int s), some (.int (cond (cond (pm_cmp .ne k (nI 3)) false true) 1 0)), u19, u18], [.int (cond (cond (pm_cmp .ne k (nI 3)) false true) (Int32.ofInt (-3)) (v36 q cc gc (Ar (v95_44 q cc gc k m e s (cond (pm_cmp .ne k (nI 3)) false true) cc 0 h) 14)))], (v95_44 q cc gc k m e s (cond (pm_cmp .ne k (nI 3)) false true) cc 0 h), 198, sl) from by cases (cond (pm_cmp .ne k (nI 3)) false true) <;> rfl] at hh
            have hh : pm_run PT n fr lo 95 (137, [some (.ref 0), some (.int k), some (.int m), some (.int e), some (.int s), some (.int (cond (cond (pm_cmp .ne k (nI 3)) false true) 1 0)), u19, u18], [.int (cond (cond (pm_cmp .ne k (nI 3)) false true) (Int32.ofInt (-3)) (v36 q cc gc (Ar (v95_44 q cc gc k m e s (cond (pm_cmp .ne k (nI 3)) false true) cc 0 h) 14)))], (v95_44 q cc gc k m e s (cond (pm_cmp .ne k (nI 3)) false true) cc 0 h), 198, sl) = some R := hh
            have er25 : R = (some (.int (cond (cond (pm_cmp .ne k (nI 3)) false true) (Int32.ofInt (-3)) (v36 q cc gc (Ar (v95_44 q cc gc k m e s (cond (pm_cmp .ne k (nI 3)) false true) cc 0 h) 14)))), (v95_44 q cc gc k m e s (cond (pm_cmp .ne k (nI 3)) false true) cc 0 h), 198, sl) := (rn_ret rfl (Or.inl rfl) hh).2
            have ed : v95 q cc gc h k m e s = (cond (cond (pm_cmp .ne k (nI 3)) false true) (Int32.ofInt (-3)) (v36 q cc gc (Ar (v95_44 q cc gc k m e s (cond (pm_cmp .ne k (nI 3)) false true) cc 0 h) 14)), (v95_44 q cc gc k m e s (cond (pm_cmp .ne k (nI 3)) false true) cc 0 h)) := (cf z1).trans ((cf z3).trans ((ct z5).trans ((cf z8).trans ((ct z17).trans rfl))))
            refine ⟨?_, ?_, ?_⟩ <;> rw [ed]
            · exact er25
            · exact hc20
            · exact (fr_g rfl rfl hf21 fr_0)
          | false =>
            have hh := en_f z17 hh
            have hh : pm_run PT n fr lo 95 (38, [some (.ref 0), some (.int k), some (.int m), some (.int e), some (.int s), some (.int (cond (cond (pm_cmp .ne k (nI 3)) false true) 1 0)), none, none], [], h, 198, sl) = some R := hh
            obtain ⟨n, hh⟩ := rn_i rfl rfl rfl rfl hh
            have hh : pm_run PT n fr lo 95 (40, [some (.ref 0), some (.int k), some (.int m), some (.int e), some (.int s), some (.int (cond (cond (pm_cmp .ne k (nI 3)) false true) 1 0)), none, none], [.int (Int32.ofInt (-2))], h, 198, sl) = some R := hh
            have er26 : R = (some (.int (Int32.ofInt (-2))), h, 198, sl) := (rn_ret rfl (Or.inl rfl) hh).2
            have ed : v95 q cc gc h k m e s = ((Int32.ofInt (-2)), h) := (cf z1).trans ((cf z3).trans ((ct z5).trans ((cf z8).trans ((cf z17).trans rfl))))
            refine ⟨?_, ?_, ?_⟩ <;> rw [ed]
            · exact er26
            · exact hw
            · exact fr_0
      | false =>
        have hh := en_f z5 hh
        have hh : pm_run PT n fr lo 95 (15, [some (.ref 0), some (.int k), some (.int m), some (.int e), some (.int s), none, none, none], [], h, 198, sl) = some R := hh
        obtain ⟨n, hh⟩ := rn_i rfl rfl rfl rfl hh
        have hh : pm_run PT n fr lo 95 (16, [some (.ref 0), some (.int k), some (.int m), some (.int e), some (.int s), none, none, none], [.int (Int32.ofInt (-1))], h, 198, sl) = some R := hh
        have er27 : R = (some (.int (Int32.ofInt (-1))), h, 198, sl) := (rn_ret rfl (Or.inl rfl) hh).2
        have ed : v95 q cc gc h k m e s = ((Int32.ofInt (-1)), h) := (cf z1).trans ((cf z3).trans ((cf z5).trans rfl))
        refine ⟨?_, ?_, ?_⟩ <;> rw [ed]
        · exact er27
        · exact hw
        · exact fr_0
theorem v95_fr {cc gc : Nat} {q : QT} {h : pm_H} {k : Int32} {m : Int32} {e : Int32} {s : Int32} (hw : HC q cc gc h) : HC q cc gc ((v95 q cc gc h k m e s).2) ∧ frm [14] [] h ((v95 q cc gc h k m e s).2) := by
  unfold v95
  refine cd_s (P := fun (p : Int32 × pm_H) => HC q cc gc ((p).2) ∧ frm [14] [] h ((p).2)) (b := pm_cmp .lt k 0) (fun _ => ?_) (fun _ => ?_)
  · show HC q cc gc (h) ∧ frm [14] [] h (h)
    exact ⟨hw, fr_0⟩
  · refine cd_s (P := fun (p : Int32 × pm_H) => HC q cc gc ((p).2) ∧ frm [14] [] h ((p).2)) (b := pm_cmp .gt k (nI 3)) (fun _ => ?_) (fun _ => ?_)
    · show HC q cc gc (h) ∧ frm [14] [] h (h)
      exact ⟨hw, fr_0⟩
    · refine cd_s (P := fun (p : Int32 × pm_H) => HC q cc gc ((p).2) ∧ frm [14] [] h ((p).2)) (b := pm_cmp .le m (nI 6)) (fun _ => ?_) (fun _ => ?_)
      · refine cd_s (P := fun (p : Int32 × pm_H) => HC q cc gc ((p).2) ∧ frm [14] [] h ((p).2)) (b := cond (pm_cmp .ne k (nI 3)) false true) (fun _ => ?_) (fun _ => ?_)
        · show HC q cc gc ((v95_44 q cc gc k m e s (cond (pm_cmp .ne k (nI 3)) false true) cc 0 h)) ∧ frm [14] [] h ((v95_44 q cc gc k m e s (cond (pm_cmp .ne k (nI 3)) false true) cc 0 h))
          exact ⟨(v95_44_fr (t1 := k) (t2 := m) (t3 := e) (t4 := s) (b5 := (cond (pm_cmp .ne k (nI 3)) false true)) (j := cc) (i := 0) hw).1, (fr_g rfl rfl (v95_44_fr (t1 := k) (t2 := m) (t3 := e) (t4 := s) (b5 := (cond (pm_cmp .ne k (nI 3)) false true)) (j := cc) (i := 0) hw).2 fr_0)⟩
        · refine cd_s (P := fun (p : Int32 × pm_H) => HC q cc gc ((p).2) ∧ frm [14] [] h ((p).2)) (b := pm_cmp .ge m 0) (fun _ => ?_) (fun _ => ?_)
          · show HC q cc gc ((v95_44 q cc gc k m e s (cond (pm_cmp .ne k (nI 3)) false true) cc 0 h)) ∧ frm [14] [] h ((v95_44 q cc gc k m e s (cond (pm_cmp .ne k (nI 3)) false true) cc 0 h))
            exact ⟨(v95_44_fr (t1 := k) (t2 := m) (t3 := e) (t4 := s) (b5 := (cond (pm_cmp .ne k (nI 3)) false true)) (j := cc) (i := 0) hw).1, (fr_g rfl rfl (v95_44_fr (t1 := k) (t2 := m) (t3 := e) (t4 := s) (b5 := (cond (pm_cmp .ne k (nI 3)) false true)) (j := cc) (i := 0) hw).2 fr_0)⟩
          · show HC q cc gc (h) ∧ frm [14] [] h (h)
            exact ⟨hw, fr_0⟩
      · show HC q cc gc (h) ∧ frm [14] [] h (h)
        exact ⟨hw, fr_0⟩
def v177_4b (q : QT) (cc gc : Nat) (d0 : Nat → Int32) (i : Nat) (x2 : Int32) : Int32 := x2 + ((d0) i)
def v177_4 (q : QT) (cc gc : Nat) (d0 : Nat → Int32) (j i : Nat) (a : Int32) : Int32 := lp (fun i a => v177_4b q cc gc d0 i a) j i a
theorem v177_4_e {n fr lo sl cc gc : Nat} {q : QT} {h : pm_H} {R : pm_Rs} {i : Nat} {x2 : Int32} (hw : HC q cc gc h) (hi : cc ≤ i) (hI : i < 1000000) (hh : pm_run PT n fr lo 177 (4, [some (.ref 162), some (.ref 170), some (.int x2), some (.int (nI i))], [], h, 198, sl) = some R) : ∃ m, pm_run PT m fr lo 177 (24, [some (.ref 162), some (.ref 170), some (.int x2), some (.int (nI i))], [], h, 198, sl) = some R := by
  have hcc := hw.cb
  have hgc := hw.gb
  have hzr := hw.zr
  obtain ⟨n, hh⟩ := rn_i rfl rfl rfl rfl hh
  obtain ⟨n, hh⟩ := rn_i rfl rfl rfl rfl hh
  have hh : pm_run PT n fr lo 177 (6, [some (.ref 162), some (.ref 170), some (.int x2), some (.int (nI i))], [.ref 162, .int (nI i)], h, 198, sl) = some R := hh
  obtain ⟨n, hh⟩ := rn_gi (x := nI cc) hw.wt rfl rfl (by decide) rfl (by decide) rfl hw.m3 hh
  have hh : pm_run PT n fr lo 177 (9, [some (.ref 162), some (.ref 170), some (.int x2), some (.int (nI i))], [.int (nI cc), .int (nI i)], h, 198, sl) = some R := hh
  obtain ⟨n, hh⟩ := en_cn (cc := .ge) (off := 15) (t := 24) (b := decide (cc ≤ i)) (hI_ge (by omega) (by omega)) rfl rfl hh
  have hh := en_t (show decide (cc ≤ i) = true from decide_eq_true (by omega)) hh
  have hh : pm_run PT n fr lo 177 (24, [some (.ref 162), some (.ref 170), some (.int x2), some (.int (nI i))], [], h, 198, sl) = some R := hh
  exact ⟨n, hh⟩
theorem v177_4_s {n fr lo sl cc gc : Nat} {q : QT} {h : pm_H} {R : pm_Rs} {i : Nat} {x2 : Int32} (hw : HC q cc gc h) (hi : i < cc) (hI : i < 1000000) (hh : pm_run PT n fr lo 177 (4, [some (.ref 162), some (.ref 170), some (.int x2), some (.int (nI i))], [], h, 198, sl) = some R) : ∃ m, pm_run PT m fr lo 177 (4, [some (.ref 162), some (.ref 170), some (.int (v177_4b q cc gc (Ar h 170) i x2)), some (.int (nI (i + 1)))], [], h, 198, sl) = some R := by
  have hcc := hw.cb
  have hgc := hw.gb
  have hzr := hw.zr
  obtain ⟨n, hh⟩ := rn_i rfl rfl rfl rfl hh
  obtain ⟨n, hh⟩ := rn_i rfl rfl rfl rfl hh
  have hh : pm_run PT n fr lo 177 (6, [some (.ref 162), some (.ref 170), some (.int x2), some (.int (nI i))], [.ref 162, .int (nI i)], h, 198, sl) = some R := hh
  obtain ⟨n, hh⟩ := rn_gi (x := nI cc) hw.wt rfl rfl (by decide) rfl (by decide) rfl hw.m3 hh
  have hh : pm_run PT n fr lo 177 (9, [some (.ref 162), some (.ref 170), some (.int x2), some (.int (nI i))], [.int (nI cc), .int (nI i)], h, 198, sl) = some R := hh
  obtain ⟨n, hh⟩ := en_cn (cc := .ge) (off := 15) (t := 24) (b := decide (cc ≤ i)) (hI_ge (by omega) (by omega)) rfl rfl hh
  have hh := en_f (show decide (cc ≤ i) = false from decide_eq_false (by omega)) hh
  have hh : pm_run PT n fr lo 177 (12, [some (.ref 162), some (.ref 170), some (.int x2), some (.int (nI i))], [], h, 198, sl) = some R := hh
  obtain ⟨n, hh⟩ := rn_i rfl rfl rfl rfl hh
  obtain ⟨n, hh⟩ := rn_i rfl rfl rfl rfl hh
  obtain ⟨n, hh⟩ := rn_i rfl rfl rfl rfl hh
  have hh : pm_run PT n fr lo 177 (15, [some (.ref 162), some (.ref 170), some (.int x2), some (.int (nI i))], [.int (nI i), .ref 170, .int x2], h, 198, sl) = some R := hh
  obtain ⟨n, hx1, hh⟩ := en_lu (t := i) (f := Ar h 170) (w := (Ar h 170) i) (nI_clamp (by omega)) hw.wt rfl (by decide) rfl (by decide) rfl (fun _ => rfl) hh
  obtain ⟨n, hh⟩ := rn_i rfl rfl rfl rfl hh
  obtain ⟨n, hh⟩ := rn_i rfl rfl rfl rfl hh
  have hh : pm_run PT n fr lo 177 (18, [some (.ref 162), some (.ref 170), some (.int (x2 + ((Ar h 170) i))), some (.int (nI i))], [], h, 198, sl) = some R := hh
  obtain ⟨n, hh⟩ := en_inc (x := i) (c := 1) (j := 3) rfl rfl (by decide) hh
  have hh : pm_run PT n fr lo 177 (21, [some (.ref 162), some (.ref 170), some (.int (x2 + ((Ar h 170) i))), some (.int (nI (i + 1)))], [], h, 198, sl) = some R := hh
  obtain ⟨n, hh⟩ := rn_i rfl rfl rfl rfl hh
  have ed : v177_4b q cc gc (Ar h 170) i x2 = x2 + ((Ar h 170) i) := rfl
  rw [ed]
  exact ⟨n, hh⟩
theorem v177_4_ok {fr lo sl cc gc : Nat} {q : QT} {R : pm_Rs} : ∀ {j i : Nat} {x2 : Int32} {h : pm_H} {n : Nat}, cc - i = j → i + j < 1000000 → HC q cc gc h → pm_run PT n fr lo 177 (4, [some (.ref 162), some (.ref 170), some (.int x2), some (.int (nI i))], [], h, 198, sl) = some R → ∃ m wc, pm_run PT m fr lo 177 (24, [some (.ref 162), some (.ref 170), some (.int (v177_4 q cc gc (Ar h 170) j i x2)), wc], [], h, 198, sl) = some R := by
  intro j
  induction j with
  | zero =>
    intro i x2 h n e eI hw hh
    obtain ⟨n, hh⟩ := v177_4_e hw (by omega) (by omega) hh
    exact ⟨n, _, hh⟩
  | succ j ih =>
    intro i x2 h n e eI hw hh
    obtain ⟨n, hh⟩ := v177_4_s hw (by omega) (by omega) hh
    obtain ⟨n, wc, hh⟩ := ih (by omega) (by omega) hw hh
    exact ⟨n, wc, hh⟩
def v177 (q : QT) (cc gc : Nat) (d0 : Nat → Int32) : Int32 := (v177_4 q cc gc (d0) cc 0 (nI 0))
theorem v177_ok {n fr lo sl cc gc : Nat} {q : QT} {h : pm_H} {R : pm_Rs} (hw : HC q cc gc h) (hh : pm_run PT n fr lo 177 (0, pm_l0 [.ref 162, .ref 170] 4, [], h, 198, sl) = some R) : R = (some (.int (v177 q cc gc (Ar h 170))), h, 198, sl) := by
  have hcc := hw.cb
  have hgc := hw.gb
  have hzr := hw.zr
  obtain ⟨n, hh⟩ := rn_i rfl rfl rfl rfl hh
  obtain ⟨n, hh⟩ := rn_i rfl rfl rfl rfl hh
  obtain ⟨n, hh⟩ := rn_i rfl rfl rfl rfl hh
  obtain ⟨n, hh⟩ := rn_i rfl rfl rfl rfl hh
  have hh : pm_run PT n fr lo 177 (4, [some (.ref 162), some (.ref 170), some (.int (nI 0)), some (.int (nI 0))], [], h, 198, sl) = some R := hh
  obtain ⟨n, u1, hh⟩ := v177_4_ok  (i := 0) (x2 := (nI 0)) (j := cc) (by omega) (by omega) hw hh
  have hh : pm_run PT n fr lo 177 (24, [some (.ref 162), some (.ref 170), some (.int (v177_4 q cc gc (Ar h 170) cc 0 (nI 0))), u1], [], h, 198, sl) = some R := hh
  obtain ⟨n, hh⟩ := rn_i rfl rfl rfl rfl hh
  have hh : pm_run PT n fr lo 177 (25, [some (.ref 162), some (.ref 170), some (.int (v177_4 q cc gc (Ar h 170) cc 0 (nI 0))), u1], [.int (v177_4 q cc gc (Ar h 170) cc 0 (nI 0))], h, 198, sl) = some R := hh
  have er2 : R = (some (.int (v177_4 q cc gc (Ar h 170) cc 0 (nI 0))), h, 198, sl) := (rn_ret rfl (Or.inl rfl) hh).2
  have ed : v177 q cc gc (Ar h 170) = (v177_4 q cc gc (Ar h 170) cc 0 (nI 0)) := rfl
  rw [ed]
  exact er2
def v210_43b (q : QT) (cc gc : Nat) (h : pm_H) (t1 : Int32) (t2 : Int32) (t3 : Int32) (t4 : Int32) (i : Nat) (x5 : Int32) : Int32 × pm_H := cond (pm_cmp .ne t1 0) (cond (pm_cmp .ne t1 (nI 1)) (cond (pm_cmp .eq t1 (nI 3)) (x5 + t4, aset h 170 96 (upd (Ar h 170) i (nI 0))) (cond (pm_cmp .lt (nI i) t2) (x5 + t4, aset h 170 96 (upd (Ar h 170) i (imax (nI 0) (imin (nI 999) x5)))) (x5 + t4, aset h 170 96 (upd (Ar h 170) i (nI 0))))) (cond (pm_cmp .eq t1 (nI 3)) (x5 + t4, aset h 170 96 (upd (Ar h 170) i (nI 0))) (cond (pm_cmp .lt (nI i) t2) (x5 + t4, aset h 170 96 (upd (Ar h 170) i (imax (nI 0) (imin (nI 999) ((x5).toInt16.toInt32))))) (x5 + t4, aset h 170 96 (upd (Ar h 170) i (nI 0)))))) (cond (pm_cmp .eq t1 (nI 3)) (x5 + t4, aset h 170 96 (upd (Ar h 170) i (nI 0))) (cond (pm_cmp .lt (nI i) t2) (x5 + t4, aset h 170 96 (upd (Ar h 170) i (imax (nI 0) (imin (nI 999) ((x5).toInt8.toInt32))))) (x5 + t4, aset h 170 96 (upd (Ar h 170) i (nI 0)))))
def v210_43 (q : QT) (cc gc : Nat) (t1 : Int32) (t2 : Int32) (t3 : Int32) (t4 : Int32) (j i : Nat) (a : Int32 × pm_H) : Int32 × pm_H := lp (fun i a => v210_43b q cc gc a.2 t1 t2 t3 t4 i a.1) j i a
theorem v210_43_e {n fr lo sl cc gc : Nat} {q : QT} {h : pm_H} {R : pm_Rs} {t1 : Int32} {t2 : Int32} {t3 : Int32} {t4 : Int32} {i : Nat} {x5 : Int32} {o7 : Option Value} (hw : HC q cc gc h) (hi : cc ≤ i) (hI : i < 1000000) (hh : pm_run PT n fr lo 210 (43, [some (.ref 162), some (.int t1), some (.int t2), some (.int t3), some (.int t4), some (.int x5), some (.int (nI i)), o7], [], h, 198, sl) = some R) : ∃ m, pm_run PT m fr lo 210 (124, [some (.ref 162), some (.int t1), some (.int t2), some (.int t3), some (.int t4), some (.int x5), some (.int (nI i)), o7], [], h, 198, sl) = some R := by
  have hcc := hw.cb
  have hgc := hw.gb
  have hzr := hw.zr
  obtain ⟨n, hh⟩ := rn_i rfl rfl rfl rfl hh
  obtain ⟨n, hh⟩ := rn_i rfl rfl rfl rfl hh
  have hh : pm_run PT n fr lo 210 (46, [some (.ref 162), some (.int t1), some (.int t2), some (.int t3), some (.int t4), some (.int x5), some (.int (nI i)), o7], [.ref 162, .int (nI i)], h, 198, sl) = some R := hh
  obtain ⟨n, hh⟩ := rn_gi (x := nI cc) hw.wt rfl rfl (by decide) rfl (by decide) rfl hw.m3 hh
  have hh : pm_run PT n fr lo 210 (49, [some (.ref 162), some (.int t1), some (.int t2), some (.int t3), some (.int t4), some (.int x5), some (.int (nI i)), o7], [.int (nI cc), .int (nI i)], h, 198, sl) = some R := hh
  obtain ⟨n, hh⟩ := en_cn (cc := .ge) (off := 75) (t := 124) (b := decide (cc ≤ i)) (hI_ge (by omega) (by omega)) rfl rfl hh
  have hh := en_t (show decide (cc ≤ i) = true from decide_eq_true (by omega)) hh
  have hh : pm_run PT n fr lo 210 (124, [some (.ref 162), some (.int t1), some (.int t2), some (.int t3), some (.int t4), some (.int x5), some (.int (nI i)), o7], [], h, 198, sl) = some R := hh
  exact ⟨n, hh⟩
theorem v210_43_s {n fr lo sl cc gc : Nat} {q : QT} {h : pm_H} {R : pm_Rs} {t1 : Int32} {t2 : Int32} {t3 : Int32} {t4 : Int32} {i : Nat} {x5 : Int32} {o7 : Option Value} (hw : HC q cc gc h) (hi : i < cc) (hI : i < 1000000) (hh : pm_run PT n fr lo 210 (43, [some (.ref 162), some (.int t1), some (.int t2), some (.int t3), some (.int t4), some (.int x5), some (.int (nI i)), o7], [], h, 198, sl) = some R) : ∃ m w7, HC q cc gc ((v210_43b q cc gc h t1 t2 t3 t4 i x5).2) ∧ frm [170] [] h ((v210_43b q cc gc h t1 t2 t3 t4 i x5).2) ∧ pm_run PT m fr lo 210 (43, [some (.ref 162), some (.int t1), some (.int t2), some (.int t3), some (.int t4), some (.int ((v210_43b q cc gc h t1 t2 t3 t4 i x5).1)), some (.int (nI (i + 1))), w7], [], (v210_43b q cc gc h t1 t2 t3 t4 i x5).2, 198, sl) = some R := by
  have hcc := hw.cb
  have hgc := hw.gb
  have hzr := hw.zr
  obtain ⟨n, hh⟩ := rn_i rfl rfl rfl rfl hh
  obtain ⟨n, hh⟩ := rn_i rfl rfl rfl rfl hh
  have hh : pm_run PT n fr lo 210 (46, [some (.ref 162), some (.int t1), some (.int t2), some (.int t3), some (.int t4), some (.int x5), some (.int (nI i)), o7], [.ref 162, .int (nI i)], h, 198, sl) = some R := hh
  obtain ⟨n, hh⟩ := rn_gi (x := nI cc) hw.wt rfl rfl (by decide) rfl (by decide) rfl hw.m3 hh
  have hh : pm_run PT n fr lo 210 (49, [some (.ref 162), some (.int t1), some (.int t2), some (.int t3), some (.int t4), some (.int x5), some (.int (nI i)), o7], [.int (nI cc), .int (nI i)], h, 198, sl) = some R := hh
  obtain ⟨n, hh⟩ := en_cn (cc := .ge) (off := 75) (t := 124) (b := decide (cc ≤ i)) (hI_ge (by omega) (by omega)) rfl rfl hh
  have hh := en_f (show decide (cc ≤ i) = false from decide_eq_false (by omega)) hh
  have hh : pm_run PT n fr lo 210 (52, [some (.ref 162), some (.int t1), some (.int t2), some (.int t3), some (.int t4), some (.int x5), some (.int (nI i)), o7], [], h, 198, sl) = some R := hh
  obtain ⟨n, hh⟩ := rn_i rfl rfl rfl rfl hh
  have hh : pm_run PT n fr lo 210 (53, [some (.ref 162), some (.int t1), some (.int t2), some (.int t3), some (.int t4), some (.int x5), some (.int (nI i)), o7], [.int t1], h, 198, sl) = some R := hh
  obtain ⟨n, hh⟩ := en_zn (cc := .ne) (off := 9) (t := 62) (b := pm_cmp .ne t1 0) rfl rfl rfl hh
  cases z5 : pm_cmp .ne t1 0 with
  | true =>
    have hh := en_t z5 hh
    have hh : pm_run PT n fr lo 210 (62, [some (.ref 162), some (.int t1), some (.int t2), some (.int t3), some (.int t4), some (.int x5), some (.int (nI i)), o7], [], h, 198, sl) = some R := hh
    obtain ⟨n, hh⟩ := rn_i rfl rfl rfl rfl hh
    obtain ⟨n, hh⟩ := rn_i rfl rfl rfl rfl hh
    have hh : pm_run PT n fr lo 210 (64, [some (.ref 162), some (.int t1), some (.int t2), some (.int t3), some (.int t4), some (.int x5), some (.int (nI i)), o7], [.int (nI 1), .int t1], h, 198, sl) = some R := hh
    obtain ⟨n, hh⟩ := en_cn (cc := .ne) (off := 9) (t := 73) (b := pm_cmp .ne t1 (nI 1)) rfl rfl rfl hh
    cases z6 : pm_cmp .ne t1 (nI 1) with
    | true =>
      have hh := en_t z6 hh
      have hh : pm_run PT n fr lo 210 (73, [some (.ref 162), some (.int t1), some (.int t2), some (.int t3), some (.int t4), some (.int x5), some (.int (nI i)), o7], [], h, 198, sl) = some R := hh
      obtain ⟨n, hh⟩ := rn_i rfl rfl rfl rfl hh
      obtain ⟨n, hh⟩ := rn_i rfl rfl rfl rfl hh
      obtain ⟨n, hh⟩ := rn_i rfl rfl rfl rfl hh
      have hh : pm_run PT n fr lo 210 (78, [some (.ref 162), some (.int t1), some (.int t2), some (.int t3), some (.int t4), some (.int x5), some (.int (nI i)), some (.int x5)], [.ref 162], h, 198, sl) = some R := hh
      obtain ⟨n, hh⟩ := rn_gr hw.wt rfl rfl (by decide) rfl (by decide) (show _ = some (2, ((170 : Nat) : Int), 1) from rfl) rfl hh
      obtain ⟨n, hh⟩ := rn_i rfl rfl rfl rfl hh
      obtain ⟨n, hh⟩ := rn_i rfl rfl rfl rfl hh
      obtain ⟨n, hh⟩ := rn_i rfl rfl rfl rfl hh
      have hh : pm_run PT n fr lo 210 (85, [some (.ref 162), some (.int t1), some (.int t2), some (.int t3), some (.int t4), some (.int x5), some (.int (nI i)), some (.int x5)], [.int (nI 3), .int t1, .int (nI i), .ref 170], h, 198, sl) = some R := hh
      obtain ⟨n, hh⟩ := en_cn (cc := .eq) (off := 9) (t := 94) (b := pm_cmp .eq t1 (nI 3)) rfl rfl rfl hh
      cases z7 : pm_cmp .eq t1 (nI 3) with
      | true =>
        have hh := en_t z7 hh
        have hh : pm_run PT n fr lo 210 (94, [some (.ref 162), some (.int t1), some (.int t2), some (.int t3), some (.int t4), some (.int x5), some (.int (nI i)), some (.int x5)], [.int (nI i), .ref 170], h, 198, sl) = some R := hh
        obtain ⟨n, hh⟩ := rn_i rfl rfl rfl rfl hh
        obtain ⟨n, hh⟩ := rn_i rfl rfl rfl rfl hh
        have hh : pm_run PT n fr lo 210 (110, [some (.ref 162), some (.int t1), some (.int t2), some (.int t3), some (.int t4), some (.int x5), some (.int (nI i)), some (.int x5)], [.int (nI 0), .int (nI i), .ref 170], h, 198, sl) = some R := hh
        obtain ⟨n, hx8, hh⟩ := en_st (t := i) (f := Ar h 170) (nI_clamp (by omega)) hw.wt rfl (by decide) rfl (by decide) rfl hh
        obtain ⟨n, hh⟩ := rn_i rfl rfl rfl rfl hh
        obtain ⟨n, hh⟩ := rn_i rfl rfl rfl rfl hh
        obtain ⟨n, hh⟩ := rn_i rfl rfl rfl rfl hh
        obtain ⟨n, hh⟩ := rn_i rfl rfl rfl rfl hh
        have hh : pm_run PT n fr lo 210 (118, [some (.ref 162), some (.int t1), some (.int t2), some (.int t3), some (.int t4), some (.int (x5 + t4)), some (.int (nI i)), some (.int x5)], [], aset h 170 96 (upd (Ar h 170) i (nI 0)), 198, sl) = some R := hh
        obtain ⟨n, hh⟩ := en_inc (x := i) (c := 1) (j := 6) rfl rfl (by decide) hh
        have hh : pm_run PT n fr lo 210 (121, [some (.ref 162), some (.int t1), some (.int t2), some (.int t3), some (.int t4), some (.int (x5 + t4)), some (.int (nI (i + 1))), some (.int x5)], [], aset h 170 96 (upd (Ar h 170) i (nI 0)), 198, sl) = some R := hh
        obtain ⟨n, hh⟩ := rn_i rfl rfl rfl rfl hh
        have ed : v210_43b q cc gc h t1 t2 t3 t4 i x5 = (x5 + t4, aset h 170 96 (upd (Ar h 170) i (nI 0))) := (ct z5).trans ((ct z6).trans ((ct z7).trans rfl))
        rw [ed]
        exact ⟨n, some (.int x5), (hc_a rfl rfl hw), (fr_a rfl rfl fr_0), hh⟩
      | false =>
        have hh := en_f z7 hh
        have hh : pm_run PT n fr lo 210 (88, [some (.ref 162), some (.int t1), some (.int t2), some (.int t3), some (.int t4), some (.int x5), some (.int (nI i)), some (.int x5)], [.int (nI i), .ref 170], h, 198, sl) = some R := hh
        obtain ⟨n, hh⟩ := rn_i rfl rfl rfl rfl hh
        obtain ⟨n, hh⟩ := rn_i rfl rfl rfl rfl hh
        have hh : pm_run PT n fr lo 210 (91, [some (.ref 162), some (.int t1), some (.int t2), some (.int t3), some (.int t4), some (.int x5), some (.int (nI i)), some (.int x5)], [.int t2, .int (nI i), .int (nI i), .ref 170], h, 198, sl) = some R := hh
        obtain ⟨n, hh⟩ := en_cn (cc := .lt) (off := 7) (t := 98) (b := pm_cmp .lt (nI i) t2) rfl rfl rfl hh
        cases z9 : pm_cmp .lt (nI i) t2 with
        | true =>
          have hh := en_t z9 hh
          have hh : pm_run PT n fr lo 210 (98, [some (.ref 162), some (.int t1), some (.int t2), some (.int t3), some (.int t4), some (.int x5), some (.int (nI i)), some (.int x5)], [.int (nI i), .ref 170], h, 198, sl) = some R := hh
          obtain ⟨n, hh⟩ := rn_i rfl rfl rfl rfl hh
          obtain ⟨n, hh⟩ := rn_i rfl rfl rfl rfl hh
          obtain ⟨n, hh⟩ := rn_i rfl rfl rfl rfl hh
          have hh : pm_run PT n fr lo 210 (104, [some (.ref 162), some (.int t1), some (.int t2), some (.int t3), some (.int t4), some (.int x5), some (.int (nI i)), some (.int x5)], [.int x5, .int (nI 999), .int (nI 0), .int (nI i), .ref 170], h, 198, sl) = some R := hh
          obtain ⟨n, hh⟩ := en_min rfl rfl rfl hh
          have hh : pm_run PT n fr lo 210 (107, [some (.ref 162), some (.int t1), some (.int t2), some (.int t3), some (.int t4), some (.int x5), some (.int (nI i)), some (.int x5)], [.int (imin (nI 999) x5), .int (nI 0), .int (nI i), .ref 170], h, 198, sl) = some R := hh
          obtain ⟨n, hh⟩ := en_max rfl rfl rfl hh
          have hh : pm_run PT n fr lo 210 (110, [some (.ref 162), some (.int t1), some (.int t2), some (.int t3), some (.int t4), some (.int x5), some (.int (nI i)), some (.int x5)], [.int (imax (nI 0) (imin (nI 999) x5)), .int (nI i), .ref 170], h, 198, sl) = some R := hh
          obtain ⟨n, hx10, hh⟩ := en_st (t := i) (f := Ar h 170) (nI_clamp (by omega)) hw.wt rfl (by decide) rfl (by decide) rfl hh
          obtain ⟨n, hh⟩ := rn_i rfl rfl rfl rfl hh
          obtain ⟨n, hh⟩ := rn_i rfl rfl rfl rfl hh
          obtain ⟨n, hh⟩ := rn_i rfl rfl rfl rfl hh
          obtain ⟨n, hh⟩ := rn_i rfl rfl rfl rfl hh
          have hh : pm_run PT n fr lo 210 (118, [some (.ref 162), some (.int t1), some (.int t2), some (.int t3), some (.int t4), some (.int (x5 + t4)), some (.int (nI i)), some (.int x5)], [], aset h 170 96 (upd (Ar h 170) i (imax (nI 0) (imin (nI 999) x5))), 198, sl) = some R := hh
          obtain ⟨n, hh⟩ := en_inc (x := i) (c := 1) (j := 6) rfl rfl (by decide) hh
          have hh : pm_run PT n fr lo 210 (121, [some (.ref 162), some (.int t1), some (.int t2), some (.int t3), some (.int t4), some (.int (x5 + t4)), some (.int (nI (i + 1))), some (.int x5)], [], aset h 170 96 (upd (Ar h 170) i (imax (nI 0) (imin (nI 999) x5))), 198, sl) = some R := hh
          obtain ⟨n, hh⟩ := rn_i rfl rfl rfl rfl hh
          have ed : v210_43b q cc gc h t1 t2 t3 t4 i x5 = (x5 + t4, aset h 170 96 (upd (Ar h 170) i (imax (nI 0) (imin (nI 999) x5)))) := (ct z5).trans ((ct z6).trans ((cf z7).trans ((ct z9).trans rfl)))
          rw [ed]
          exact ⟨n, some (.int x5), (hc_a rfl rfl hw), (fr_a rfl rfl fr_0), hh⟩
        | false =>
          have hh := en_f z9 hh
          have hh : pm_run PT n fr lo 210 (94, [some (.ref 162), some (.int t1), some (.int t2), some (.int t3), some (.int t4), some (.int x5), some (.int (nI i)), some (.int x5)], [.int (nI i), .ref 170], h, 198, sl) = some R := hh
          obtain ⟨n, hh⟩ := rn_i rfl rfl rfl rfl hh
          obtain ⟨n, hh⟩ := rn_i rfl rfl rfl rfl hh
          have hh : pm_run PT n fr lo 210 (110, [some (.ref 162), some (.int t1), some (.int t2), some (.int t3), some (.int t4), some (.int x5), some (.int (nI i)), some (.int x5)], [.int (nI 0), .int (nI i), .ref 170], h, 198, sl) = some R := hh
          obtain ⟨n, hx11, hh⟩ := en_st (t := i) (f := Ar h 170) (nI_clamp (by omega)) hw.wt rfl (by decide) rfl (by decide) rfl hh
          obtain ⟨n, hh⟩ := rn_i rfl rfl rfl rfl hh
          obtain ⟨n, hh⟩ := rn_i rfl rfl rfl rfl hh
          obtain ⟨n, hh⟩ := rn_i rfl rfl rfl rfl hh
          obtain ⟨n, hh⟩ := rn_i rfl rfl rfl rfl hh
          have hh : pm_run PT n fr lo 210 (118, [some (.ref 162), some (.int t1), some (.int t2), some (.int t3), some (.int t4), some (.int (x5 + t4)), some (.int (nI i)), some (.int x5)], [], aset h 170 96 (upd (Ar h 170) i (nI 0)), 198, sl) = some R := hh
          obtain ⟨n, hh⟩ := en_inc (x := i) (c := 1) (j := 6) rfl rfl (by decide) hh
          have hh : pm_run PT n fr lo 210 (121, [some (.ref 162), some (.int t1), some (.int t2), some (.int t3), some (.int t4), some (.int (x5 + t4)), some (.int (nI (i + 1))), some (.int x5)], [], aset h 170 96 (upd (Ar h 170) i (nI 0)), 198, sl) = some R := hh
          obtain ⟨n, hh⟩ := rn_i rfl rfl rfl rfl hh
          have ed : v210_43b q cc gc h t1 t2 t3 t4 i x5 = (x5 + t4, aset h 170 96 (upd (Ar h 170) i (nI 0))) := (ct z5).trans ((ct z6).trans ((cf z7).trans ((cf z9).trans rfl)))
          rw [ed]
          exact ⟨n, some (.int x5), (hc_a rfl rfl hw), (fr_a rfl rfl fr_0), hh⟩
    | false =>
      have hh := en_f z6 hh
      have hh : pm_run PT n fr lo 210 (67, [some (.ref 162), some (.int t1), some (.int t2), some (.int t3), some (.int t4), some (.int x5), some (.int (nI i)), o7], [], h, 198, sl) = some R := hh
      obtain ⟨n, hh⟩ := rn_i rfl rfl rfl rfl hh
      obtain ⟨n, hh⟩ := rn_i rfl rfl rfl rfl hh
      obtain ⟨n, hh⟩ := rn_i rfl rfl rfl rfl hh
      obtain ⟨n, hh⟩ := rn_i rfl rfl rfl rfl hh
      obtain ⟨n, hh⟩ := rn_i rfl rfl rfl rfl hh
      have hh : pm_run PT n fr lo 210 (78, [some (.ref 162), some (.int t1), some (.int t2), some (.int t3), some (.int t4), some (.int x5), some (.int (nI i)), some (.int ((x5).toInt16.toInt32))], [.ref 162], h, 198, sl) = some R := hh
      obtain ⟨n, hh⟩ := rn_gr hw.wt rfl rfl (by decide) rfl (by decide) (show _ = some (2, ((170 : Nat) : Int), 1) from rfl) rfl hh
      obtain ⟨n, hh⟩ := rn_i rfl rfl rfl rfl hh
      obtain ⟨n, hh⟩ := rn_i rfl rfl rfl rfl hh
      obtain ⟨n, hh⟩ := rn_i rfl rfl rfl rfl hh
      have hh : pm_run PT n fr lo 210 (85, [some (.ref 162), some (.int t1), some (.int t2), some (.int t3), some (.int t4), some (.int x5), some (.int (nI i)), some (.int ((x5).toInt16.toInt32))], [.int (nI 3), .int t1, .int (nI i), .ref 170], h, 198, sl) = some R := hh
      obtain ⟨n, hh⟩ := en_cn (cc := .eq) (off := 9) (t := 94) (b := pm_cmp .eq t1 (nI 3)) rfl rfl rfl hh
      cases z12 : pm_cmp .eq t1 (nI 3) with
      | true =>
        have hh := en_t z12 hh
        have hh : pm_run PT n fr lo 210 (94, [some (.ref 162), some (.int t1), some (.int t2), some (.int t3), some (.int t4), some (.int x5), some (.int (nI i)), some (.int ((x5).toInt16.toInt32))], [.int (nI i), .ref 170], h, 198, sl) = some R := hh
        obtain ⟨n, hh⟩ := rn_i rfl rfl rfl rfl hh
        obtain ⟨n, hh⟩ := rn_i rfl rfl rfl rfl hh
        have hh : pm_run PT n fr lo 210 (110, [some (.ref 162), some (.int t1), some (.int t2), some (.int t3), some (.int t4), some (.int x5), some (.int (nI i)), some (.int ((x5).toInt16.toInt32))], [.int (nI 0), .int (nI i), .ref 170], h, 198, sl) = some R := hh
        obtain ⟨n, hx13, hh⟩ := en_st (t := i) (f := Ar h 170) (nI_clamp (by omega)) hw.wt rfl (by decide) rfl (by decide) rfl hh
        obtain ⟨n, hh⟩ := rn_i rfl rfl rfl rfl hh
        obtain ⟨n, hh⟩ := rn_i rfl rfl rfl rfl hh
        obtain ⟨n, hh⟩ := rn_i rfl rfl rfl rfl hh
        obtain ⟨n, hh⟩ := rn_i rfl rfl rfl rfl hh
        have hh : pm_run PT n fr lo 210 (118, [some (.ref 162), some (.int t1), some (.int t2), some (.int t3), some (.int t4), some (.int (x5 + t4)), some (.int (nI i)), some (.int ((x5).toInt16.toInt32))], [], aset h 170 96 (upd (Ar h 170) i (nI 0)), 198, sl) = some R := hh
        obtain ⟨n, hh⟩ := en_inc (x := i) (c := 1) (j := 6) rfl rfl (by decide) hh
        have hh : pm_run PT n fr lo 210 (121, [some (.ref 162), some (.int t1), some (.int t2), some (.int t3), some (.int t4), some (.int (x5 + t4)), some (.int (nI (i + 1))), some (.int ((x5).toInt16.toInt32))], [], aset h 170 96 (upd (Ar h 170) i (nI 0)), 198, sl) = some R := hh
        obtain ⟨n, hh⟩ := rn_i rfl rfl rfl rfl hh
        have ed : v210_43b q cc gc h t1 t2 t3 t4 i x5 = (x5 + t4, aset h 170 96 (upd (Ar h 170) i (nI 0))) := (ct z5).trans ((cf z6).trans ((ct z12).trans rfl))
        rw [ed]
        exact ⟨n, some (.int ((x5).toInt16.toInt32)), (hc_a rfl rfl hw), (fr_a rfl rfl fr_0), hh⟩
      | false =>
        have hh := en_f z12 hh
        have hh : pm_run PT n fr lo 210 (88, [some (.ref 162), some (.int t1), some (.int t2), some (.int t3), some (.int t4), some (.int x5), some (.int (nI i)), some (.int ((x5).toInt16.toInt32))], [.int (nI i), .ref 170], h, 198, sl) = some R := hh
        obtain ⟨n, hh⟩ := rn_i rfl rfl rfl rfl hh
        obtain ⟨n, hh⟩ := rn_i rfl rfl rfl rfl hh
        have hh : pm_run PT n fr lo 210 (91, [some (.ref 162), some (.int t1), some (.int t2), some (.int t3), some (.int t4), some (.int x5), some (.int (nI i)), some (.int ((x5).toInt16.toInt32))], [.int t2, .int (nI i), .int (nI i), .ref 170], h, 198, sl) = some R := hh
        obtain ⟨n, hh⟩ := en_cn (cc := .lt) (off := 7) (t := 98) (b := pm_cmp .lt (nI i) t2) rfl rfl rfl hh
        cases z14 : pm_cmp .lt (nI i) t2 with
        | true =>
          have hh := en_t z14 hh
          have hh : pm_run PT n fr lo 210 (98, [some (.ref 162), some (.int t1), some (.int t2), some (.int t3), some (.int t4), some (.int x5), some (.int (nI i)), some (.int ((x5).toInt16.toInt32))], [.int (nI i), .ref 170], h, 198, sl) = some R := hh
          obtain ⟨n, hh⟩ := rn_i rfl rfl rfl rfl hh
          obtain ⟨n, hh⟩ := rn_i rfl rfl rfl rfl hh
          obtain ⟨n, hh⟩ := rn_i rfl rfl rfl rfl hh
          have hh : pm_run PT n fr lo 210 (104, [some (.ref 162), some (.int t1), some (.int t2), some (.int t3), some (.int t4), some (.int x5), some (.int (nI i)), some (.int ((x5).toInt16.toInt32))], [.int ((x5).toInt16.toInt32), .int (nI 999), .int (nI 0), .int (nI i), .ref 170], h, 198, sl) = some R := hh
          obtain ⟨n, hh⟩ := en_min rfl rfl rfl hh
          have hh : pm_run PT n fr lo 210 (107, [some (.ref 162), some (.int t1), some (.int t2), some (.int t3), some (.int t4), some (.int x5), some (.int (nI i)), some (.int ((x5).toInt16.toInt32))], [.int (imin (nI 999) ((x5).toInt16.toInt32)), .int (nI 0), .int (nI i), .ref 170], h, 198, sl) = some R := hh
          obtain ⟨n, hh⟩ := en_max rfl rfl rfl hh
          have hh : pm_run PT n fr lo 210 (110, [some (.ref 162), some (.int t1), some (.int t2), some (.int t3), some (.int t4), some (.int x5), some (.int (nI i)), some (.int ((x5).toInt16.toInt32))], [.int (imax (nI 0) (imin (nI 999) ((x5).toInt16.toInt32))), .int (nI i), .ref 170], h, 198, sl) = some R := hh
          obtain ⟨n, hx15, hh⟩ := en_st (t := i) (f := Ar h 170) (nI_clamp (by omega)) hw.wt rfl (by decide) rfl (by decide) rfl hh
          obtain ⟨n, hh⟩ := rn_i rfl rfl rfl rfl hh
          obtain ⟨n, hh⟩ := rn_i rfl rfl rfl rfl hh
          obtain ⟨n, hh⟩ := rn_i rfl rfl rfl rfl hh
          obtain ⟨n, hh⟩ := rn_i rfl rfl rfl rfl hh
          have hh : pm_run PT n fr lo 210 (118, [some (.ref 162), some (.int t1), some (.int t2), some (.int t3), some (.int t4), some (.int (x5 + t4)), some (.int (nI i)), some (.int ((x5).toInt16.toInt32))], [], aset h 170 96 (upd (Ar h 170) i (imax (nI 0) (imin (nI 999) ((x5).toInt16.toInt32)))), 198, sl) = some R := hh
          obtain ⟨n, hh⟩ := en_inc (x := i) (c := 1) (j := 6) rfl rfl (by decide) hh
          have hh : pm_run PT n fr lo 210 (121, [some (.ref 162), some (.int t1), some (.int t2), some (.int t3), some (.int t4), some (.int (x5 + t4)), some (.int (nI (i + 1))), some (.int ((x5).toInt16.toInt32))], [], aset h 170 96 (upd (Ar h 170) i (imax (nI 0) (imin (nI 999) ((x5).toInt16.toInt32)))), 198, sl) = some R := hh
          obtain ⟨n, hh⟩ := rn_i rfl rfl rfl rfl hh
          have ed : v210_43b q cc gc h t1 t2 t3 t4 i x5 = (x5 + t4, aset h 170 96 (upd (Ar h 170) i (imax (nI 0) (imin (nI 999) ((x5).toInt16.toInt32))))) := (ct z5).trans ((cf z6).trans ((cf z12).trans ((ct z14).trans rfl)))
          rw [ed]
          exact ⟨n, some (.int ((x5).toInt16.toInt32)), (hc_a rfl rfl hw), (fr_a rfl rfl fr_0), hh⟩
        | false =>
          have hh := en_f z14 hh
          have hh : pm_run PT n fr lo 210 (94, [some (.ref 162), some (.int t1), some (.int t2), some (.int t3), some (.int t4), some (.int x5), some (.int (nI i)), some (.int ((x5).toInt16.toInt32))], [.int (nI i), .ref 170], h, 198, sl) = some R := hh
          obtain ⟨n, hh⟩ := rn_i rfl rfl rfl rfl hh
          obtain ⟨n, hh⟩ := rn_i rfl rfl rfl rfl hh
          have hh : pm_run PT n fr lo 210 (110, [some (.ref 162), some (.int t1), some (.int t2), some (.int t3), some (.int t4), some (.int x5), some (.int (nI i)), some (.int ((x5).toInt16.toInt32))], [.int (nI 0), .int (nI i), .ref 170], h, 198, sl) = some R := hh
          obtain ⟨n, hx16, hh⟩ := en_st (t := i) (f := Ar h 170) (nI_clamp (by omega)) hw.wt rfl (by decide) rfl (by decide) rfl hh
          obtain ⟨n, hh⟩ := rn_i rfl rfl rfl rfl hh
          obtain ⟨n, hh⟩ := rn_i rfl rfl rfl rfl hh
          obtain ⟨n, hh⟩ := rn_i rfl rfl rfl rfl hh
          obtain ⟨n, hh⟩ := rn_i rfl rfl rfl rfl hh
          have hh : pm_run PT n fr lo 210 (118, [some (.ref 162), some (.int t1), some (.int t2), some (.int t3), some (.int t4), some (.int (x5 + t4)), some (.int (nI i)), some (.int ((x5).toInt16.toInt32))], [], aset h 170 96 (upd (Ar h 170) i (nI 0)), 198, sl) = some R := hh
          obtain ⟨n, hh⟩ := en_inc (x := i) (c := 1) (j := 6) rfl rfl (by decide) hh
          have hh : pm_run PT n fr lo 210 (121, [some (.ref 162), some (.int t1), some (.int t2), some (.int t3), some (.int t4), some (.int (x5 + t4)), some (.int (nI (i + 1))), some (.int ((x5).toInt16.toInt32))], [], aset h 170 96 (upd (Ar h 170) i (nI 0)), 198, sl) = some R := hh
          obtain ⟨n, hh⟩ := rn_i rfl rfl rfl rfl hh
          have ed : v210_43b q cc gc h t1 t2 t3 t4 i x5 = (x5 + t4, aset h 170 96 (upd (Ar h 170) i (nI 0))) := (ct z5).trans ((cf z6).trans ((cf z12).trans ((cf z14).trans rfl)))
          rw [ed]
          exact ⟨n, some (.int ((x5).toInt16.toInt32)), (hc_a rfl rfl hw), (fr_a rfl rfl fr_0), hh⟩
  | false =>
    have hh := en_f z5 hh
    have hh : pm_run PT n fr lo 210 (56, [some (.ref 162), some (.int t1), some (.int t2), some (.int t3), some (.int t4), some (.int x5), some (.int (nI i)), o7], [], h, 198, sl) = some R := hh
    obtain ⟨n, hh⟩ := rn_i rfl rfl rfl rfl hh
    obtain ⟨n, hh⟩ := rn_i rfl rfl rfl rfl hh
    obtain ⟨n, hh⟩ := rn_i rfl rfl rfl rfl hh
    obtain ⟨n, hh⟩ := rn_i rfl rfl rfl rfl hh
    obtain ⟨n, hh⟩ := rn_i rfl rfl rfl rfl hh
    have hh : pm_run PT n fr lo 210 (78, [some (.ref 162), some (.int t1), some (.int t2), some (.int t3), some (.int t4), some (.int x5), some (.int (nI i)), some (.int ((x5).toInt8.toInt32))], [.ref 162], h, 198, sl) = some R := hh
    obtain ⟨n, hh⟩ := rn_gr hw.wt rfl rfl (by decide) rfl (by decide) (show _ = some (2, ((170 : Nat) : Int), 1) from rfl) rfl hh
    obtain ⟨n, hh⟩ := rn_i rfl rfl rfl rfl hh
    obtain ⟨n, hh⟩ := rn_i rfl rfl rfl rfl hh
    obtain ⟨n, hh⟩ := rn_i rfl rfl rfl rfl hh
    have hh : pm_run PT n fr lo 210 (85, [some (.ref 162), some (.int t1), some (.int t2), some (.int t3), some (.int t4), some (.int x5), some (.int (nI i)), some (.int ((x5).toInt8.toInt32))], [.int (nI 3), .int t1, .int (nI i), .ref 170], h, 198, sl) = some R := hh
    obtain ⟨n, hh⟩ := en_cn (cc := .eq) (off := 9) (t := 94) (b := pm_cmp .eq t1 (nI 3)) rfl rfl rfl hh
    cases z17 : pm_cmp .eq t1 (nI 3) with
    | true =>
      have hh := en_t z17 hh
      have hh : pm_run PT n fr lo 210 (94, [some (.ref 162), some (.int t1), some (.int t2), some (.int t3), some (.int t4), some (.int x5), some (.int (nI i)), some (.int ((x5).toInt8.toInt32))], [.int (nI i), .ref 170], h, 198, sl) = some R := hh
      obtain ⟨n, hh⟩ := rn_i rfl rfl rfl rfl hh
      obtain ⟨n, hh⟩ := rn_i rfl rfl rfl rfl hh
      have hh : pm_run PT n fr lo 210 (110, [some (.ref 162), some (.int t1), some (.int t2), some (.int t3), some (.int t4), some (.int x5), some (.int (nI i)), some (.int ((x5).toInt8.toInt32))], [.int (nI 0), .int (nI i), .ref 170], h, 198, sl) = some R := hh
      obtain ⟨n, hx18, hh⟩ := en_st (t := i) (f := Ar h 170) (nI_clamp (by omega)) hw.wt rfl (by decide) rfl (by decide) rfl hh
      obtain ⟨n, hh⟩ := rn_i rfl rfl rfl rfl hh
      obtain ⟨n, hh⟩ := rn_i rfl rfl rfl rfl hh
      obtain ⟨n, hh⟩ := rn_i rfl rfl rfl rfl hh
      obtain ⟨n, hh⟩ := rn_i rfl rfl rfl rfl hh
      have hh : pm_run PT n fr lo 210 (118, [some (.ref 162), some (.int t1), some (.int t2), some (.int t3), some (.int t4), some (.int (x5 + t4)), some (.int (nI i)), some (.int ((x5).toInt8.toInt32))], [], aset h 170 96 (upd (Ar h 170) i (nI 0)), 198, sl) = some R := hh
      obtain ⟨n, hh⟩ := en_inc (x := i) (c := 1) (j := 6) rfl rfl (by decide) hh
      have hh : pm_run PT n fr lo 210 (121, [some (.ref 162), some (.int t1), some (.int t2), some (.int t3), some (.int t4), some (.int (x5 + t4)), some (.int (nI (i + 1))), some (.int ((x5).toInt8.toInt32))], [], aset h 170 96 (upd (Ar h 170) i (nI 0)), 198, sl) = some R := hh
      obtain ⟨n, hh⟩ := rn_i rfl rfl rfl rfl hh
      have ed : v210_43b q cc gc h t1 t2 t3 t4 i x5 = (x5 + t4, aset h 170 96 (upd (Ar h 170) i (nI 0))) := (cf z5).trans ((ct z17).trans rfl)
      rw [ed]
      exact ⟨n, some (.int ((x5).toInt8.toInt32)), (hc_a rfl rfl hw), (fr_a rfl rfl fr_0), hh⟩
    | false =>
      have hh := en_f z17 hh
      have hh : pm_run PT n fr lo 210 (88, [some (.ref 162), some (.int t1), some (.int t2), some (.int t3), some (.int t4), some (.int x5), some (.int (nI i)), some (.int ((x5).toInt8.toInt32))], [.int (nI i), .ref 170], h, 198, sl) = some R := hh
      obtain ⟨n, hh⟩ := rn_i rfl rfl rfl rfl hh
      obtain ⟨n, hh⟩ := rn_i rfl rfl rfl rfl hh
      have hh : pm_run PT n fr lo 210 (91, [some (.ref 162), some (.int t1), some (.int t2), some (.int t3), some (.int t4), some (.int x5), some (.int (nI i)), some (.int ((x5).toInt8.toInt32))], [.int t2, .int (nI i), .int (nI i), .ref 170], h, 198, sl) = some R := hh
      obtain ⟨n, hh⟩ := en_cn (cc := .lt) (off := 7) (t := 98) (b := pm_cmp .lt (nI i) t2) rfl rfl rfl hh
      cases z19 : pm_cmp .lt (nI i) t2 with
      | true =>
        have hh := en_t z19 hh
        have hh : pm_run PT n fr lo 210 (98, [some (.ref 162), some (.int t1), some (.int t2), some (.int t3), some (.int t4), some (.int x5), some (.int (nI i)), some (.int ((x5).toInt8.toInt32))], [.int (nI i), .ref 170], h, 198, sl) = some R := hh
        obtain ⟨n, hh⟩ := rn_i rfl rfl rfl rfl hh
        obtain ⟨n, hh⟩ := rn_i rfl rfl rfl rfl hh
        obtain ⟨n, hh⟩ := rn_i rfl rfl rfl rfl hh
        have hh : pm_run PT n fr lo 210 (104, [some (.ref 162), some (.int t1), some (.int t2), some (.int t3), some (.int t4), some (.int x5), some (.int (nI i)), some (.int ((x5).toInt8.toInt32))], [.int ((x5).toInt8.toInt32), .int (nI 999), .int (nI 0), .int (nI i), .ref 170], h, 198, sl) = some R := hh
        obtain ⟨n, hh⟩ := en_min rfl rfl rfl hh
        have hh : pm_run PT n fr lo 210 (107, [some (.ref 162), some (.int t1), some (.int t2), some (.int t3), some (.int t4), some (.int x5), some (.int (nI i)), some (.int ((x5).toInt8.toInt32))], [.int (imin (nI 999) ((x5).toInt8.toInt32)), .int (nI 0), .int (nI i), .ref 170], h, 198, sl) = some R := hh
        obtain ⟨n, hh⟩ := en_max rfl rfl rfl hh
        have hh : pm_run PT n fr lo 210 (110, [some (.ref 162), some (.int t1), some (.int t2), some (.int t3), some (.int t4), some (.int x5), some (.int (nI i)), some (.int ((x5).toInt8.toInt32))], [.int (imax (nI 0) (imin (nI 999) ((x5).toInt8.toInt32))), .int (nI i), .ref 170], h, 198, sl) = some R := hh
        obtain ⟨n, hx20, hh⟩ := en_st (t := i) (f := Ar h 170) (nI_clamp (by omega)) hw.wt rfl (by decide) rfl (by decide) rfl hh
        obtain ⟨n, hh⟩ := rn_i rfl rfl rfl rfl hh
        obtain ⟨n, hh⟩ := rn_i rfl rfl rfl rfl hh
        obtain ⟨n, hh⟩ := rn_i rfl rfl rfl rfl hh
        obtain ⟨n, hh⟩ := rn_i rfl rfl rfl rfl hh
        have hh : pm_run PT n fr lo 210 (118, [some (.ref 162), some (.int t1), some (.int t2), some (.int t3), some (.int t4), some (.int (x5 + t4)), some (.int (nI i)), some (.int ((x5).toInt8.toInt32))], [], aset h 170 96 (upd (Ar h 170) i (imax (nI 0) (imin (nI 999) ((x5).toInt8.toInt32)))), 198, sl) = some R := hh
        obtain ⟨n, hh⟩ := en_inc (x := i) (c := 1) (j := 6) rfl rfl (by decide) hh
        have hh : pm_run PT n fr lo 210 (121, [some (.ref 162), some (.int t1), some (.int t2), some (.int t3), some (.int t4), some (.int (x5 + t4)), some (.int (nI (i + 1))), some (.int ((x5).toInt8.toInt32))], [], aset h 170 96 (upd (Ar h 170) i (imax (nI 0) (imin (nI 999) ((x5).toInt8.toInt32)))), 198, sl) = some R := hh
        obtain ⟨n, hh⟩ := rn_i rfl rfl rfl rfl hh
        have ed : v210_43b q cc gc h t1 t2 t3 t4 i x5 = (x5 + t4, aset h 170 96 (upd (Ar h 170) i (imax (nI 0) (imin (nI 999) ((x5).toInt8.toInt32))))) := (cf z5).trans ((cf z17).trans ((ct z19).trans rfl))
        rw [ed]
        exact ⟨n, some (.int ((x5).toInt8.toInt32)), (hc_a rfl rfl hw), (fr_a rfl rfl fr_0), hh⟩
      | false =>
        have hh := en_f z19 hh
        have hh : pm_run PT n fr lo 210 (94, [some (.ref 162), some (.int t1), some (.int t2), some (.int t3), some (.int t4), some (.int x5), some (.int (nI i)), some (.int ((x5).toInt8.toInt32))], [.int (nI i), .ref 170], h, 198, sl) = some R := hh
        obtain ⟨n, hh⟩ := rn_i rfl rfl rfl rfl hh
        obtain ⟨n, hh⟩ := rn_i rfl rfl rfl rfl hh
        have hh : pm_run PT n fr lo 210 (110, [some (.ref 162), some (.int t1), some (.int t2), some (.int t3), some (.int t4), some (.int x5), some (.int (nI i)), some (.int ((x5).toInt8.toInt32))], [.int (nI 0), .int (nI i), .ref 170], h, 198, sl) = some R := hh
        obtain ⟨n, hx21, hh⟩ := en_st (t := i) (f := Ar h 170) (nI_clamp (by omega)) hw.wt rfl (by decide) rfl (by decide) rfl hh
        obtain ⟨n, hh⟩ := rn_i rfl rfl rfl rfl hh
        obtain ⟨n, hh⟩ := rn_i rfl rfl rfl rfl hh
        obtain ⟨n, hh⟩ := rn_i rfl rfl rfl rfl hh
        obtain ⟨n, hh⟩ := rn_i rfl rfl rfl rfl hh
        have hh : pm_run PT n fr lo 210 (118, [some (.ref 162), some (.int t1), some (.int t2), some (.int t3), some (.int t4), some (.int (x5 + t4)), some (.int (nI i)), some (.int ((x5).toInt8.toInt32))], [], aset h 170 96 (upd (Ar h 170) i (nI 0)), 198, sl) = some R := hh
        obtain ⟨n, hh⟩ := en_inc (x := i) (c := 1) (j := 6) rfl rfl (by decide) hh
        have hh : pm_run PT n fr lo 210 (121, [some (.ref 162), some (.int t1), some (.int t2), some (.int t3), some (.int t4), some (.int (x5 + t4)), some (.int (nI (i + 1))), some (.int ((x5).toInt8.toInt32))], [], aset h 170 96 (upd (Ar h 170) i (nI 0)), 198, sl) = some R := hh
        obtain ⟨n, hh⟩ := rn_i rfl rfl rfl rfl hh
        have ed : v210_43b q cc gc h t1 t2 t3 t4 i x5 = (x5 + t4, aset h 170 96 (upd (Ar h 170) i (nI 0))) := (cf z5).trans ((cf z17).trans ((cf z19).trans rfl))
        rw [ed]
        exact ⟨n, some (.int ((x5).toInt8.toInt32)), (hc_a rfl rfl hw), (fr_a rfl rfl fr_0), hh⟩
theorem v210_43_ok {fr lo sl cc gc : Nat} {q : QT} {R : pm_Rs} {t1 : Int32} {t2 : Int32} {t3 : Int32} {t4 : Int32} : ∀ {j i : Nat} {x5 : Int32} {o7 : Option Value} {h : pm_H} {n : Nat}, cc - i = j → i + j < 1000000 → HC q cc gc h → pm_run PT n fr lo 210 (43, [some (.ref 162), some (.int t1), some (.int t2), some (.int t3), some (.int t4), some (.int x5), some (.int (nI i)), o7], [], h, 198, sl) = some R → ∃ m wc w7, HC q cc gc ((v210_43 q cc gc t1 t2 t3 t4 j i (x5, h)).2) ∧ frm [170] [] h ((v210_43 q cc gc t1 t2 t3 t4 j i (x5, h)).2) ∧ pm_run PT m fr lo 210 (124, [some (.ref 162), some (.int t1), some (.int t2), some (.int t3), some (.int t4), some (.int ((v210_43 q cc gc t1 t2 t3 t4 j i (x5, h)).1)), wc, w7], [], (v210_43 q cc gc t1 t2 t3 t4 j i (x5, h)).2, 198, sl) = some R := by
  intro j
  induction j with
  | zero =>
    intro i x5 o7 h n e eI hw hh
    obtain ⟨n, hh⟩ := v210_43_e hw (by omega) (by omega) hh
    exact ⟨n, _, o7, hw, fr_0, hh⟩
  | succ j ih =>
    intro i x5 o7 h n e eI hw hh
    obtain ⟨n, w7, hc, hf, hh⟩ := v210_43_s hw (by omega) (by omega) hh
    obtain ⟨n, wc, v7, hc2, hf2, hh⟩ := ih (by omega) (by omega) hc hh
    exact ⟨n, wc, v7, hc2, fr_t hf2 hf, hh⟩
theorem v210_43_fb {cc gc : Nat} {q : QT} {h : pm_H} {t1 : Int32} {t2 : Int32} {t3 : Int32} {t4 : Int32} {i : Nat} {x5 : Int32} (hw : HC q cc gc h) : HC q cc gc ((v210_43b q cc gc h t1 t2 t3 t4 i x5).2) ∧ frm [170] [] h ((v210_43b q cc gc h t1 t2 t3 t4 i x5).2) := by
  unfold v210_43b
  refine cd_s (P := fun (p : Int32 × pm_H) => HC q cc gc ((p).2) ∧ frm [170] [] h ((p).2)) (b := pm_cmp .ne t1 0) (fun _ => ?_) (fun _ => ?_)
  · refine cd_s (P := fun (p : Int32 × pm_H) => HC q cc gc ((p).2) ∧ frm [170] [] h ((p).2)) (b := pm_cmp .ne t1 (nI 1)) (fun _ => ?_) (fun _ => ?_)
    · refine cd_s (P := fun (p : Int32 × pm_H) => HC q cc gc ((p).2) ∧ frm [170] [] h ((p).2)) (b := pm_cmp .eq t1 (nI 3)) (fun _ => ?_) (fun _ => ?_)
      · show HC q cc gc (aset h 170 96 (upd (Ar h 170) i (nI 0))) ∧ frm [170] [] h (aset h 170 96 (upd (Ar h 170) i (nI 0)))
        exact ⟨(hc_a rfl rfl hw), (fr_a rfl rfl fr_0)⟩
      · refine cd_s (P := fun (p : Int32 × pm_H) => HC q cc gc ((p).2) ∧ frm [170] [] h ((p).2)) (b := pm_cmp .lt (nI i) t2) (fun _ => ?_) (fun _ => ?_)
        · show HC q cc gc (aset h 170 96 (upd (Ar h 170) i (imax (nI 0) (imin (nI 999) x5)))) ∧ frm [170] [] h (aset h 170 96 (upd (Ar h 170) i (imax (nI 0) (imin (nI 999) x5))))
          exact ⟨(hc_a rfl rfl hw), (fr_a rfl rfl fr_0)⟩
        · show HC q cc gc (aset h 170 96 (upd (Ar h 170) i (nI 0))) ∧ frm [170] [] h (aset h 170 96 (upd (Ar h 170) i (nI 0)))
          exact ⟨(hc_a rfl rfl hw), (fr_a rfl rfl fr_0)⟩
    · refine cd_s (P := fun (p : Int32 × pm_H) => HC q cc gc ((p).2) ∧ frm [170] [] h ((p).2)) (b := pm_cmp .eq t1 (nI 3)) (fun _ => ?_) (fun _ => ?_)
      · show HC q cc gc (aset h 170 96 (upd (Ar h 170) i (nI 0))) ∧ frm [170] [] h (aset h 170 96 (upd (Ar h 170) i (nI 0)))
        exact ⟨(hc_a rfl rfl hw), (fr_a rfl rfl fr_0)⟩
      · refine cd_s (P := fun (p : Int32 × pm_H) => HC q cc gc ((p).2) ∧ frm [170] [] h ((p).2)) (b := pm_cmp .lt (nI i) t2) (fun _ => ?_) (fun _ => ?_)
        · show HC q cc gc (aset h 170 96 (upd (Ar h 170) i (imax (nI 0) (imin (nI 999) ((x5).toInt16.toInt32))))) ∧ frm [170] [] h (aset h 170 96 (upd (Ar h 170) i (imax (nI 0) (imin (nI 999) ((x5).toInt16.toInt32)))))
          exact ⟨(hc_a rfl rfl hw), (fr_a rfl rfl fr_0)⟩
        · show HC q cc gc (aset h 170 96 (upd (Ar h 170) i (nI 0))) ∧ frm [170] [] h (aset h 170 96 (upd (Ar h 170) i (nI 0)))
          exact ⟨(hc_a rfl rfl hw), (fr_a rfl rfl fr_0)⟩
  · refine cd_s (P := fun (p : Int32 × pm_H) => HC q cc gc ((p).2) ∧ frm [170] [] h ((p).2)) (b := pm_cmp .eq t1 (nI 3)) (fun _ => ?_) (fun _ => ?_)
    · show HC q cc gc (aset h 170 96 (upd (Ar h 170) i (nI 0))) ∧ frm [170] [] h (aset h 170 96 (upd (Ar h 170) i (nI 0)))
      exact ⟨(hc_a rfl rfl hw), (fr_a rfl rfl fr_0)⟩
    · refine cd_s (P := fun (p : Int32 × pm_H) => HC q cc gc ((p).2) ∧ frm [170] [] h ((p).2)) (b := pm_cmp .lt (nI i) t2) (fun _ => ?_) (fun _ => ?_)
      · show HC q cc gc (aset h 170 96 (upd (Ar h 170) i (imax (nI 0) (imin (nI 999) ((x5).toInt8.toInt32))))) ∧ frm [170] [] h (aset h 170 96 (upd (Ar h 170) i (imax (nI 0) (imin (nI 999) ((x5).toInt8.toInt32)))))
        exact ⟨(hc_a rfl rfl hw), (fr_a rfl rfl fr_0)⟩
      · show HC q cc gc (aset h 170 96 (upd (Ar h 170) i (nI 0))) ∧ frm [170] [] h (aset h 170 96 (upd (Ar h 170) i (nI 0)))
        exact ⟨(hc_a rfl rfl hw), (fr_a rfl rfl fr_0)⟩
theorem v210_43_fr {cc gc : Nat} {q : QT} {t1 : Int32} {t2 : Int32} {t3 : Int32} {t4 : Int32} : ∀ {j i : Nat} {x5 : Int32} {h : pm_H}, HC q cc gc h → HC q cc gc ((v210_43 q cc gc t1 t2 t3 t4 j i (x5, h)).2) ∧ frm [170] [] h ((v210_43 q cc gc t1 t2 t3 t4 j i (x5, h)).2) := by
  intro j
  induction j with
  | zero =>
    intro i x5 h hw
    exact ⟨hw, fr_0⟩
  | succ j ih =>
    intro i x5 h hw
    obtain ⟨a1, a2⟩ := v210_43_fb (i := i) (t1 := t1) (t2 := t2) (t3 := t3) (t4 := t4) (x5 := x5) hw
    obtain ⟨b1, b2⟩ := ih (i := i + 1) a1
    exact ⟨b1, fr_t b2 a2⟩
def v210 (q : QT) (cc gc : Nat) (h : pm_H) (k : Int32) (m : Int32) (e : Int32) (s : Int32) : Int32 × pm_H := cond (in_b ((k).toInt64) (Int64.ofNat 0) (3 : Int64)) (cond (pm_cmp .le m (nI 6)) (cond (pm_cmp .eq k (nI 3)) (cond (pm_cmp .ne k (nI 3)) (v177 q cc gc (Ar ((v210_43 q cc gc k m e s cc 0 (e, fset h 162 0 (.int (nI 0)))).2) 170), (v210_43 q cc gc k m e s cc 0 (e, fset h 162 0 (.int (nI 0)))).2) ((Int32.ofInt (-3)), (v210_43 q cc gc k m e s cc 0 (e, fset h 162 0 (.int (nI 0)))).2)) (cond (pm_cmp .ge m 0) (cond (pm_cmp .ne k (nI 3)) (v177 q cc gc (Ar ((v210_43 q cc gc k m e s cc 0 (e, fset h 162 0 (.int (nI 0)))).2) 170), (v210_43 q cc gc k m e s cc 0 (e, fset h 162 0 (.int (nI 0)))).2) ((Int32.ofInt (-3)), (v210_43 q cc gc k m e s cc 0 (e, fset h 162 0 (.int (nI 0)))).2)) ((Int32.ofInt (-2)), fset h 162 0 (.int (nI 0))))) ((Int32.ofInt (-1)), fset h 162 0 (.int (nI 0)))) ((Int32.ofInt (-1)), fset h 162 0 (.int (nI 0)))
theorem v210_ok {n fr lo sl cc gc : Nat} {q : QT} {h : pm_H} {R : pm_Rs} {k : Int32} {m : Int32} {e : Int32} {s : Int32} (hw : HC q cc gc h) (hh : pm_run PT n fr lo 210 (0, pm_l0 [.ref 162, .int k, .int m, .int e, .int s] 8, [], h, 198, sl) = some R) : R = (some (.int ((v210 q cc gc h k m e s).1)), (v210 q cc gc h k m e s).2, 198, sl) ∧ HC q cc gc ((v210 q cc gc h k m e s).2) ∧ frm [162, 170] [(162, 0)] h ((v210 q cc gc h k m e s).2) := by
  have hcc := hw.cb
  have hgc := hw.gb
  have hzr := hw.zr
  obtain ⟨n, hh⟩ := rn_i rfl rfl rfl rfl hh
  obtain ⟨n, hh⟩ := rn_i rfl rfl rfl rfl hh
  have hh : pm_run PT n fr lo 210 (2, [some (.ref 162), some (.int k), some (.int m), some (.int e), some (.int s), none, none, none], [.int (nI 0), .ref 162], h, 198, sl) = some R := hh
  obtain ⟨n, hh⟩ := rn_pi hw.wt rfl rfl (by decide) rfl (by decide) rfl hh
  obtain ⟨n, hh⟩ := rn_i rfl rfl rfl rfl hh
  obtain ⟨n, hh⟩ := rn_i rfl rfl rfl rfl hh
  obtain ⟨n, hh⟩ := rn_i rfl rfl rfl rfl hh
  obtain ⟨n, hh⟩ := rn_i rfl rfl rfl rfl hh
  have hh : pm_run PT n fr lo 210 (11, [some (.ref 162), some (.int k), some (.int m), some (.int e), some (.int s), none, none, none], [.long (3 : Int64), .long (Int64.ofNat 0), .long ((k).toInt64)], fset h 162 0 (.int (nI 0)), 198, sl) = some R := hh
  obtain ⟨n, fr1, lo1, r1, hh1, hh⟩ := rn_call (w := 2) (t := 163) rfl rfl hh
  have er1 := rn_dt (F := 10) (Lo := 1000) (hd_in (fr := 10) (lo := 1000) (h := fset h 162 0 (.int (nI 0))) (sl := sl) ((k).toInt64) (Int64.ofNat 0) (3 : Int64)) hh1
  subst er1
  have hh : pm_run PT n fr lo 210 (14, [some (.ref 162), some (.int k), some (.int m), some (.int e), some (.int s), none, none, none], [.int (cond (in_b ((k).toInt64) (Int64.ofNat 0) (3 : Int64)) 1 0)], fset h 162 0 (.int (nI 0)), 198, sl) = some R := hh
  obtain ⟨n, hh⟩ := en_zn (cc := .eq) (off := 9) (t := 23) (b := !(in_b ((k).toInt64) (Int64.ofNat 0) (3 : Int64))) eb_eq rfl rfl hh
  cases z2 : in_b ((k).toInt64) (Int64.ofNat 0) (3 : Int64) with
  | true =>
    have hh := en_nt z2 hh
    have hh : pm_run PT n fr lo 210 (17, [some (.ref 162), some (.int k), some (.int m), some (.int e), some (.int s), none, none, none], [], fset h 162 0 (.int (nI 0)), 198, sl) = some R := hh
    obtain ⟨n, hh⟩ := rn_i rfl rfl rfl rfl hh
    obtain ⟨n, hh⟩ := rn_i rfl rfl rfl rfl hh
    have hh : pm_run PT n fr lo 210 (20, [some (.ref 162), some (.int k), some (.int m), some (.int e), some (.int s), none, none, none], [.int (nI 6), .int m], fset h 162 0 (.int (nI 0)), 198, sl) = some R := hh
    obtain ⟨n, hh⟩ := en_cn (cc := .le) (off := 5) (t := 25) (b := pm_cmp .le m (nI 6)) rfl rfl rfl hh
    cases z3 : pm_cmp .le m (nI 6) with
    | true =>
      have hh := en_t z3 hh
      have hh : pm_run PT n fr lo 210 (25, [some (.ref 162), some (.int k), some (.int m), some (.int e), some (.int s), none, none, none], [], fset h 162 0 (.int (nI 0)), 198, sl) = some R := hh
      obtain ⟨n, hh⟩ := rn_i rfl rfl rfl rfl hh
      obtain ⟨n, hh⟩ := rn_i rfl rfl rfl rfl hh
      have hh : pm_run PT n fr lo 210 (27, [some (.ref 162), some (.int k), some (.int m), some (.int e), some (.int s), none, none, none], [.int (nI 3), .int k], fset h 162 0 (.int (nI 0)), 198, sl) = some R := hh
      obtain ⟨n, hh⟩ := en_cn (cc := .eq) (off := 10) (t := 37) (b := pm_cmp .eq k (nI 3)) rfl rfl rfl hh
      cases z4 : pm_cmp .eq k (nI 3) with
      | true =>
        have hh := en_t z4 hh
        have hh : pm_run PT n fr lo 210 (37, [some (.ref 162), some (.int k), some (.int m), some (.int e), some (.int s), none, none, none], [], fset h 162 0 (.int (nI 0)), 198, sl) = some R := hh
        obtain ⟨n, hh⟩ := rn_i rfl rfl rfl rfl hh
        obtain ⟨n, hh⟩ := rn_i rfl rfl rfl rfl hh
        obtain ⟨n, hh⟩ := rn_i rfl rfl rfl rfl hh
        obtain ⟨n, hh⟩ := rn_i rfl rfl rfl rfl hh
        have hh : pm_run PT n fr lo 210 (43, [some (.ref 162), some (.int k), some (.int m), some (.int e), some (.int s), some (.int e), some (.int (nI 0)), none], [], fset h 162 0 (.int (nI 0)), 198, sl) = some R := hh
        obtain ⟨n, u6, u5, hc7, hf8, hh⟩ := v210_43_ok (t1 := k) (t2 := m) (t3 := e) (t4 := s)  (i := 0) (x5 := e) (o7 := none) (j := cc) (by omega) (by omega) (hc_f rfl rfl (by decide) rfl hw) hh
        have hh : pm_run PT n fr lo 210 (124, [some (.ref 162), some (.int k), some (.int m), some (.int e), some (.int s), some (.int ((v210_43 q cc gc k m e s cc 0 (e, fset h 162 0 (.int (nI 0)))).1)), u6, u5], [], (v210_43 q cc gc k m e s cc 0 (e, fset h 162 0 (.int (nI 0)))).2, 198, sl) = some R := hh
        obtain ⟨n, hh⟩ := rn_i rfl rfl rfl rfl hh
        obtain ⟨n, hh⟩ := rn_i rfl rfl rfl rfl hh
        have hh : pm_run PT n fr lo 210 (126, [some (.ref 162), some (.int k), some (.int m), some (.int e), some (.int s), some (.int ((v210_43 q cc gc k m e s cc 0 (e, fset h 162 0 (.int (nI 0)))).1)), u6, u5], [.int (nI 3), .int k], (v210_43 q cc gc k m e s cc 0 (e, fset h 162 0 (.int (nI 0)))).2, 198, sl) = some R := hh
        obtain ⟨n, hh⟩ := en_cn (cc := .ne) (off := 8) (t := 134) (b := pm_cmp .ne k (nI 3)) rfl rfl rfl hh
        cases z9 : pm_cmp .ne k (nI 3) with
        | true =>
          have hh := en_t z9 hh
          have hh : pm_run PT n fr lo 210 (134, [some (.ref 162), some (.int k), some (.int m), some (.int e), some (.int s), some (.int ((v210_43 q cc gc k m e s cc 0 (e, fset h 162 0 (.int (nI 0)))).1)), u6, u5], [], (v210_43 q cc gc k m e s cc 0 (e, fset h 162 0 (.int (nI 0)))).2, 198, sl) = some R := hh
          obtain ⟨n, hh⟩ := rn_i rfl rfl rfl rfl hh
          obtain ⟨n, hh⟩ := rn_i rfl rfl rfl rfl hh
          have hh : pm_run PT n fr lo 210 (136, [some (.ref 162), some (.int k), some (.int m), some (.int e), some (.int s), some (.int ((v210_43 q cc gc k m e s cc 0 (e, fset h 162 0 (.int (nI 0)))).1)), u6, u5], [.ref 162, .ref 162], (v210_43 q cc gc k m e s cc 0 (e, fset h 162 0 (.int (nI 0)))).2, 198, sl) = some R := hh
          obtain ⟨n, hh⟩ := rn_gr hc7.wt rfl rfl (by decide) rfl (by decide) (show _ = some (2, ((170 : Nat) : Int), 1) from rfl) rfl hh
          have hh : pm_run PT n fr lo 210 (139, [some (.ref 162), some (.int k), some (.int m), some (.int e), some (.int s), some (.int ((v210_43 q cc gc k m e s cc 0 (e, fset h 162 0 (.int (nI 0)))).1)), u6, u5], [.ref 170, .ref 162], (v210_43 q cc gc k m e s cc 0 (e, fset h 162 0 (.int (nI 0)))).2, 198, sl) = some R := hh
          obtain ⟨n, fr1, lo1, r1, hh1, hh⟩ := rn_call (w := 0) (t := 177) rfl rfl hh
          have er10 := v177_ok hc7 hh1
          subst er10
          have hh : pm_run PT n fr lo 210 (142, [some (.ref 162), some (.int k), some (.int m), some (.int e), some (.int s), some (.int ((v210_43 q cc gc k m e s cc 0 (e, fset h 162 0 (.int (nI 0)))).1)), u6, u5], [.int (v177 q cc gc (Ar ((v210_43 q cc gc k m e s cc 0 (e, fset h 162 0 (.int (nI 0)))).2) 170))], (v210_43 q cc gc k m e s cc 0 (e, fset h 162 0 (.int (nI 0)))).2, 198, sl) = some R := hh
          have er11 : R = (some (.int (v177 q cc gc (Ar ((v210_43 q cc gc k m e s cc 0 (e, fset h 162 0 (.int (nI 0)))).2) 170))), (v210_43 q cc gc k m e s cc 0 (e, fset h 162 0 (.int (nI 0)))).2, 198, sl) := (rn_ret rfl (Or.inl rfl) hh).2
          have ed : v210 q cc gc h k m e s = (v177 q cc gc (Ar ((v210_43 q cc gc k m e s cc 0 (e, fset h 162 0 (.int (nI 0)))).2) 170), (v210_43 q cc gc k m e s cc 0 (e, fset h 162 0 (.int (nI 0)))).2) := (ct z2).trans ((ct z3).trans ((ct z4).trans ((ct z9).trans rfl)))
          refine ⟨?_, ?_, ?_⟩ <;> rw [ed]
          · exact er11
          · exact hc7
          · exact (fr_g rfl rfl hf8 (fr_f rfl rfl fr_0))
        | false =>
          have hh := en_f z9 hh
          have hh : pm_run PT n fr lo 210 (129, [some (.ref 162), some (.int k), some (.int m), some (.int e), some (.int s), some (.int ((v210_43 q cc gc k m e s cc 0 (e, fset h 162 0 (.int (nI 0)))).1)), u6, u5], [], (v210_43 q cc gc k m e s cc 0 (e, fset h 162 0 (.int (nI 0)))).2, 198, sl) = some R := hh
          obtain ⟨n, hh⟩ := rn_i rfl rfl rfl rfl hh
          obtain ⟨n, hh⟩ := rn_i rfl rfl rfl rfl hh
          have hh : pm_run PT n fr lo 210 (142, [some (.ref 162), some (.int k), some (.int m), some (.int e), some (.int s), some (.int ((v210_43 q cc gc k m e s cc 0 (e, fset h 162 0 (.int (nI 0)))).1)), u6, u5], [.int (Int32.ofInt (-3))], (v210_43 q cc gc k m e s cc 0 (e, fset h 162 0 (.int (nI 0)))).2, 198, sl) = some R := hh
          have er12 : R = (some (.int (Int32.ofInt (-3))), (v210_43 q cc gc k m e s cc 0 (e, fset h 162 0 (.int (nI 0)))).2, 198, sl) := (rn_ret rfl (Or.inl rfl) hh).2
          have ed : v210 q cc gc h k m e s = ((Int32.ofInt (-3)), (v210_43 q cc gc k m e s cc 0 (e, fset h 162 0 (.int (nI 0)))).2) := (ct z2).trans ((ct z3).trans ((ct z4).trans ((cf z9).trans rfl)))
          refine ⟨?_, ?_, ?_⟩ <;> rw [ed]
          · exact er12
          · exact hc7
          · exact (fr_g rfl rfl hf8 (fr_f rfl rfl fr_0))
      | false =>
        have hh := en_f z4 hh
        have hh : pm_run PT n fr lo 210 (30, [some (.ref 162), some (.int k), some (.int m), some (.int e), some (.int s), none, none, none], [], fset h 162 0 (.int (nI 0)), 198, sl) = some R := hh
        obtain ⟨n, hh⟩ := rn_i rfl rfl rfl rfl hh
        have hh : pm_run PT n fr lo 210 (31, [some (.ref 162), some (.int k), some (.int m), some (.int e), some (.int s), none, none, none], [.int m], fset h 162 0 (.int (nI 0)), 198, sl) = some R := hh
        obtain ⟨n, hh⟩ := en_zn (cc := .ge) (off := 6) (t := 37) (b := pm_cmp .ge m 0) rfl rfl rfl hh
        cases z13 : pm_cmp .ge m 0 with
        | true =>
          have hh := en_t z13 hh
          have hh : pm_run PT n fr lo 210 (37, [some (.ref 162), some (.int k), some (.int m), some (.int e), some (.int s), none, none, none], [], fset h 162 0 (.int (nI 0)), 198, sl) = some R := hh
          obtain ⟨n, hh⟩ := rn_i rfl rfl rfl rfl hh
          obtain ⟨n, hh⟩ := rn_i rfl rfl rfl rfl hh
          obtain ⟨n, hh⟩ := rn_i rfl rfl rfl rfl hh
          obtain ⟨n, hh⟩ := rn_i rfl rfl rfl rfl hh
          have hh : pm_run PT n fr lo 210 (43, [some (.ref 162), some (.int k), some (.int m), some (.int e), some (.int s), some (.int e), some (.int (nI 0)), none], [], fset h 162 0 (.int (nI 0)), 198, sl) = some R := hh
          obtain ⟨n, u15, u14, hc16, hf17, hh⟩ := v210_43_ok (t1 := k) (t2 := m) (t3 := e) (t4 := s)  (i := 0) (x5 := e) (o7 := none) (j := cc) (by omega) (by omega) (hc_f rfl rfl (by decide) rfl hw) hh
          have hh : pm_run PT n fr lo 210 (124, [some (.ref 162), some (.int k), some (.int m), some (.int e), some (.int s), some (.int ((v210_43 q cc gc k m e s cc 0 (e, fset h 162 0 (.int (nI 0)))).1)), u15, u14], [], (v210_43 q cc gc k m e s cc 0 (e, fset h 162 0 (.int (nI 0)))).2, 198, sl) = some R := hh
          obtain ⟨n, hh⟩ := rn_i rfl rfl rfl rfl hh
          obtain ⟨n, hh⟩ := rn_i rfl rfl rfl rfl hh
          have hh : pm_run PT n fr lo 210 (126, [some (.ref 162), some (.int k), some (.int m), some (.int e), some (.int s), some (.int ((v210_43 q cc gc k m e s cc 0 (e, fset h 162 0 (.int (nI 0)))).1)), u15, u14], [.int (nI 3), .int k], (v210_43 q cc gc k m e s cc 0 (e, fset h 162 0 (.int (nI 0)))).2, 198, sl) = some R := hh
          obtain ⟨n, hh⟩ := en_cn (cc := .ne) (off := 8) (t := 134) (b := pm_cmp .ne k (nI 3)) rfl rfl rfl hh
          cases z18 : pm_cmp .ne k (nI 3) with
          | true =>
            have hh := en_t z18 hh
            have hh : pm_run PT n fr lo 210 (134, [some (.ref 162), some (.int k), some (.int m), some (.int e), some (.int s), some (.int ((v210_43 q cc gc k m e s cc 0 (e, fset h 162 0 (.int (nI 0)))).1)), u15, u14], [], (v210_43 q cc gc k m e s cc 0 (e, fset h 162 0 (.int (nI 0)))).2, 198, sl) = some R := hh
            obtain ⟨n, hh⟩ := rn_i rfl rfl rfl rfl hh
            obtain ⟨n, hh⟩ := rn_i rfl rfl rfl rfl hh
            have hh : pm_run PT n fr lo 210 (136, [some (.ref 162), some (.int k), some (.int m), some (.int e), some (.int s), some (.int ((v210_43 q cc gc k m e s cc 0 (e, fset h 162 0 (.int (nI 0)))).1)), u15, u14], [.ref 162, .ref 162], (v210_43 q cc gc k m e s cc 0 (e, fset h 162 0 (.int (nI 0)))).2, 198, sl) = some R := hh
            obtain ⟨n, hh⟩ := rn_gr hc16.wt rfl rfl (by decide) rfl (by decide) (show _ = some (2, ((170 : Nat) : Int), 1) from rfl) rfl hh
            have hh : pm_run PT n fr lo 210 (139, [some (.ref 162), some (.int k), some (.int m), some (.int e), some (.int s), some (.int ((v210_43 q cc gc k m e s cc 0 (e, fset h 162 0 (.int (nI 0)))).1)), u15, u14], [.ref 170, .ref 162], (v210_43 q cc gc k m e s cc 0 (e, fset h 162 0 (.int (nI 0)))).2, 198, sl) = some R := hh
            obtain ⟨n, fr1, lo1, r1, hh1, hh⟩ := rn_call (w := 0) (t := 177) rfl rfl hh
            have er19 := v177_ok hc16 hh1
            subst er19
            have hh : pm_run PT n fr lo 210 (142, [some (.ref 162), some (.int k), some (.int m), some (.int e), some (.int s), some (.int ((v210_43 q cc gc k m e s cc 0 (e, fset h 162 0 (.int (nI 0)))).1)), u15, u14], [.int (v177 q cc gc (Ar ((v210_43 q cc gc k m e s cc 0 (e, fset h 162 0 (.int (nI 0)))).2) 170))], (v210_43 q cc gc k m e s cc 0 (e, fset h 162 0 (.int (nI 0)))).2, 198, sl) = some R := hh
            have er20 : R = (some (.int (v177 q cc gc (Ar ((v210_43 q cc gc k m e s cc 0 (e, fset h 162 0 (.int (nI 0)))).2) 170))), (v210_43 q cc gc k m e s cc 0 (e, fset h 162 0 (.int (nI 0)))).2, 198, sl) := (rn_ret rfl (Or.inl rfl) hh).2
            have ed : v210 q cc gc h k m e s = (v177 q cc gc (Ar ((v210_43 q cc gc k m e s cc 0 (e, fset h 162 0 (.int (nI 0)))).2) 170), (v210_43 q cc gc k m e s cc 0 (e, fset h 162 0 (.int (nI 0)))).2) := (ct z2).trans ((ct z3).trans ((cf z4).trans ((ct z13).trans ((ct z18).trans rfl))))
            refine ⟨?_, ?_, ?_⟩ <;> rw [ed]
            · exact er20
            · exact hc16
            · exact (fr_g rfl rfl hf17 (fr_f rfl rfl fr_0))
          | false =>
            have hh := en_f z18 hh
            have hh : pm_run PT n fr lo 210 (129, [some (.ref 162), some (.int k), some (.int m), some (.int e), some (.int s), some (.int ((v210_43 q cc gc k m e s cc 0 (e, fset h 162 0 (.int (nI 0)))).1)), u15, u14], [], (v210_43 q cc gc k m e s cc 0 (e, fset h 162 0 (.int (nI 0)))).2, 198, sl) = some R := hh
            obtain ⟨n, hh⟩ := rn_i rfl rfl rfl rfl hh
            obtain ⟨n, hh⟩ := rn_i rfl rfl rfl rfl hh
            have hh : pm_run PT n fr lo 210 (142, [some (.ref 162), some (.int k), some (.int m), some (.int e), some (.int s), some (.int ((v210_43 q cc gc k m e s cc 0 (e, fset h 162 0 (.int (nI 0)))).1)), u15, u14], [.int (Int32.ofInt (-3))], (v210_43 q cc gc k m e s cc 0 (e, fset h 162 0 (.int (nI 0)))).2, 198, sl) = some R := hh
            have er21 : R = (some (.int (Int32.ofInt (-3))), (v210_43 q cc gc k m e s cc 0 (e, fset h 162 0 (.int (nI 0)))).2, 198, sl) := (rn_ret rfl (Or.inl rfl) hh).2
            have ed : v210 q cc gc h k m e s = ((Int32.ofInt (-3)), (v210_43 q cc gc k m e s cc 0 (e, fset h 162 0 (.int (nI 0)))).2) := (ct z2).trans ((ct z3).trans ((cf z4).trans ((ct z13).trans ((cf z18).trans rfl))))
            refine ⟨?_, ?_, ?_⟩ <;> rw [ed]
            · exact er21
            · exact hc16
            · exact (fr_g rfl rfl hf17 (fr_f rfl rfl fr_0))
        | false =>
          have hh := en_f z13 hh
          have hh : pm_run PT n fr lo 210 (34, [some (.ref 162), some (.int k), some (.int m), some (.int e), some (.int s), none, none, none], [], fset h 162 0 (.int (nI 0)), 198, sl) = some R := hh
          obtain ⟨n, hh⟩ := rn_i rfl rfl rfl rfl hh
          have hh : pm_run PT n fr lo 210 (36, [some (.ref 162), some (.int k), some (.int m), some (.int e), some (.int s), none, none, none], [.int (Int32.ofInt (-2))], fset h 162 0 (.int (nI 0)), 198, sl) = some R := hh
          have er22 : R = (some (.int (Int32.ofInt (-2))), fset h 162 0 (.int (nI 0)), 198, sl) := (rn_ret rfl (Or.inl rfl) hh).2
          have ed : v210 q cc gc h k m e s = ((Int32.ofInt (-2)), fset h 162 0 (.int (nI 0))) := (ct z2).trans ((ct z3).trans ((cf z4).trans ((cf z13).trans rfl)))
          refine ⟨?_, ?_, ?_⟩ <;> rw [ed]
          · exact er22
          · exact (hc_f rfl rfl (by decide) rfl hw)
          · exact (fr_f rfl rfl fr_0)
    | false =>
      have hh := en_f z3 hh
      have hh : pm_run PT n fr lo 210 (23, [some (.ref 162), some (.int k), some (.int m), some (.int e), some (.int s), none, none, none], [], fset h 162 0 (.int (nI 0)), 198, sl) = some R := hh
      obtain ⟨n, hh⟩ := rn_i rfl rfl rfl rfl hh
      have hh : pm_run PT n fr lo 210 (24, [some (.ref 162), some (.int k), some (.int m), some (.int e), some (.int s), none, none, none], [.int (Int32.ofInt (-1))], fset h 162 0 (.int (nI 0)), 198, sl) = some R := hh
      have er23 : R = (some (.int (Int32.ofInt (-1))), fset h 162 0 (.int (nI 0)), 198, sl) := (rn_ret rfl (Or.inl rfl) hh).2
      have ed : v210 q cc gc h k m e s = ((Int32.ofInt (-1)), fset h 162 0 (.int (nI 0))) := (ct z2).trans ((cf z3).trans rfl)
      refine ⟨?_, ?_, ?_⟩ <;> rw [ed]
      · exact er23
      · exact (hc_f rfl rfl (by decide) rfl hw)
      · exact (fr_f rfl rfl fr_0)
  | false =>
    have hh := en_nf z2 hh
    have hh : pm_run PT n fr lo 210 (23, [some (.ref 162), some (.int k), some (.int m), some (.int e), some (.int s), none, none, none], [], fset h 162 0 (.int (nI 0)), 198, sl) = some R := hh
    obtain ⟨n, hh⟩ := rn_i rfl rfl rfl rfl hh
    have hh : pm_run PT n fr lo 210 (24, [some (.ref 162), some (.int k), some (.int m), some (.int e), some (.int s), none, none, none], [.int (Int32.ofInt (-1))], fset h 162 0 (.int (nI 0)), 198, sl) = some R := hh
    have er24 : R = (some (.int (Int32.ofInt (-1))), fset h 162 0 (.int (nI 0)), 198, sl) := (rn_ret rfl (Or.inl rfl) hh).2
    have ed : v210 q cc gc h k m e s = ((Int32.ofInt (-1)), fset h 162 0 (.int (nI 0))) := (cf z2).trans rfl
    refine ⟨?_, ?_, ?_⟩ <;> rw [ed]
    · exact er24
    · exact (hc_f rfl rfl (by decide) rfl hw)
    · exact (fr_f rfl rfl fr_0)
theorem v210_fr {cc gc : Nat} {q : QT} {h : pm_H} {k : Int32} {m : Int32} {e : Int32} {s : Int32} (hw : HC q cc gc h) : HC q cc gc ((v210 q cc gc h k m e s).2) ∧ frm [162, 170] [(162, 0)] h ((v210 q cc gc h k m e s).2) := by
  unfold v210
  refine cd_s (P := fun (p : Int32 × pm_H) => HC q cc gc ((p).2) ∧ frm [162, 170] [(162, 0)] h ((p).2)) (b := in_b ((k).toInt64) (Int64.ofNat 0) (3 : Int64)) (fun _ => ?_) (fun _ => ?_)
  · refine cd_s (P := fun (p : Int32 × pm_H) => HC q cc gc ((p).2) ∧ frm [162, 170] [(162, 0)] h ((p).2)) (b := pm_cmp .le m (nI 6)) (fun _ => ?_) (fun _ => ?_)
    · refine cd_s (P := fun (p : Int32 × pm_H) => HC q cc gc ((p).2) ∧ frm [162, 170] [(162, 0)] h ((p).2)) (b := pm_cmp .eq k (nI 3)) (fun _ => ?_) (fun _ => ?_)
      · refine cd_s (P := fun (p : Int32 × pm_H) => HC q cc gc ((p).2) ∧ frm [162, 170] [(162, 0)] h ((p).2)) (b := pm_cmp .ne k (nI 3)) (fun _ => ?_) (fun _ => ?_)
        · show HC q cc gc ((v210_43 q cc gc k m e s cc 0 (e, fset h 162 0 (.int (nI 0)))).2) ∧ frm [162, 170] [(162, 0)] h ((v210_43 q cc gc k m e s cc 0 (e, fset h 162 0 (.int (nI 0)))).2)
          exact ⟨(v210_43_fr (t1 := k) (t2 := m) (t3 := e) (t4 := s) (j := cc) (i := 0) (x5 := e) (hc_f rfl rfl (by decide) rfl hw)).1, (fr_g rfl rfl (v210_43_fr (t1 := k) (t2 := m) (t3 := e) (t4 := s) (j := cc) (i := 0) (x5 := e) (hc_f rfl rfl (by decide) rfl hw)).2 (fr_f rfl rfl fr_0))⟩
        · show HC q cc gc ((v210_43 q cc gc k m e s cc 0 (e, fset h 162 0 (.int (nI 0)))).2) ∧ frm [162, 170] [(162, 0)] h ((v210_43 q cc gc k m e s cc 0 (e, fset h 162 0 (.int (nI 0)))).2)
          exact ⟨(v210_43_fr (t1 := k) (t2 := m) (t3 := e) (t4 := s) (j := cc) (i := 0) (x5 := e) (hc_f rfl rfl (by decide) rfl hw)).1, (fr_g rfl rfl (v210_43_fr (t1 := k) (t2 := m) (t3 := e) (t4 := s) (j := cc) (i := 0) (x5 := e) (hc_f rfl rfl (by decide) rfl hw)).2 (fr_f rfl rfl fr_0))⟩
      · refine cd_s (P := fun (p : Int32 × pm_H) => HC q cc gc ((p).2) ∧ frm [162, 170] [(162, 0)] h ((p).2)) (b := pm_cmp .ge m 0) (fun _ => ?_) (fun _ => ?_)
        · refine cd_s (P := fun (p : Int32 × pm_H) => HC q cc gc ((p).2) ∧ frm [162, 170] [(162, 0)] h ((p).2)) (b := pm_cmp .ne k (nI 3)) (fun _ => ?_) (fun _ => ?_)
          · show HC q cc gc ((v210_43 q cc gc k m e s cc 0 (e, fset h 162 0 (.int (nI 0)))).2) ∧ frm [162, 170] [(162, 0)] h ((v210_43 q cc gc k m e s cc 0 (e, fset h 162 0 (.int (nI 0)))).2)
            exact ⟨(v210_43_fr (t1 := k) (t2 := m) (t3 := e) (t4 := s) (j := cc) (i := 0) (x5 := e) (hc_f rfl rfl (by decide) rfl hw)).1, (fr_g rfl rfl (v210_43_fr (t1 := k) (t2 := m) (t3 := e) (t4 := s) (j := cc) (i := 0) (x5 := e) (hc_f rfl rfl (by decide) rfl hw)).2 (fr_f rfl rfl fr_0))⟩
          · show HC q cc gc ((v210_43 q cc gc k m e s cc 0 (e, fset h 162 0 (.int (nI 0)))).2) ∧ frm [162, 170] [(162, 0)] h ((v210_43 q cc gc k m e s cc 0 (e, fset h 162 0 (.int (nI 0)))).2)
            exact ⟨(v210_43_fr (t1 := k) (t2 := m) (t3 := e) (t4 := s) (j := cc) (i := 0) (x5 := e) (hc_f rfl rfl (by decide) rfl hw)).1, (fr_g rfl rfl (v210_43_fr (t1 := k) (t2 := m) (t3 := e) (t4 := s) (j := cc) (i := 0) (x5 := e) (hc_f rfl rfl (by decide) rfl hw)).2 (fr_f rfl rfl fr_0))⟩
        · show HC q cc gc (fset h 162 0 (.int (nI 0))) ∧ frm [162, 170] [(162, 0)] h (fset h 162 0 (.int (nI 0)))
          exact ⟨(hc_f rfl rfl (by decide) rfl hw), (fr_f rfl rfl fr_0)⟩
    · show HC q cc gc (fset h 162 0 (.int (nI 0))) ∧ frm [162, 170] [(162, 0)] h (fset h 162 0 (.int (nI 0)))
      exact ⟨(hc_f rfl rfl (by decide) rfl hw), (fr_f rfl rfl fr_0)⟩
  · show HC q cc gc (fset h 162 0 (.int (nI 0))) ∧ frm [162, 170] [(162, 0)] h (fset h 162 0 (.int (nI 0)))
    exact ⟨(hc_f rfl rfl (by decide) rfl hw), (fr_f rfl rfl fr_0)⟩
end EA
