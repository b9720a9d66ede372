/-! runs told exactly, written by ext.py -/
section EZ
def v10_4b (q : QT) (cc gc : Nat) (h : pm_H) (i : Nat) (x2 : Int32) : Int32 × pm_H := cond (pm_cmp .eq ((v8 q cc gc (Ar h 16) i) - (v7 q cc gc (Ar h 16) i)) 0) (x2, h) (x2 + Int32.ofInt 1, aset h 153 6 (upd (Ar h 153) ((x2).toNatClampNeg) ((v8 q cc gc (Ar h 16) i) - (v7 q cc gc (Ar h 16) i))))
def v10_4 (q : QT) (cc gc : Nat) (j i : Nat) (a : Int32 × pm_H) : Int32 × pm_H := lp (fun i a => v10_4b q cc gc a.2 i a.1) j i a
theorem v10_4_e {n fr lo sl cc gc : Nat} {q : QT} {h : pm_H} {R : pm_Rs} {i : Nat} {x2 : Int32} {o4 : Option Value} (hw : HC q cc gc h) (hi : cc ≤ i) (hI : i < 1000000) (hh : pm_run PT n fr lo 10 (4, [some (.ref 151), some (.ref 13), some (.int x2), some (.int (nI i)), o4], [], h, 198, sl) = some R) : ∃ m, pm_run PT m fr lo 10 (52, [some (.ref 151), some (.ref 13), some (.int x2), some (.int (nI i)), o4], [], h, 198, sl) = some R := by
  have hcc := hw.cb
  have hgc := hw.gb
  have hzr := hw.zr
  obtain ⟨n, hh⟩ := rn_i rfl rfl rfl rfl hh
  obtain ⟨n, hh⟩ := rn_i rfl rfl rfl rfl hh
  have hh : pm_run PT n fr lo 10 (6, [some (.ref 151), some (.ref 13), some (.int x2), some (.int (nI i)), o4], [.ref 151, .int (nI i)], h, 198, sl) = some R := hh
  obtain ⟨n, hh⟩ := rn_gr hw.wt rfl rfl (by decide) rfl (by decide) (show _ = some (2, ((5 : Nat) : Int), 1) from rfl) rfl hh
  have hh : pm_run PT n fr lo 10 (9, [some (.ref 151), some (.ref 13), some (.int x2), some (.int (nI i)), o4], [.ref 5, .int (nI i)], h, 198, sl) = some R := hh
  obtain ⟨n, hh⟩ := rn_gi (x := nI cc) hw.wt rfl rfl (by decide) rfl (by decide) rfl hw.x0 hh
  have hh : pm_run PT n fr lo 10 (12, [some (.ref 151), some (.ref 13), some (.int x2), some (.int (nI i)), o4], [.int (nI cc), .int (nI i)], h, 198, sl) = some R := hh
  obtain ⟨n, hh⟩ := en_cn (cc := .ge) (off := 40) (t := 52) (b := decide (cc ≤ i)) (hI_ge (by omega) (by omega)) rfl rfl hh
  have hh := en_t (show decide (cc ≤ i) = true from decide_eq_true (by omega)) hh
  have hh : pm_run PT n fr lo 10 (52, [some (.ref 151), some (.ref 13), some (.int x2), some (.int (nI i)), o4], [], h, 198, sl) = some R := hh
  exact ⟨n, hh⟩
theorem v10_4_s {n fr lo sl cc gc : Nat} {q : QT} {h : pm_H} {R : pm_Rs} {i : Nat} {x2 : Int32} {o4 : Option Value} (hw : HC q cc gc h) (hi : i < cc) (hI : i < 1000000) (hh : pm_run PT n fr lo 10 (4, [some (.ref 151), some (.ref 13), some (.int x2), some (.int (nI i)), o4], [], h, 198, sl) = some R) : ∃ m w4, HC q cc gc ((v10_4b q cc gc h i x2).2) ∧ frm [153] [] h ((v10_4b q cc gc h i x2).2) ∧ pm_run PT m fr lo 10 (4, [some (.ref 151), some (.ref 13), some (.int ((v10_4b q cc gc h i x2).1)), some (.int (nI (i + 1))), w4], [], (v10_4b q cc gc h i x2).2, 198, sl) = some R := by
  have hcc := hw.cb
  have hgc := hw.gb
  have hzr := hw.zr
  obtain ⟨n, hh⟩ := rn_i rfl rfl rfl rfl hh
  obtain ⟨n, hh⟩ := rn_i rfl rfl rfl rfl hh
  have hh : pm_run PT n fr lo 10 (6, [some (.ref 151), some (.ref 13), some (.int x2), some (.int (nI i)), o4], [.ref 151, .int (nI i)], h, 198, sl) = some R := hh
  obtain ⟨n, hh⟩ := rn_gr hw.wt rfl rfl (by decide) rfl (by decide) (show _ = some (2, ((5 : Nat) : Int), 1) from rfl) rfl hh
  have hh : pm_run PT n fr lo 10 (9, [some (.ref 151), some (.ref 13), some (.int x2), some (.int (nI i)), o4], [.ref 5, .int (nI i)], h, 198, sl) = some R := hh
  obtain ⟨n, hh⟩ := rn_gi (x := nI cc) hw.wt rfl rfl (by decide) rfl (by decide) rfl hw.x0 hh
  have hh : pm_run PT n fr lo 10 (12, [some (.ref 151), some (.ref 13), some (.int x2), some (.int (nI i)), o4], [.int (nI cc), .int (nI i)], h, 198, sl) = some R := hh
  obtain ⟨n, hh⟩ := en_cn (cc := .ge) (off := 40) (t := 52) (b := decide (cc ≤ i)) (hI_ge (by omega) (by omega)) rfl rfl hh
  have hh := en_f (show decide (cc ≤ i) = false from decide_eq_false (by omega)) hh
  have hh : pm_run PT n fr lo 10 (15, [some (.ref 151), some (.ref 13), some (.int x2), some (.int (nI i)), o4], [], h, 198, sl) = some R := hh
  obtain ⟨n, hh⟩ := rn_i rfl rfl rfl rfl hh
  obtain ⟨n, hh⟩ := rn_i rfl rfl rfl rfl hh
  obtain ⟨n, hh⟩ := rn_i rfl rfl rfl rfl hh
  have hh : pm_run PT n fr lo 10 (18, [some (.ref 151), some (.ref 13), some (.int x2), some (.int (nI i)), o4], [.int (nI i), .ref 13, .ref 151], h, 198, sl) = some R := hh
  obtain ⟨n, fr1, lo1, r1, hh1, hh⟩ := rn_call (w := 0) (t := 8) rfl rfl hh
  have er1 := v8_ok (c := i) hw (by omega) hh1
  subst er1
  obtain ⟨n, hh⟩ := rn_i rfl rfl rfl rfl hh
  obtain ⟨n, hh⟩ := rn_i rfl rfl rfl rfl hh
  obtain ⟨n, hh⟩ := rn_i rfl rfl rfl rfl hh
  have hh : pm_run PT n fr lo 10 (24, [some (.ref 151), some (.ref 13), some (.int x2), some (.int (nI i)), o4], [.int (nI i), .ref 13, .ref 151, .int (v8 q cc gc (Ar h 16) i)], h, 198, sl) = some R := hh
  obtain ⟨n, fr1, lo1, r1, hh1, hh⟩ := rn_call (w := 0) (t := 7) rfl rfl hh
  have er2 := v7_ok (c := i) hw (by omega) hh1
  subst er2
  obtain ⟨n, hh⟩ := rn_i rfl rfl rfl rfl hh
  obtain ⟨n, hh⟩ := rn_i rfl rfl rfl rfl hh
  obtain ⟨n, hh⟩ := rn_i rfl rfl rfl rfl hh
  have hh : pm_run PT n fr lo 10 (32, [some (.ref 151), some (.ref 13), some (.int x2), some (.int (nI i)), some (.int ((v8 q cc gc (Ar h 16) i) - (v7 q cc gc (Ar h 16) i)))], [.int ((v8 q cc gc (Ar h 16) i) - (v7 q cc gc (Ar h 16) i))], h, 198, sl) = some R := hh
  obtain ⟨n, hh⟩ := en_zn (cc := .eq) (off := 14) (t := 46) (b := pm_cmp .eq ((v8 q cc gc (Ar h 16) i) - (v7 q cc gc (Ar h 16) i)) 0) rfl rfl rfl hh
  cases z3 : pm_cmp .eq ((v8 q cc gc (Ar h 16) i) - (v7 q cc gc (Ar h 16) i)) 0 with
  | true =>
    have hh := en_t z3 hh
    have hh : pm_run PT n fr lo 10 (46, [some (.ref 151), some (.ref 13), some (.int x2), some (.int (nI i)), some (.int ((v8 q cc gc (Ar h 16) i) - (v7 q cc gc (Ar h 16) i)))], [], h, 198, sl) = some R := hh
    have hh : pm_run PT n fr lo 10 (46, [some (.ref 151), some (.ref 13), some (.int x2), some (.int (nI i)), some (.int ((v8 q cc gc (Ar h 16) i) - (v7 q cc gc (Ar h 16) i)))], [], h, 198, sl) = some R := hh
    obtain ⟨n, hh⟩ := en_inc (x := i) (c := 1) (j := 3) rfl rfl (by decide) hh
    have hh : pm_run PT n fr lo 10 (49, [some (.ref 151), some (.ref 13), some (.int x2), some (.int (nI (i + 1))), some (.int ((v8 q cc gc (Ar h 16) i) - (v7 q cc gc (Ar h 16) i)))], [], h, 198, sl) = some R := hh
    obtain ⟨n, hh⟩ := rn_i rfl rfl rfl rfl hh
    have ed : v10_4b q cc gc h i x2 = (x2, h) := (ct z3).trans rfl
    rw [ed]
    exact ⟨n, some (.int ((v8 q cc gc (Ar h 16) i) - (v7 q cc gc (Ar h 16) i))), hw, fr_0, hh⟩
  | false =>
    have hh := en_f z3 hh
    have hh : pm_run PT n fr lo 10 (35, [some (.ref 151), some (.ref 13), some (.int x2), some (.int (nI i)), some (.int ((v8 q cc gc (Ar h 16) i) - (v7 q cc gc (Ar h 16) i)))], [], h, 198, sl) = some R := hh
    obtain ⟨n, hh⟩ := rn_i rfl rfl rfl rfl hh
    have hh : pm_run PT n fr lo 10 (36, [some (.ref 151), some (.ref 13), some (.int x2), some (.int (nI i)), some (.int ((v8 q cc gc (Ar h 16) i) - (v7 q cc gc (Ar h 16) i)))], [.ref 151], h, 198, sl) = some R := hh
    obtain ⟨n, hh⟩ := rn_gr hw.wt rfl rfl (by decide) rfl (by decide) (show _ = some (2, ((153 : Nat) : Int), 1) from rfl) rfl hh
    obtain ⟨n, hh⟩ := rn_i rfl rfl rfl rfl hh
    obtain ⟨n, hh⟩ := rn_i rfl rfl rfl rfl hh
    have hh : pm_run PT n fr lo 10 (42, [some (.ref 151), some (.ref 13), some (.int x2), some (.int (nI i)), some (.int ((v8 q cc gc (Ar h 16) i) - (v7 q cc gc (Ar h 16) i)))], [.int ((v8 q cc gc (Ar h 16) i) - (v7 q cc gc (Ar h 16) i)), .int x2, .ref 153], h, 198, sl) = some R := hh
    obtain ⟨n, hx4, hh⟩ := en_st (t := (x2).toNatClampNeg) (f := Ar h 153) rfl hw.wt rfl (by decide) rfl (by decide) rfl hh
    obtain ⟨n, hh⟩ := rn_i rfl rfl rfl rfl hh
    have hh : pm_run PT n fr lo 10 (46, [some (.ref 151), some (.ref 13), some (.int (x2 + Int32.ofInt 1)), some (.int (nI i)), some (.int ((v8 q cc gc (Ar h 16) i) - (v7 q cc gc (Ar h 16) i)))], [], aset h 153 6 (upd (Ar h 153) ((x2).toNatClampNeg) ((v8 q cc gc (Ar h 16) i) - (v7 q cc gc (Ar h 16) i))), 198, sl) = some R := hh
    obtain ⟨n, hh⟩ := en_inc (x := i) (c := 1) (j := 3) rfl rfl (by decide) hh
    have hh : pm_run PT n fr lo 10 (49, [some (.ref 151), some (.ref 13), some (.int (x2 + Int32.ofInt 1)), some (.int (nI (i + 1))), some (.int ((v8 q cc gc (Ar h 16) i) - (v7 q cc gc (Ar h 16) i)))], [], aset h 153 6 (upd (Ar h 153) ((x2).toNatClampNeg) ((v8 q cc gc (Ar h 16) i) - (v7 q cc gc (Ar h 16) i))), 198, sl) = some R := hh
    obtain ⟨n, hh⟩ := rn_i rfl rfl rfl rfl hh
    have ed : v10_4b q cc gc h i x2 = (x2 + Int32.ofInt 1, aset h 153 6 (upd (Ar h 153) ((x2).toNatClampNeg) ((v8 q cc gc (Ar h 16) i) - (v7 q cc gc (Ar h 16) i)))) := (cf z3).trans rfl
    rw [ed]
    exact ⟨n, some (.int ((v8 q cc gc (Ar h 16) i) - (v7 q cc gc (Ar h 16) i))), (hc_a rfl rfl hw), (fr_a rfl rfl fr_0), hh⟩
theorem v10_4_ok {fr lo sl cc gc : Nat} {q : QT} {R : pm_Rs} : ∀ {j i : Nat} {x2 : Int32} {o4 : Option Value} {h : pm_H} {n : Nat}, cc - i = j → i + j < 1000000 → HC q cc gc h → pm_run PT n fr lo 10 (4, [some (.ref 151), some (.ref 13), some (.int x2), some (.int (nI i)), o4], [], h, 198, sl) = some R → ∃ m wc w4, HC q cc gc ((v10_4 q cc gc j i (x2, h)).2) ∧ frm [153] [] h ((v10_4 q cc gc j i (x2, h)).2) ∧ pm_run PT m fr lo 10 (52, [some (.ref 151), some (.ref 13), some (.int ((v10_4 q cc gc j i (x2, h)).1)), wc, w4], [], (v10_4 q cc gc j i (x2, h)).2, 198, sl) = some R := by
  intro j
  induction j with
  | zero =>
    intro i x2 o4 h n e eI hw hh
    obtain ⟨n, hh⟩ := v10_4_e hw (by omega) (by omega) hh
    exact ⟨n, _, o4, hw, fr_0, hh⟩
  | succ j ih =>
    intro i x2 o4 h n e eI hw hh
    obtain ⟨n, w4, hc, hf, hh⟩ := v10_4_s hw (by omega) (by omega) hh
    obtain ⟨n, wc, v4, hc2, hf2, hh⟩ := ih (by omega) (by omega) hc hh
    exact ⟨n, wc, v4, hc2, fr_t hf2 hf, hh⟩
theorem v10_4_fb {cc gc : Nat} {q : QT} {h : pm_H} {i : Nat} {x2 : Int32} (hw : HC q cc gc h) : HC q cc gc ((v10_4b q cc gc h i x2).2) ∧ frm [153] [] h ((v10_4b q cc gc h i x2).2) := by
  unfold v10_4b
  refine cd_s (P := fun (p : Int32 × pm_H) => HC q cc gc ((p).2) ∧ frm [153] [] h ((p).2)) (b := pm_cmp .eq ((v8 q cc gc (Ar h 16) i) - (v7 q cc gc (Ar h 16) i)) 0) (fun _ => ?_) (fun _ => ?_)
  · show HC q cc gc (h) ∧ frm [153] [] h (h)
    exact ⟨hw, fr_0⟩
  · show HC q cc gc (aset h 153 6 (upd (Ar h 153) ((x2).toNatClampNeg) ((v8 q cc gc (Ar h 16) i) - (v7 q cc gc (Ar h 16) i)))) ∧ frm [153] [] h (aset h 153 6 (upd (Ar h 153) ((x2).toNatClampNeg) ((v8 q cc gc (Ar h 16) i) - (v7 q cc gc (Ar h 16) i))))
    exact ⟨(hc_a rfl rfl hw), (fr_a rfl rfl fr_0)⟩
theorem v10_4_fr {cc gc : Nat} {q : QT} : ∀ {j i : Nat} {x2 : Int32} {h : pm_H}, HC q cc gc h → HC q cc gc ((v10_4 q cc gc j i (x2, h)).2) ∧ frm [153] [] h ((v10_4 q cc gc j i (x2, h)).2) := by
  intro j
  induction j with
  | zero =>
    intro i x2 h hw
    exact ⟨hw, fr_0⟩
  | succ j ih =>
    intro i x2 h hw
    obtain ⟨a1, a2⟩ := v10_4_fb (i := i) (x2 := x2) hw
    obtain ⟨b1, b2⟩ := ih (i := i + 1) a1
    exact ⟨b1, fr_t b2 a2⟩
def v10 (q : QT) (cc gc : Nat) (h : pm_H) : Int32 × pm_H := ((v10_4 q cc gc cc 0 ((nI 0), h)).1, (v10_4 q cc gc cc 0 ((nI 0), h)).2)
theorem v10_ok {n fr lo sl cc gc : Nat} {q : QT} {h : pm_H} {R : pm_Rs} (hw : HC q cc gc h) (hh : pm_run PT n fr lo 10 (0, pm_l0 [.ref 151, .ref 13] 5, [], h, 198, sl) = some R) : R = (some (.int ((v10 q cc gc h).1)), (v10 q cc gc h).2, 198, sl) ∧ HC q cc gc ((v10 q cc gc h).2) ∧ frm [153] [] h ((v10 q cc gc h).2) := by
  have hcc := hw.cb
  have hgc := hw.gb
  have hzr := hw.zr
  obtain ⟨n, hh⟩ := rn_i rfl rfl rfl rfl hh
  obtain ⟨n, hh⟩ := rn_i rfl rfl rfl rfl hh
  obtain ⟨n, hh⟩ := rn_i rfl rfl rfl rfl hh
  obtain ⟨n, hh⟩ := rn_i rfl rfl rfl rfl hh
  have hh : pm_run PT n fr lo 10 (4, [some (.ref 151), some (.ref 13), some (.int (nI 0)), some (.int (nI 0)), none], [], h, 198, sl) = some R := hh
  obtain ⟨n, u2, u1, hc3, hf4, hh⟩ := v10_4_ok  (i := 0) (x2 := (nI 0)) (o4 := none) (j := cc) (by omega) (by omega) hw hh
  have hh : pm_run PT n fr lo 10 (52, [some (.ref 151), some (.ref 13), some (.int ((v10_4 q cc gc cc 0 ((nI 0), h)).1)), u2, u1], [], (v10_4 q cc gc cc 0 ((nI 0), h)).2, 198, sl) = some R := hh
  obtain ⟨n, hh⟩ := rn_i rfl rfl rfl rfl hh
  have hh : pm_run PT n fr lo 10 (53, [some (.ref 151), some (.ref 13), some (.int ((v10_4 q cc gc cc 0 ((nI 0), h)).1)), u2, u1], [.int ((v10_4 q cc gc cc 0 ((nI 0), h)).1)], (v10_4 q cc gc cc 0 ((nI 0), h)).2, 198, sl) = some R := hh
  have er5 : R = (some (.int ((v10_4 q cc gc cc 0 ((nI 0), h)).1)), (v10_4 q cc gc cc 0 ((nI 0), h)).2, 198, sl) := (rn_ret rfl (Or.inl rfl) hh).2
  have ed : v10 q cc gc h = ((v10_4 q cc gc cc 0 ((nI 0), h)).1, (v10_4 q cc gc cc 0 ((nI 0), h)).2) := rfl
  refine ⟨?_, ?_, ?_⟩ <;> rw [ed]
  · exact er5
  · exact hc3
  · exact (fr_g rfl rfl hf4 fr_0)
theorem v10_fr {cc gc : Nat} {q : QT} {h : pm_H} (hw : HC q cc gc h) : HC q cc gc ((v10 q cc gc h).2) ∧ frm [153] [] h ((v10 q cc gc h).2) := by
  unfold v10
  show HC q cc gc ((v10_4 q cc gc cc 0 ((nI 0), h)).2) ∧ frm [153] [] h ((v10_4 q cc gc cc 0 ((nI 0), h)).2)
  exact ⟨(v10_4_fr (j := cc) (i := 0) (x2 := (nI 0)) hw).1, (fr_g rfl rfl (v10_4_fr (j := cc) (i := 0) (x2 := (nI 0)) hw).2 fr_0)⟩
def v11_33b (q : QT) (cc gc : Nat) (d0 : Nat → Int32) (d1 : Nat → Int32) (m1 : Nat) (m2 : Nat) (i : Nat) (x3 : Int32) (x4 : Int32) : Int32 × Int32 := (cond (pm_cmp .eq ((shr (nI m2) (nI i)) &&& (nI 1)) 0) x3 (imax x3 ((d1) (((nI m2) &&& ((nI (2 ^ i)) ^^^ (Int32.ofInt (-1)))).toNatClampNeg))), cond (pm_cmp .eq ((shr (nI m2) (nI i)) &&& (nI 1)) 0) x4 (x4 + ((d0) i)))
def v11_33 (q : QT) (cc gc : Nat) (d0 : Nat → Int32) (d1 : Nat → Int32) (m1 : Nat) (m2 : Nat) (j i : Nat) (a : Int32 × Int32) : Int32 × Int32 := lp (fun i a => v11_33b q cc gc d0 d1 m1 m2 i a.1 a.2) j i a
theorem v11_33_e {n fr lo sl cc gc : Nat} {q : QT} {h : pm_H} {R : pm_Rs} {m1 : Nat} {m2 : Nat} {i : Nat} {x3 : Int32} {x4 : Int32} (hw : HC q cc gc h) (h_m1 : m1 < 7) (h_m2 : m2 < 10000) (hi : m1 ≤ i) (hI : i < 1000000) (hh : pm_run PT n fr lo 11 (33, [some (.ref 151), some (.int (nI m1)), some (.int (nI m2)), some (.int x3), some (.int x4), some (.int (nI i))], [], h, 198, sl) = some R) : ∃ m, pm_run PT m fr lo 11 (84, [some (.ref 151), some (.int (nI m1)), some (.int (nI m2)), some (.int x3), some (.int x4), some (.int (nI i))], [], h, 198, sl) = some R := by
  have hcc := hw.cb
  have hgc := hw.gb
  have hzr := hw.zr
  obtain ⟨n, hh⟩ := rn_i rfl rfl rfl rfl hh
  obtain ⟨n, hh⟩ := rn_i rfl rfl rfl rfl hh
  have hh : pm_run PT n fr lo 11 (36, [some (.ref 151), some (.int (nI m1)), some (.int (nI m2)), some (.int x3), some (.int x4), some (.int (nI i))], [.int (nI m1), .int (nI i)], h, 198, sl) = some R := hh
  obtain ⟨n, hh⟩ := en_cn (cc := .ge) (off := 48) (t := 84) (b := decide (m1 ≤ i)) (hI_ge (by omega) (by omega)) rfl rfl hh
  have hh := en_t (show decide (m1 ≤ i) = true from decide_eq_true (by omega)) hh
  have hh : pm_run PT n fr lo 11 (84, [some (.ref 151), some (.int (nI m1)), some (.int (nI m2)), some (.int x3), some (.int x4), some (.int (nI i))], [], h, 198, sl) = some R := hh
  exact ⟨n, hh⟩
theorem v11_33_s {n fr lo sl cc gc : Nat} {q : QT} {h : pm_H} {R : pm_Rs} {m1 : Nat} {m2 : Nat} {i : Nat} {x3 : Int32} {x4 : Int32} (hw : HC q cc gc h) (h_m1 : m1 < 7) (h_m2 : m2 < 10000) (hi : i < m1) (hI : i < 1000000) (hh : pm_run PT n fr lo 11 (33, [some (.ref 151), some (.int (nI m1)), some (.int (nI m2)), some (.int x3), some (.int x4), some (.int (nI i))], [], h, 198, sl) = some R) : ∃ m, pm_run PT m fr lo 11 (33, [some (.ref 151), some (.int (nI m1)), some (.int (nI m2)), some (.int ((v11_33b q cc gc (Ar h 153) (Ar h 154) m1 m2 i x3 x4).1)), some (.int ((v11_33b q cc gc (Ar h 153) (Ar h 154) m1 m2 i x3 x4).2)), some (.int (nI (i + 1)))], [], h, 198, sl) = some R := by
  have hcc := hw.cb
  have hgc := hw.gb
  have hzr := hw.zr
  obtain ⟨n, hh⟩ := rn_i rfl rfl rfl rfl hh
  obtain ⟨n, hh⟩ := rn_i rfl rfl rfl rfl hh
  have hh : pm_run PT n fr lo 11 (36, [some (.ref 151), some (.int (nI m1)), some (.int (nI m2)), some (.int x3), some (.int x4), some (.int (nI i))], [.int (nI m1), .int (nI i)], h, 198, sl) = some R := hh
  obtain ⟨n, hh⟩ := en_cn (cc := .ge) (off := 48) (t := 84) (b := decide (m1 ≤ i)) (hI_ge (by omega) (by omega)) rfl rfl hh
  have hh := en_f (show decide (m1 ≤ i) = false from decide_eq_false (by omega)) hh
  have hh : pm_run PT n fr lo 11 (39, [some (.ref 151), some (.int (nI m1)), some (.int (nI m2)), some (.int x3), some (.int x4), some (.int (nI i))], [], h, 198, sl) = some R := hh
  obtain ⟨n, hh⟩ := rn_i rfl rfl rfl rfl hh
  obtain ⟨n, hh⟩ := rn_i rfl rfl rfl rfl hh
  obtain ⟨n, hh⟩ := rn_i rfl rfl rfl rfl hh
  obtain ⟨n, hh⟩ := rn_i rfl rfl rfl rfl hh
  obtain ⟨n, hh⟩ := rn_i rfl rfl rfl rfl hh
  have hh : pm_run PT n fr lo 11 (45, [some (.ref 151), some (.int (nI m1)), some (.int (nI m2)), some (.int x3), some (.int x4), some (.int (nI i))], [.int ((shr (nI m2) (nI i)) &&& (nI 1))], h, 198, sl) = some R := hh
  obtain ⟨n, hh⟩ := en_zn (cc := .eq) (off := 33) (t := 78) (b := pm_cmp .eq ((shr (nI m2) (nI i)) &&& (nI 1)) 0) rfl rfl rfl hh
  have hj11 : ∃ mJ, pm_run PT mJ fr lo 11 (cond (pm_cmp .eq ((shr (nI m2) (nI i)) &&& (nI 1)) 0) (78, [some (.ref 151), some (.int (nI m1)), some (.int (nI m2)), some (.int x3), some (.int x4), some (.int (nI i))], [], h, 198, sl) (78, [some (.ref 151), some (.int (nI m1)), some (.int (nI m2)), some (.int (imax x3 ((Ar h 154) (((nI m2) &&& ((nI (2 ^ i)) ^^^ (Int32.ofInt (-1)))).toNatClampNeg)))), some (.int (x4 + ((Ar h 153) i))), some (.int (nI i))], [], h, 198, sl)) = some R := en_J (fun z7 => by
      have hh := en_t z7 hh
      have hh : pm_run PT n fr lo 11 (78, [some (.ref 151), some (.int (nI m1)), some (.int (nI m2)), some (.int x3), some (.int x4), some (.int (nI i))], [], h, 198, sl) = some R := hh
      exact ⟨n, hh⟩) (fun z7 => by
      have hh := en_f z7 hh
      have hh : pm_run PT n fr lo 11 (48, [some (.ref 151), some (.int (nI m1)), some (.int (nI m2)), some (.int x3), some (.int x4), some (.int (nI i))], [], h, 198, sl) = some R := hh
      obtain ⟨n, hh⟩ := rn_i rfl rfl rfl rfl hh
      obtain ⟨n, hh⟩ := rn_i rfl rfl rfl rfl hh
      have hh : pm_run PT n fr lo 11 (50, [some (.ref 151), some (.int (nI m1)), some (.int (nI m2)), some (.int x3), some (.int x4), some (.int (nI i))], [.ref 151, .int x3], h, 198, sl) = some R := hh
      obtain ⟨n, hh⟩ := rn_gr hw.wt rfl rfl (by decide) rfl (by decide) (show _ = some (2, ((154 : Nat) : Int), 1) from rfl) rfl hh
      obtain ⟨n, hh⟩ := rn_i rfl rfl rfl rfl hh
      obtain ⟨n, hh⟩ := rn_i rfl rfl rfl rfl hh
      obtain ⟨n, hh⟩ := rn_i rfl rfl rfl rfl hh
      have hh : pm_run PT n fr lo 11 (57, [some (.ref 151), some (.int (nI m1)), some (.int (nI m2)), some (.int x3), some (.int x4), some (.int (nI i))], [.int (nI i), .int (nI 1), .int (nI m2), .ref 154, .int x3], h, 198, sl) = some R := hh
      have hb8 := en_pw (show i ≤ 8 by omega)
      obtain ⟨n, hh⟩ := en_shl (y := i) (by omega) rfl hh
      have hh : pm_run PT n fr lo 11 (58, [some (.ref 151), some (.int (nI m1)), some (.int (nI m2)), some (.int x3), some (.int x4), some (.int (nI i))], [.int (nI (2 ^ i)), .int (nI m2), .ref 154, .int x3], h, 198, sl) = some R := hh
      obtain ⟨n, hh⟩ := rn_i rfl rfl rfl rfl hh
      obtain ⟨n, hh⟩ := rn_i rfl rfl rfl rfl hh
      obtain ⟨n, hh⟩ := rn_i rfl rfl rfl rfl hh
      have hh : pm_run PT n fr lo 11 (61, [some (.ref 151), some (.int (nI m1)), some (.int (nI m2)), some (.int x3), some (.int x4), some (.int (nI i))], [.int ((nI m2) &&& ((nI (2 ^ i)) ^^^ (Int32.ofInt (-1)))), .ref 154, .int x3], h, 198, sl) = some R := hh
      obtain ⟨n, hx9, hh⟩ := en_lu (t := ((nI m2) &&& ((nI (2 ^ i)) ^^^ (Int32.ofInt (-1)))).toNatClampNeg) (f := Ar h 154) (w := (Ar h 154) (((nI m2) &&& ((nI (2 ^ i)) ^^^ (Int32.ofInt (-1)))).toNatClampNeg)) rfl hw.wt rfl (by decide) rfl (by decide) rfl (fun _ => rfl) hh
      have hh : pm_run PT n fr lo 11 (62, [some (.ref 151), some (.int (nI m1)), some (.int (nI m2)), some (.int x3), some (.int x4), some (.int (nI i))], [.int ((Ar h 154) (((nI m2) &&& ((nI (2 ^ i)) ^^^ (Int32.ofInt (-1)))).toNatClampNeg)), .int x3], h, 198, sl) = some R := hh
      obtain ⟨n, hh⟩ := en_max rfl rfl rfl hh
      obtain ⟨n, hh⟩ := rn_i rfl rfl rfl rfl hh
      obtain ⟨n, hh⟩ := rn_i rfl rfl rfl rfl hh
      obtain ⟨n, hh⟩ := rn_i rfl rfl rfl rfl hh
      have hh : pm_run PT n fr lo 11 (69, [some (.ref 151), some (.int (nI m1)), some (.int (nI m2)), some (.int (imax x3 ((Ar h 154) (((nI m2) &&& ((nI (2 ^ i)) ^^^ (Int32.ofInt (-1)))).toNatClampNeg)))), some (.int x4), some (.int (nI i))], [.ref 151, .int x4], h, 198, sl) = some R := hh
      obtain ⟨n, hh⟩ := rn_gr hw.wt rfl rfl (by decide) rfl (by decide) (show _ = some (2, ((153 : Nat) : Int), 1) from rfl) rfl hh
      obtain ⟨n, hh⟩ := rn_i rfl rfl rfl rfl hh
      have hh : pm_run PT n fr lo 11 (74, [some (.ref 151), some (.int (nI m1)), some (.int (nI m2)), some (.int (imax x3 ((Ar h 154) (((nI m2) &&& ((nI (2 ^ i)) ^^^ (Int32.ofInt (-1)))).toNatClampNeg)))), some (.int x4), some (.int (nI i))], [.int (nI i), .ref 153, .int x4], h, 198, sl) = some R := hh
      obtain ⟨n, hx10, hh⟩ := en_lu (t := i) (f := Ar h 153) (w := (Ar h 153) i) (nI_clamp (by omega)) hw.wt rfl (by decide) rfl (by decide) rfl (fun _ => rfl) hh
      obtain ⟨n, hh⟩ := rn_i rfl rfl rfl rfl hh
      obtain ⟨n, hh⟩ := rn_i rfl rfl rfl rfl hh
      exact ⟨n, hh⟩)
  obtain ⟨n, hh⟩ := hj11
  rw [show (cond (pm_cmp .eq ((shr (nI m2) (nI i)) &&& (nI 1)) 0) (78, [some (.ref 151), some (.int (nI m1)), some (.int (nI m2)), some (.int x3), some (.int x4), some (.int (nI i))], [], h, 198, sl) (78, [some (.ref 151), some (.int (nI m1)), some (.int (nI m2)), some (.int (imax x3 ((Ar h 154) (((nI m2) &&& ((nI (2 ^ i)) ^^^ (Int32.ofInt (-1)))).toNatClampNeg)))), some (.int (x4 + ((Ar h 153) i))), some (.int (nI i))], [], h, 198, sl) : pm_St) = (78, [some (.ref 151), some (.int (nI m1)), some (.int (nI m2)), some (.int (cond (pm_cmp .eq ((shr (nI m2) (nI i)) &&& (nI 1)) 0) x3 (imax x3 ((Ar h 154) (((nI m2) &&& ((nI (2 ^ i)) ^^^ (Int32.ofInt (-1)))).toNatClampNeg))))), some (.int (cond (pm_cmp .eq ((shr (nI m2) (nI i)) &&& (nI 1)) 0) x4 (x4 + ((Ar h 153) i)))), some (.int (nI i))], [], h, 198, sl) from by cases (pm_cmp .eq ((shr (nI m2) (nI i)) &&& (nI 1)) 0) <;> rfl] at hh
  have hh : pm_run PT n fr lo 11 (78, [some (.ref 151), some (.int (nI m1)), some (.int (nI m2)), some (.int (cond (pm_cmp .eq ((shr (nI m2) (nI i)) &&& (nI 1)) 0) x3 (imax x3 ((Ar h 154) (((nI m2) &&& ((nI (2 ^ i)) ^^^ (Int32.ofInt (-1)))).toNatClampNeg))))), some (.int (cond (pm_cmp .eq ((shr (nI m2) (nI i)) &&& (nI 1)) 0) x4 (x4 + ((Ar h 153) i)))), some (.int (nI i))], [], h, 198, sl) = some R := hh
  obtain ⟨n, hh⟩ := en_inc (x := i) (c := 1) (j := 5) rfl rfl (by decide) hh
  have hh : pm_run PT n fr lo 11 (81, [some (.ref 151), some (.int (nI m1)), some (.int (nI m2)), some (.int (cond (pm_cmp .eq ((shr (nI m2) (nI i)) &&& (nI 1)) 0) x3 (imax x3 ((Ar h 154) (((nI m2) &&& ((nI (2 ^ i)) ^^^ (Int32.ofInt (-1)))).toNatClampNeg))))), some (.int (cond (pm_cmp .eq ((shr (nI m2) (nI i)) &&& (nI 1)) 0) x4 (x4 + ((Ar h 153) i)))), some (.int (nI (i + 1)))], [], h, 198, sl) = some R := hh
  obtain ⟨n, hh⟩ := rn_i rfl rfl rfl rfl hh
  have ed : v11_33b q cc gc (Ar h 153) (Ar h 154) m1 m2 i x3 x4 = (cond (pm_cmp .eq ((shr (nI m2) (nI i)) &&& (nI 1)) 0) x3 (imax x3 ((Ar h 154) (((nI m2) &&& ((nI (2 ^ i)) ^^^ (Int32.ofInt (-1)))).toNatClampNeg))), cond (pm_cmp .eq ((shr (nI m2) (nI i)) &&& (nI 1)) 0) x4 (x4 + ((Ar h 153) i))) := rfl
  rw [ed]
  exact ⟨n, hh⟩
theorem v11_33_ok {fr lo sl cc gc : Nat} {q : QT} {R : pm_Rs} {m1 : Nat} {m2 : Nat} : ∀ {j i : Nat} {x3 : Int32} {x4 : Int32} {h : pm_H} {n : Nat}, m1 - i = j → i + j < 1000000 → HC q cc gc h → m1 < 7 → m2 < 10000 → pm_run PT n fr lo 11 (33, [some (.ref 151), some (.int (nI m1)), some (.int (nI m2)), some (.int x3), some (.int x4), some (.int (nI i))], [], h, 198, sl) = some R → ∃ m wc, pm_run PT m fr lo 11 (84, [some (.ref 151), some (.int (nI m1)), some (.int (nI m2)), some (.int ((v11_33 q cc gc (Ar h 153) (Ar h 154) m1 m2 j i (x3, x4)).1)), some (.int ((v11_33 q cc gc (Ar h 153) (Ar h 154) m1 m2 j i (x3, x4)).2)), wc], [], h, 198, sl) = some R := by
  intro j
  induction j with
  | zero =>
    intro i x3 x4 h n e eI hw h_m1 h_m2 hh
    obtain ⟨n, hh⟩ := v11_33_e hw h_m1 h_m2 (by omega) (by omega) hh
    exact ⟨n, _, hh⟩
  | succ j ih =>
    intro i x3 x4 h n e eI hw h_m1 h_m2 hh
    obtain ⟨n, hh⟩ := v11_33_s hw h_m1 h_m2 (by omega) (by omega) hh
    obtain ⟨n, wc, hh⟩ := ih (by omega) (by omega) hw h_m1 h_m2 hh
    exact ⟨n, wc, hh⟩
def v11_9b (q : QT) (cc gc : Nat) (h : pm_H) (m1 : Nat) (i : Nat) : (pm_H) ⊕ (pm_H) := cond (decide (64 ≤ i)) (.inr h) (.inl (aset h 154 64 (upd (Ar h 154) i (cond (pm_cmp .ne ((v11_33 q cc gc (Ar h 153) (Ar h 154) m1 i m1 0 ((nI 0), (nI 0))).2) 0) ((v11_33 q cc gc (Ar h 153) (Ar h 154) m1 i m1 0 ((nI 0), (nI 0))).1) (((v11_33 q cc gc (Ar h 153) (Ar h 154) m1 i m1 0 ((nI 0), (nI 0))).1) + (nI 1))))))
def v11_9 (q : QT) (cc gc : Nat) (m1 : Nat) (j i : Nat) (a : pm_H) : (pm_H) ⊕ (pm_H) := lpE (fun i a => v11_9b q cc gc a m1 i) j i a
theorem v11_9_e {n fr lo sl cc gc : Nat} {q : QT} {h : pm_H} {R : pm_Rs} {m1 : Nat} {i : Nat} {o3 : Option Value} {o4 : Option Value} {o5 : Option Value} (hw : HC q cc gc h) (h_m1 : m1 < 7) (hi : 2 ^ m1 ≤ i) (hI : i < 1000000) (hh : pm_run PT n fr lo 11 (9, [some (.ref 151), some (.int (nI m1)), some (.int (nI i)), o3, o4, o5], [], h, 198, sl) = some R) : ∃ m, pm_run PT m fr lo 11 (108, [some (.ref 151), some (.int (nI m1)), some (.int (nI i)), o3, o4, o5], [], h, 198, sl) = some R := by
  have hcc := hw.cb
  have hgc := hw.gb
  have hzr := hw.zr
  obtain ⟨n, hh⟩ := rn_i rfl rfl rfl rfl hh
  obtain ⟨n, hh⟩ := rn_i rfl rfl rfl rfl hh
  obtain ⟨n, hh⟩ := rn_i rfl rfl rfl rfl hh
  have hh : pm_run PT n fr lo 11 (12, [some (.ref 151), some (.int (nI m1)), some (.int (nI i)), o3, o4, o5], [.int (nI m1), .int (nI 1), .int (nI i)], h, 198, sl) = some R := hh
  have hb2 := en_pw (show m1 ≤ 8 by omega)
  obtain ⟨n, hh⟩ := en_shl (y := m1) (by omega) rfl hh
  have hh : pm_run PT n fr lo 11 (13, [some (.ref 151), some (.int (nI m1)), some (.int (nI i)), o3, o4, o5], [.int (nI (2 ^ m1)), .int (nI i)], h, 198, sl) = some R := hh
  have hh : pm_run PT n fr lo 11 (13, [some (.ref 151), some (.int (nI m1)), some (.int (nI i)), o3, o4, o5], [.int (nI (2 ^ m1)), .int (nI i)], h, 198, sl) = some R := hh
  obtain ⟨n, hh⟩ := en_cn (cc := .ge) (off := 95) (t := 108) (b := decide (2 ^ m1 ≤ i)) (hI_ge (by omega) (by omega)) rfl rfl hh
  have hh := en_t (show decide (2 ^ m1 ≤ i) = true from decide_eq_true (by omega)) hh
  have hh : pm_run PT n fr lo 11 (108, [some (.ref 151), some (.int (nI m1)), some (.int (nI i)), o3, o4, o5], [], h, 198, sl) = some R := hh
  exact ⟨n, hh⟩
theorem v11_9_s {n fr lo sl cc gc : Nat} {q : QT} {h : pm_H} {R : pm_Rs} {m1 : Nat} {i : Nat} {o3 : Option Value} {o4 : Option Value} {o5 : Option Value} (hw : HC q cc gc h) (h_m1 : m1 < 7) (hi : i < 2 ^ m1) (hI : i < 1000000) (hh : pm_run PT n fr lo 11 (9, [some (.ref 151), some (.int (nI m1)), some (.int (nI i)), o3, o4, o5], [], h, 198, sl) = some R) : (∃ m, ∃ a : pm_H, ∃ w3 w4 w5, v11_9b q cc gc h m1 i = .inl a ∧ HC q cc gc (a) ∧ frm [154] [] h (a) ∧ pm_run PT m fr lo 11 (9, [some (.ref 151), some (.int (nI m1)), some (.int (nI (i + 1))), w3, w4, w5], [], a, 198, sl) = some R) ∨ (∃ m, ∃ a : pm_H, ∃ wc w3 w4 w5, v11_9b q cc gc h m1 i = .inr a ∧ HC q cc gc (a) ∧ frm [154] [] h (a) ∧ pm_run PT m fr lo 11 (108, [some (.ref 151), some (.int (nI m1)), wc, w3, w4, w5], [], a, 198, sl) = some R) := by
  have hcc := hw.cb
  have hgc := hw.gb
  have hzr := hw.zr
  obtain ⟨n, hh⟩ := rn_i rfl rfl rfl rfl hh
  obtain ⟨n, hh⟩ := rn_i rfl rfl rfl rfl hh
  obtain ⟨n, hh⟩ := rn_i rfl rfl rfl rfl hh
  have hh : pm_run PT n fr lo 11 (12, [some (.ref 151), some (.int (nI m1)), some (.int (nI i)), o3, o4, o5], [.int (nI m1), .int (nI 1), .int (nI i)], h, 198, sl) = some R := hh
  have hb3 := en_pw (show m1 ≤ 8 by omega)
  obtain ⟨n, hh⟩ := en_shl (y := m1) (by omega) rfl hh
  have hh : pm_run PT n fr lo 11 (13, [some (.ref 151), some (.int (nI m1)), some (.int (nI i)), o3, o4, o5], [.int (nI (2 ^ m1)), .int (nI i)], h, 198, sl) = some R := hh
  have hh : pm_run PT n fr lo 11 (13, [some (.ref 151), some (.int (nI m1)), some (.int (nI i)), o3, o4, o5], [.int (nI (2 ^ m1)), .int (nI i)], h, 198, sl) = some R := hh
  obtain ⟨n, hh⟩ := en_cn (cc := .ge) (off := 95) (t := 108) (b := decide (2 ^ m1 ≤ i)) (hI_ge (by omega) (by omega)) rfl rfl hh
  have hh := en_f (show decide (2 ^ m1 ≤ i) = false from decide_eq_false (by omega)) hh
  have hh : pm_run PT n fr lo 11 (16, [some (.ref 151), some (.int (nI m1)), some (.int (nI i)), o3, o4, o5], [], h, 198, sl) = some R := hh
  obtain ⟨n, hh⟩ := rn_i rfl rfl rfl rfl hh
  obtain ⟨n, hh⟩ := rn_i rfl rfl rfl rfl hh
  have hh : pm_run PT n fr lo 11 (18, [some (.ref 151), some (.int (nI m1)), some (.int (nI i)), o3, o4, o5], [.ref 151, .int (nI i)], h, 198, sl) = some R := hh
  obtain ⟨n, hh⟩ := rn_gr hw.wt rfl rfl (by decide) rfl (by decide) (show _ = some (2, ((154 : Nat) : Int), 1) from rfl) rfl hh
  have hh : pm_run PT n fr lo 11 (21, [some (.ref 151), some (.int (nI m1)), some (.int (nI i)), o3, o4, o5], [.ref 154, .int (nI i)], h, 198, sl) = some R := hh
  obtain ⟨n, hh⟩ := en_al hw.wt rfl (by decide) rfl (by decide) rfl hh
  have hh : pm_run PT n fr lo 11 (22, [some (.ref 151), some (.int (nI m1)), some (.int (nI i)), o3, o4, o5], [.int (nI 64), .int (nI i)], h, 198, sl) = some R := hh
  obtain ⟨n, hh⟩ := en_cn (cc := .ge) (off := 86) (t := 108) (b := decide (64 ≤ i)) (hI_ge (by omega) (by omega)) rfl rfl hh
  cases z4 : decide (64 ≤ i) with
  | true =>
    have hh := en_t z4 hh
    have hh : pm_run PT n fr lo 11 (108, [some (.ref 151), some (.int (nI m1)), some (.int (nI i)), o3, o4, o5], [], h, 198, sl) = some R := hh
    have y5 := of_decide_eq_true z4
    have ed : v11_9b q cc gc h m1 i = .inr h := (ct z4).trans rfl
    exact Or.inr ⟨n, _, some (.int (nI i)), o3, o4, o5, ed, hw, fr_0, hh⟩
  | false =>
    have hh := en_f z4 hh
    have hh : pm_run PT n fr lo 11 (25, [some (.ref 151), some (.int (nI m1)), some (.int (nI i)), o3, o4, o5], [], h, 198, sl) = some R := hh
    have y6 := of_decide_eq_false z4
    obtain ⟨n, hh⟩ := rn_i rfl rfl rfl rfl hh
    obtain ⟨n, hh⟩ := rn_i rfl rfl rfl rfl hh
    obtain ⟨n, hh⟩ := rn_i rfl rfl rfl rfl hh
    obtain ⟨n, hh⟩ := rn_i rfl rfl rfl rfl hh
    obtain ⟨n, hh⟩ := rn_i rfl rfl rfl rfl hh
    obtain ⟨n, hh⟩ := rn_i rfl rfl rfl rfl hh
    have hh : pm_run PT n fr lo 11 (33, [some (.ref 151), some (.int (nI m1)), some (.int (nI i)), some (.int (nI 0)), some (.int (nI 0)), some (.int (nI 0))], [], h, 198, sl) = some R := hh
    obtain ⟨n, u7, hh⟩ := v11_33_ok (m1 := m1) (m2 := i)  (i := 0) (x3 := (nI 0)) (x4 := (nI 0)) (j := m1) (by omega) (by omega) hw (by omega) (by omega) hh
    have hh : pm_run PT n fr lo 11 (84, [some (.ref 151), some (.int (nI m1)), some (.int (nI i)), some (.int ((v11_33 q cc gc (Ar h 153) (Ar h 154) m1 i m1 0 ((nI 0), (nI 0))).1)), some (.int ((v11_33 q cc gc (Ar h 153) (Ar h 154) m1 i m1 0 ((nI 0), (nI 0))).2)), u7], [], h, 198, sl) = some R := hh
    obtain ⟨n, hh⟩ := rn_i rfl rfl rfl rfl hh
    have hh : pm_run PT n fr lo 11 (85, [some (.ref 151), some (.int (nI m1)), some (.int (nI i)), some (.int ((v11_33 q cc gc (Ar h 153) (Ar h 154) m1 i m1 0 ((nI 0), (nI 0))).1)), some (.int ((v11_33 q cc gc (Ar h 153) (Ar h 154) m1 i m1 0 ((nI 0), (nI 0))).2)), u7], [.ref 151], h, 198, sl) = some R := hh
    obtain ⟨n, hh⟩ := rn_gr hw.wt rfl rfl (by decide) rfl (by decide) (show _ = some (2, ((154 : Nat) : Int), 1) from rfl) rfl hh
    obtain ⟨n, hh⟩ := rn_i rfl rfl rfl rfl hh
    obtain ⟨n, hh⟩ := rn_i rfl rfl rfl rfl hh
    have hh : pm_run PT n fr lo 11 (91, [some (.ref 151), some (.int (nI m1)), some (.int (nI i)), some (.int ((v11_33 q cc gc (Ar h 153) (Ar h 154) m1 i m1 0 ((nI 0), (nI 0))).1)), some (.int ((v11_33 q cc gc (Ar h 153) (Ar h 154) m1 i m1 0 ((nI 0), (nI 0))).2)), u7], [.int ((v11_33 q cc gc (Ar h 153) (Ar h 154) m1 i m1 0 ((nI 0), (nI 0))).2), .int (nI i), .ref 154], h, 198, sl) = some R := hh
    obtain ⟨n, hh⟩ := en_zn (cc := .ne) (off := 9) (t := 100) (b := pm_cmp .ne ((v11_33 q cc gc (Ar h 153) (Ar h 154) m1 i m1 0 ((nI 0), (nI 0))).2) 0) rfl rfl rfl hh
    have hj9 : ∃ mJ, pm_run PT mJ fr lo 11 (cond (pm_cmp .ne ((v11_33 q cc gc (Ar h 153) (Ar h 154) m1 i m1 0 ((nI 0), (nI 0))).2) 0) (101, [some (.ref 151), some (.int (nI m1)), some (.int (nI i)), some (.int ((v11_33 q cc gc (Ar h 153) (Ar h 154) m1 i m1 0 ((nI 0), (nI 0))).1)), some (.int ((v11_33 q cc gc (Ar h 153) (Ar h 154) m1 i m1 0 ((nI 0), (nI 0))).2)), u7], [.int ((v11_33 q cc gc (Ar h 153) (Ar h 154) m1 i m1 0 ((nI 0), (nI 0))).1), .int (nI i), .ref 154], h, 198, sl) (101, [some (.ref 151), some (.int (nI m1)), some (.int (nI i)), some (.int ((v11_33 q cc gc (Ar h 153) (Ar h 154) m1 i m1 0 ((nI 0), (nI 0))).1)), some (.int ((v11_33 q cc gc (Ar h 153) (Ar h 154) m1 i m1 0 ((nI 0), (nI 0))).2)), u7], [.int (((v11_33 q cc gc (Ar h 153) (Ar h 154) m1 i m1 0 ((nI 0), (nI 0))).1) + (nI 1)), .int (nI i), .ref 154], h, 198, sl)) = some R := en_J (fun z8 => by
        have hh := en_t z8 hh
        have hh : pm_run PT n fr lo 11 (100, [some (.ref 151), some (.int (nI m1)), some (.int (nI i)), some (.int ((v11_33 q cc gc (Ar h 153) (Ar h 154) m1 i m1 0 ((nI 0), (nI 0))).1)), some (.int ((v11_33 q cc gc (Ar h 153) (Ar h 154) m1 i m1 0 ((nI 0), (nI 0))).2)), u7], [.int (nI i), .ref 154], h, 198, sl) = some R := hh
        obtain ⟨n, hh⟩ := rn_i rfl rfl rfl rfl hh
        exact ⟨n, hh⟩) (fun z8 => by
        have hh := en_f z8 hh
        have hh : pm_run PT n fr lo 11 (94, [some (.ref 151), some (.int (nI m1)), some (.int (nI i)), some (.int ((v11_33 q cc gc (Ar h 153) (Ar h 154) m1 i m1 0 ((nI 0), (nI 0))).1)), some (.int ((v11_33 q cc gc (Ar h 153) (Ar h 154) m1 i m1 0 ((nI 0), (nI 0))).2)), u7], [.int (nI i), .ref 154], h, 198, sl) = some R := hh
        obtain ⟨n, hh⟩ := rn_i rfl rfl rfl rfl hh
        obtain ⟨n, hh⟩ := rn_i rfl rfl rfl rfl hh
        obtain ⟨n, hh⟩ := rn_i rfl rfl rfl rfl hh
        obtain ⟨n, hh⟩ := rn_i rfl rfl rfl rfl hh
        exact ⟨n, hh⟩)
    obtain ⟨n, hh⟩ := hj9
    rw [show (cond (pm_cmp .ne ((v11_33 q cc gc (Ar h 153) (Ar h 154) m1 i m1 0 ((nI 0), (nI 0))).2) 0) (101, [some (.ref 151), some (.int (nI m1)), some (.int (nI i)), some (.int ((v11_33 q cc gc (Ar h 153) (Ar h 154) m1 i m1 0 ((nI 0), (nI 0))).1)), some (.int ((v11_33 q cc gc (Ar h 153) (Ar h 154) m1 i m1 0 ((nI 0), (nI 0))).2)), u7], [.int ((v11_33 q cc gc (Ar h 153) (Ar h 154) m1 i m1 0 ((nI 0), (nI 0))).1), .int (nI i), .ref 154], h, 198, sl) (101, [some (.ref 151), some (.int (nI m1)), some (.int (nI i)), some (.int ((v11_33 q cc gc (Ar h 153) (Ar h 154) m1 i m1 0 ((nI 0), (nI 0))).1)), some (.int ((v11_33 q cc gc (Ar h 153) (Ar h 154) m1 i m1 0 ((nI 0), (nI 0))).2)), u7], [.int (((v11_33 q cc gc (Ar h 153) (Ar h 154) m1 i m1 0 ((nI 0), (nI 0))).1) + (nI 1)), .int (nI i), .ref 154], h, 198, sl) : pm_St) = (101, [some (.ref 151), some (.int (nI m1)), some (.int (nI i)), some (.int ((v11_33 q cc gc (Ar h 153) (Ar h 154) m1 i m1 0 ((nI 0), (nI 0))).1)), some (.int ((v11_33 q cc gc (Ar h 153) (Ar h 154) m1 i m1 0 ((nI 0), (nI 0))).2)), u7], [.int (cond (pm_cmp .ne ((v11_33 q cc gc (Ar h 153) (Ar h 154) m1 i m1 0 ((nI 0), (nI 0))).2) 0) ((v11_33 q cc gc (Ar h 153) (Ar h 154) m1 i m1 0 ((nI 0), (nI 0))).1) (((v11_33 q cc gc (Ar h 153) (Ar h 154) m1 i m1 0 ((nI 0), (nI 0))).1) + (nI 1))), .int (nI i), .ref 154], h, 198, sl) from by cases (pm_cmp .ne ((v11_33 q cc gc (Ar h 153) (Ar h 154) m1 i m1 0 ((nI 0), (nI 0))).2) 0) <;> rfl] at hh
    have hh : pm_run PT n fr lo 11 (101, [some (.ref 151), some (.int (nI m1)), some (.int (nI i)), some (.int ((v11_33 q cc gc (Ar h 153) (Ar h 154) m1 i m1 0 ((nI 0), (nI 0))).1)), some (.int ((v11_33 q cc gc (Ar h 153) (Ar h 154) m1 i m1 0 ((nI 0), (nI 0))).2)), u7], [.int (cond (pm_cmp .ne ((v11_33 q cc gc (Ar h 153) (Ar h 154) m1 i m1 0 ((nI 0), (nI 0))).2) 0) ((v11_33 q cc gc (Ar h 153) (Ar h 154) m1 i m1 0 ((nI 0), (nI 0))).1) (((v11_33 q cc gc (Ar h 153) (Ar h 154) m1 i m1 0 ((nI 0), (nI 0))).1) + (nI 1))), .int (nI i), .ref 154], h, 198, sl) = some R := hh
    obtain ⟨n, hx10, hh⟩ := en_st (t := i) (f := Ar h 154) (nI_clamp (by omega)) hw.wt rfl (by decide) rfl (by decide) rfl hh
    have hh : pm_run PT n fr lo 11 (102, [some (.ref 151), some (.int (nI m1)), some (.int (nI i)), some (.int ((v11_33 q cc gc (Ar h 153) (Ar h 154) m1 i m1 0 ((nI 0), (nI 0))).1)), some (.int ((v11_33 q cc gc (Ar h 153) (Ar h 154) m1 i m1 0 ((nI 0), (nI 0))).2)), u7], [], aset h 154 64 (upd (Ar h 154) i (cond (pm_cmp .ne ((v11_33 q cc gc (Ar h 153) (Ar h 154) m1 i m1 0 ((nI 0), (nI 0))).2) 0) ((v11_33 q cc gc (Ar h 153) (Ar h 154) m1 i m1 0 ((nI 0), (nI 0))).1) (((v11_33 q cc gc (Ar h 153) (Ar h 154) m1 i m1 0 ((nI 0), (nI 0))).1) + (nI 1)))), 198, sl) = some R := hh
    obtain ⟨n, hh⟩ := en_inc (x := i) (c := 1) (j := 2) rfl rfl (by decide) hh
    have hh : pm_run PT n fr lo 11 (105, [some (.ref 151), some (.int (nI m1)), some (.int (nI (i + 1))), some (.int ((v11_33 q cc gc (Ar h 153) (Ar h 154) m1 i m1 0 ((nI 0), (nI 0))).1)), some (.int ((v11_33 q cc gc (Ar h 153) (Ar h 154) m1 i m1 0 ((nI 0), (nI 0))).2)), u7], [], aset h 154 64 (upd (Ar h 154) i (cond (pm_cmp .ne ((v11_33 q cc gc (Ar h 153) (Ar h 154) m1 i m1 0 ((nI 0), (nI 0))).2) 0) ((v11_33 q cc gc (Ar h 153) (Ar h 154) m1 i m1 0 ((nI 0), (nI 0))).1) (((v11_33 q cc gc (Ar h 153) (Ar h 154) m1 i m1 0 ((nI 0), (nI 0))).1) + (nI 1)))), 198, sl) = some R := hh
    obtain ⟨n, hh⟩ := rn_i rfl rfl rfl rfl hh
    have ed : v11_9b q cc gc h m1 i = .inl (aset h 154 64 (upd (Ar h 154) i (cond (pm_cmp .ne ((v11_33 q cc gc (Ar h 153) (Ar h 154) m1 i m1 0 ((nI 0), (nI 0))).2) 0) ((v11_33 q cc gc (Ar h 153) (Ar h 154) m1 i m1 0 ((nI 0), (nI 0))).1) (((v11_33 q cc gc (Ar h 153) (Ar h 154) m1 i m1 0 ((nI 0), (nI 0))).1) + (nI 1))))) := (cf z4).trans rfl
    exact Or.inl ⟨n, _, some (.int ((v11_33 q cc gc (Ar h 153) (Ar h 154) m1 i m1 0 ((nI 0), (nI 0))).1)), some (.int ((v11_33 q cc gc (Ar h 153) (Ar h 154) m1 i m1 0 ((nI 0), (nI 0))).2)), u7, ed, (hc_a rfl rfl hw), (fr_a rfl rfl fr_0), hh⟩
theorem v11_9_ok {fr lo sl cc gc : Nat} {q : QT} {R : pm_Rs} {m1 : Nat} : ∀ {j i : Nat} {o3 : Option Value} {o4 : Option Value} {o5 : Option Value} {h : pm_H} {n : Nat}, 2 ^ m1 - i = j → i + j < 1000000 → HC q cc gc h → m1 < 7 → pm_run PT n fr lo 11 (9, [some (.ref 151), some (.int (nI m1)), some (.int (nI i)), o3, o4, o5], [], h, 198, sl) = some R → (∃ m, ∃ a : pm_H, ∃ wc w3 w4 w5, v11_9 q cc gc m1 j i h = .inl a ∧ HC q cc gc (a) ∧ frm [154] [] h (a) ∧ pm_run PT m fr lo 11 (108, [some (.ref 151), some (.int (nI m1)), wc, w3, w4, w5], [], a, 198, sl) = some R) ∨ (∃ m, ∃ a : pm_H, ∃ wc w3 w4 w5, v11_9 q cc gc m1 j i h = .inr a ∧ HC q cc gc (a) ∧ frm [154] [] h (a) ∧ pm_run PT m fr lo 11 (108, [some (.ref 151), some (.int (nI m1)), wc, w3, w4, w5], [], a, 198, sl) = some R) := by
  intro j
  induction j with
  | zero =>
    intro i o3 o4 o5 h n e eI hw h_m1 hh
    obtain ⟨n, hh⟩ := v11_9_e hw h_m1 (by omega) (by omega) hh
    exact Or.inl ⟨n, _, _, o3, o4, o5, rfl, hw, fr_0, hh⟩
  | succ j ih =>
    intro i o3 o4 o5 h n e eI hw h_m1 hh
    rcases v11_9_s hw h_m1 (by omega) (by omega) hh with ⟨n, a, w3, w4, w5, e1, hc, hf, hh⟩ | ⟨n, a, wc, w3, w4, w5, e1, hc, hf, hh⟩
    · rcases ih (by omega) (by omega) hc h_m1 hh with ⟨n, b, wc, v3, v4, v5, e2, hc2, hf2, hh⟩ | ⟨n, b, wc, v3, v4, v5, e2, hc2, hf2, hh⟩
      · exact Or.inl ⟨n, b, wc, v3, v4, v5, (lpE_l e1).trans e2, hc2, fr_t hf2 hf, hh⟩
      · exact Or.inr ⟨n, b, wc, v3, v4, v5, (lpE_l e1).trans e2, hc2, fr_t hf2 hf, hh⟩
    · exact Or.inr ⟨n, a, wc, w3, w4, w5, lpE_r e1, hc, hf, hh⟩
theorem v11_9_fb {cc gc : Nat} {q : QT} {h : pm_H} {m1 : Nat} {i : Nat} (hw : HC q cc gc h) : (∀ b, v11_9b q cc gc h m1 i = .inl b → HC q cc gc (b) ∧ frm [154] [] h (b)) ∧ ∀ b, v11_9b q cc gc h m1 i = .inr b → HC q cc gc (b) ∧ frm [154] [] h (b) := by
  unfold v11_9b
  refine cd_s (P := fun (p : (pm_H) ⊕ (pm_H)) => (∀ b, p = .inl b → HC q cc gc (b) ∧ frm [154] [] h (b)) ∧ ∀ b, p = .inr b → HC q cc gc (b) ∧ frm [154] [] h (b)) (b := decide (64 ≤ i)) (fun _ => ?_) (fun _ => ?_)
  · exact ⟨fun b e => (by cases e), fun b e => by cases e; exact ⟨hw, fr_0⟩⟩
  · exact ⟨fun b e => by cases e; exact ⟨(hc_a rfl rfl hw), (fr_a rfl rfl fr_0)⟩, fun b e => (by cases e)⟩
theorem v11_9_fr {cc gc : Nat} {q : QT} {m1 : Nat} : ∀ {j i : Nat} {h : pm_H}, HC q cc gc h → (∀ b, v11_9 q cc gc m1 j i h = .inl b → HC q cc gc (b) ∧ frm [154] [] h (b)) ∧ ∀ b, v11_9 q cc gc m1 j i h = .inr b → HC q cc gc (b) ∧ frm [154] [] h (b) := by
  intro j
  induction j with
  | zero =>
    intro i h hw
    exact ⟨fun b e => by cases e; exact ⟨hw, fr_0⟩, fun b e => (by cases e)⟩
  | succ j ih =>
    intro i h hw
    have hb := v11_9_fb (i := i) (m1 := m1) hw
    cases e : v11_9b q cc gc h m1 i with
    | inl b =>
      obtain ⟨a1, a2⟩ := hb.1 b e
      have h2 := ih (i := i + 1) a1
      exact ⟨fun r e2 => ⟨(h2.1 r ((lpE_l e).symm.trans e2)).1, fr_t (h2.1 r ((lpE_l e).symm.trans e2)).2 a2⟩, fun r e2 => ⟨(h2.2 r ((lpE_l e).symm.trans e2)).1, fr_t (h2.2 r ((lpE_l e).symm.trans e2)).2 a2⟩⟩
    | inr b =>
      exact ⟨fun r e2 => (by have e3 := (lpE_r e).symm.trans e2; cases e3), fun r e2 => (by have e3 := (lpE_r e).symm.trans e2; cases e3; exact hb.2 _ e)⟩
def v11 (q : QT) (cc gc : Nat) (h : pm_H) (o : Nat) : Int32 × pm_H := Sum.elim (fun a8 => ((nI o) - ((Ar a8 154) (((nI (2 ^ o)) - (nI 1)).toNatClampNeg)), a8)) (fun r9 => ((nI o) - ((Ar r9 154) (((nI (2 ^ o)) - (nI 1)).toNatClampNeg)), r9)) (v11_9 q cc gc o (2 ^ o - 1) 1 (aset h 154 64 (upd (Ar h 154) 0 (nI 0))))
theorem v11_ok {n fr lo sl cc gc : Nat} {q : QT} {h : pm_H} {R : pm_Rs} {o : Nat} (hw : HC q cc gc h) (h_o : o < 7) (hh : pm_run PT n fr lo 11 (0, pm_l0 [.ref 151, .int (nI o)] 6, [], h, 198, sl) = some R) : R = (some (.int ((v11 q cc gc h o).1)), (v11 q cc gc h o).2, 198, sl) ∧ HC q cc gc ((v11 q cc gc h o).2) ∧ frm [154] [] h ((v11 q cc gc h o).2) := by
  have hcc := hw.cb
  have hgc := hw.gb
  have hzr := hw.zr
  obtain ⟨n, hh⟩ := rn_i rfl rfl rfl rfl hh
  have hh : pm_run PT n fr lo 11 (1, [some (.ref 151), some (.int (nI o)), none, none, none, none], [.ref 151], h, 198, sl) = some R := hh
  obtain ⟨n, hh⟩ := rn_gr hw.wt rfl rfl (by decide) rfl (by decide) (show _ = some (2, ((154 : Nat) : Int), 1) from rfl) rfl hh
  obtain ⟨n, hh⟩ := rn_i rfl rfl rfl rfl hh
  obtain ⟨n, hh⟩ := rn_i rfl rfl rfl rfl hh
  have hh : pm_run PT n fr lo 11 (6, [some (.ref 151), some (.int (nI o)), none, none, none, none], [.int (nI 0), .int (nI 0), .ref 154], h, 198, sl) = some R := hh
  obtain ⟨n, hx1, hh⟩ := en_st (t := 0) (f := Ar h 154) (nI_clamp (by omega)) hw.wt rfl (by decide) rfl (by decide) rfl hh
  obtain ⟨n, hh⟩ := rn_i rfl rfl rfl rfl hh
  obtain ⟨n, hh⟩ := rn_i rfl rfl rfl rfl hh
  have hh : pm_run PT n fr lo 11 (9, [some (.ref 151), some (.int (nI o)), some (.int (nI 1)), none, none, none], [], aset h 154 64 (upd (Ar h 154) 0 (nI 0)), 198, sl) = some R := hh
  have hb2 := en_pw (show o ≤ 8 by omega)
  have hb3 := Nat.two_pow_pos o
  rcases v11_9_ok (m1 := o)  (i := 1) (o3 := none) (o4 := none) (o5 := none) (j := (2 ^ o - 1)) (by omega) (by omega) (hc_a rfl rfl hw) (by omega) hh with ⟨n, a8, u7, u4, u5, u6, hs10, hc_a8, hf_a8, hh⟩ | ⟨n, r9, u7, u4, u5, u6, hs10, hc_r9, hf_r9, hh⟩
  ·
    have hh : pm_run PT n fr lo 11 (108, [some (.ref 151), some (.int (nI o)), u7, u4, u5, u6], [], a8, 198, sl) = some R := hh
    obtain ⟨n, hh⟩ := rn_i rfl rfl rfl rfl hh
    obtain ⟨n, hh⟩ := rn_i rfl rfl rfl rfl hh
    have hh : pm_run PT n fr lo 11 (110, [some (.ref 151), some (.int (nI o)), u7, u4, u5, u6], [.ref 151, .int (nI o)], a8, 198, sl) = some R := hh
    obtain ⟨n, hh⟩ := rn_gr hc_a8.wt rfl rfl (by decide) rfl (by decide) (show _ = some (2, ((154 : Nat) : Int), 1) from rfl) rfl hh
    obtain ⟨n, hh⟩ := rn_i rfl rfl rfl rfl hh
    obtain ⟨n, hh⟩ := rn_i rfl rfl rfl rfl hh
    have hh : pm_run PT n fr lo 11 (115, [some (.ref 151), some (.int (nI o)), u7, u4, u5, u6], [.int (nI o), .int (nI 1), .ref 154, .int (nI o)], a8, 198, sl) = some R := hh
    have hb11 := en_pw (show o ≤ 8 by omega)
    obtain ⟨n, hh⟩ := en_shl (y := o) (by omega) rfl hh
    have hh : pm_run PT n fr lo 11 (116, [some (.ref 151), some (.int (nI o)), u7, u4, u5, u6], [.int (nI (2 ^ o)), .ref 154, .int (nI o)], a8, 198, sl) = some R := hh
    obtain ⟨n, hh⟩ := rn_i rfl rfl rfl rfl hh
    obtain ⟨n, hh⟩ := rn_i rfl rfl rfl rfl hh
    have hh : pm_run PT n fr lo 11 (118, [some (.ref 151), some (.int (nI o)), u7, u4, u5, u6], [.int ((nI (2 ^ o)) - (nI 1)), .ref 154, .int (nI o)], a8, 198, sl) = some R := hh
    obtain ⟨n, hx12, hh⟩ := en_lu (t := ((nI (2 ^ o)) - (nI 1)).toNatClampNeg) (f := Ar a8 154) (w := (Ar a8 154) (((nI (2 ^ o)) - (nI 1)).toNatClampNeg)) rfl hc_a8.wt rfl (by decide) rfl (by decide) rfl (fun _ => rfl) hh
    obtain ⟨n, hh⟩ := rn_i rfl rfl rfl rfl hh
    have hh : pm_run PT n fr lo 11 (120, [some (.ref 151), some (.int (nI o)), u7, u4, u5, u6], [.int ((nI o) - ((Ar a8 154) (((nI (2 ^ o)) - (nI 1)).toNatClampNeg)))], a8, 198, sl) = some R := hh
    have er13 : R = (some (.int ((nI o) - ((Ar a8 154) (((nI (2 ^ o)) - (nI 1)).toNatClampNeg)))), a8, 198, sl) := (rn_ret rfl (Or.inl rfl) hh).2
    have ed : v11 q cc gc h o = ((nI o) - ((Ar a8 154) (((nI (2 ^ o)) - (nI 1)).toNatClampNeg)), a8) := (se_l hs10).trans rfl
    refine ⟨?_, ?_, ?_⟩ <;> rw [ed]
    · exact er13
    · exact hc_a8
    · exact (fr_g rfl rfl hf_a8 (fr_a rfl rfl fr_0))
  ·
    have hh : pm_run PT n fr lo 11 (108, [some (.ref 151), some (.int (nI o)), u7, u4, u5, u6], [], r9, 198, sl) = some R := hh
    obtain ⟨n, hh⟩ := rn_i rfl rfl rfl rfl hh
    obtain ⟨n, hh⟩ := rn_i rfl rfl rfl rfl hh
    have hh : pm_run PT n fr lo 11 (110, [some (.ref 151), some (.int (nI o)), u7, u4, u5, u6], [.ref 151, .int (nI o)], r9, 198, sl) = some R := hh
    obtain ⟨n, hh⟩ := rn_gr hc_r9.wt rfl rfl (by decide) rfl (by decide) (show _ = some (2, ((154 : Nat) : Int), 1) from rfl) rfl hh
    obtain ⟨n, hh⟩ := rn_i rfl rfl rfl rfl hh
    obtain ⟨n, hh⟩ := rn_i rfl rfl rfl rfl hh
    have hh : pm_run PT n fr lo 11 (115, [some (.ref 151), some (.int (nI o)), u7, u4, u5, u6], [.int (nI o), .int (nI 1), .ref 154, .int (nI o)], r9, 198, sl) = some R := hh
    have hb14 := en_pw (show o ≤ 8 by omega)
    obtain ⟨n, hh⟩ := en_shl (y := o) (by omega) rfl hh
    have hh : pm_run PT n fr lo 11 (116, [some (.ref 151), some (.int (nI o)), u7, u4, u5, u6], [.int (nI (2 ^ o)), .ref 154, .int (nI o)], r9, 198, sl) = some R := hh
    obtain ⟨n, hh⟩ := rn_i rfl rfl rfl rfl hh
    obtain ⟨n, hh⟩ := rn_i rfl rfl rfl rfl hh
    have hh : pm_run PT n fr lo 11 (118, [some (.ref 151), some (.int (nI o)), u7, u4, u5, u6], [.int ((nI (2 ^ o)) - (nI 1)), .ref 154, .int (nI o)], r9, 198, sl) = some R := hh
    obtain ⟨n, hx15, hh⟩ := en_lu (t := ((nI (2 ^ o)) - (nI 1)).toNatClampNeg) (f := Ar r9 154) (w := (Ar r9 154) (((nI (2 ^ o)) - (nI 1)).toNatClampNeg)) rfl hc_r9.wt rfl (by decide) rfl (by decide) rfl (fun _ => rfl) hh
    obtain ⟨n, hh⟩ := rn_i rfl rfl rfl rfl hh
    have hh : pm_run PT n fr lo 11 (120, [some (.ref 151), some (.int (nI o)), u7, u4, u5, u6], [.int ((nI o) - ((Ar r9 154) (((nI (2 ^ o)) - (nI 1)).toNatClampNeg)))], r9, 198, sl) = some R := hh
    have er16 : R = (some (.int ((nI o) - ((Ar r9 154) (((nI (2 ^ o)) - (nI 1)).toNatClampNeg)))), r9, 198, sl) := (rn_ret rfl (Or.inl rfl) hh).2
    have ed : v11 q cc gc h o = ((nI o) - ((Ar r9 154) (((nI (2 ^ o)) - (nI 1)).toNatClampNeg)), r9) := (se_r hs10).trans rfl
    refine ⟨?_, ?_, ?_⟩ <;> rw [ed]
    · exact er16
    · exact hc_r9
    · exact (fr_g rfl rfl hf_r9 (fr_a rfl rfl fr_0))
theorem v11_fr {cc gc : Nat} {q : QT} {h : pm_H} {o : Nat} (hw : HC q cc gc h) : HC q cc gc ((v11 q cc gc h o).2) ∧ frm [154] [] h ((v11 q cc gc h o).2) := by
  unfold v11
  have hp_a8 := v11_9_fr (m1 := o) (j := (2 ^ o - 1)) (i := 1) (h := (aset h 154 64 (upd (Ar h 154) 0 (nI 0)))) (hc_a rfl rfl hw)
  cases hs_a8 : v11_9 q cc gc o (2 ^ o - 1) 1 (aset h 154 64 (upd (Ar h 154) 0 (nI 0))) with
  | inl a8 =>
    obtain ⟨hc_a8, hf_a8⟩ := hp_a8.1 _ hs_a8
    show HC q cc gc (a8) ∧ frm [154] [] h (a8)
    exact ⟨hc_a8, (fr_g rfl rfl hf_a8 (fr_a rfl rfl fr_0))⟩
  | inr r9 =>
    obtain ⟨hc_r9, hf_r9⟩ := hp_a8.2 _ hs_a8
    show HC q cc gc (r9) ∧ frm [154] [] h (r9)
    exact ⟨hc_r9, (fr_g rfl rfl hf_r9 (fr_a rfl rfl fr_0))⟩
end EZ
