/-! runs told exactly, written by ext.py -/
section EW
def v96w1 (q : QT) (cc gc : Nat) (g : Int32) (c : Int32) : Int32 := (Int32.ofInt (-1))
theorem v96w1_ok {n fr lo sl cc gc : Nat} {q : QT} {h : pm_H} {R : pm_Rs} {g : Int32} {c : Int32} (hw : HC q cc gc h) (hb1 : cB gc g = false) (hh : pm_run PT n fr lo 96 (0, pm_l0 [.ref 0, .int g, .int c] 7, [], h, 198, sl) = some R) : R = (some (.int (v96w1 q cc gc g c)), h, 198, sl) := by
  have hcc := hw.cb
  have hgc := hw.gb
  have hzr := hw.zr
  obtain ⟨n, hh⟩ := rn_i rfl rfl rfl rfl hh
  obtain ⟨n, hh⟩ := rn_i rfl rfl rfl rfl hh
  obtain ⟨n, hh⟩ := rn_i rfl rfl rfl rfl hh
  have hh : pm_run PT n fr lo 96 (3, [some (.ref 0), some (.int g), some (.int c), none, none, none, none], [.int c, .int g, .ref 0], h, 198, sl) = some R := hh
  obtain ⟨n, fr1, lo1, r1, hh1, hh⟩ := rn_call (w := 0) (t := 136) rfl rfl hh
  have hh1 : pm_run PT n fr1 lo1 136 (0, [some (.ref 0), some (.int g), some (.int c)], [], h, 198, sl) = some r1 := hh1
  obtain ⟨n1, hh1⟩ := rn_i rfl rfl rfl rfl hh1
  have hh1 : pm_run PT n1 fr1 lo1 136 (1, [some (.ref 0), some (.int g), some (.int c)], [.ref 0], h, 198, sl) = some r1 := hh1
  obtain ⟨n1, hh1⟩ := rn_gr hw.wt rfl rfl (by decide) rfl (by decide) (show _ = some (2, ((5 : Nat) : Int), 1) from rfl) rfl hh1
  obtain ⟨n1, hh1⟩ := rn_i rfl rfl rfl rfl hh1
  have hh1 : pm_run PT n1 fr1 lo1 136 (5, [some (.ref 0), some (.int g), some (.int c)], [.int g, .ref 5], h, 198, sl) = some r1 := hh1
  obtain ⟨n1, fr2, lo2, r2, hh2, hh1⟩ := rn_call (w := 0) (t := 25) rfl rfl hh1
  have er1 := en_xg hgc (hc_rG hw) hh2
  subst er1
  have hh1 : pm_run PT n1 fr1 lo1 136 (8, [some (.ref 0), some (.int g), some (.int c)], [.int (cond (cB gc g) 1 0)], h, 198, sl) = some r1 := hh1
  obtain ⟨n1, hh1⟩ := en_zn (cc := .eq) (off := 14) (t := 22) (b := !(cB gc g)) eb_eq rfl rfl hh1
  have hh1 := en_nf hb1 hh1
  have hh1 : pm_run PT n1 fr1 lo1 136 (22, [some (.ref 0), some (.int g), some (.int c)], [], h, 198, sl) = some r1 := hh1
  obtain ⟨n1, hh1⟩ := rn_i rfl rfl rfl rfl hh1
  have hh1 : pm_run PT n1 fr1 lo1 136 (23, [some (.ref 0), some (.int g), some (.int c)], [.int (Int32.ofInt (-1))], h, 198, sl) = some r1 := hh1
  have er2 : r1 = (some (.int (Int32.ofInt (-1))), h, 198, sl) := (rn_ret rfl (Or.inl rfl) hh1).2
  subst er2
  obtain ⟨n, hh⟩ := rn_i rfl rfl rfl rfl hh
  obtain ⟨n, hh⟩ := rn_i rfl rfl rfl rfl hh
  have hh : pm_run PT n fr lo 96 (8, [some (.ref 0), some (.int g), some (.int c), some (.int (Int32.ofInt (-1))), none, none, none], [.int (Int32.ofInt (-1))], h, 198, sl) = some R := hh
  obtain ⟨n, hh⟩ := en_zn (cc := .ge) (off := 5) (t := 13) (b := pm_cmp .ge (Int32.ofInt (-1)) 0) rfl rfl rfl hh
  have hh := en_f (by decide) hh
  have hh : pm_run PT n fr lo 96 (11, [some (.ref 0), some (.int g), some (.int c), some (.int (Int32.ofInt (-1))), none, none, none], [], h, 198, sl) = some R := hh
  obtain ⟨n, hh⟩ := rn_i rfl rfl rfl rfl hh
  have hh : pm_run PT n fr lo 96 (12, [some (.ref 0), some (.int g), some (.int c), some (.int (Int32.ofInt (-1))), none, none, none], [.int (Int32.ofInt (-1))], h, 198, sl) = some R := hh
  have er3 : R = (some (.int (Int32.ofInt (-1))), h, 198, sl) := (rn_ret rfl (Or.inl rfl) hh).2
  have ed : v96w1 q cc gc g c = (Int32.ofInt (-1)) := rfl
  rw [ed]
  exact er3
def v222w1 (q : QT) (cc gc : Nat) (h : pm_H) (u : Nat) (g : Int32) (c : Int32) : Int32 × pm_H := ((Int32.ofInt (-1)), v211 q cc gc (fset h 162 0 (.int (nI 0))) u)
theorem v222w1_ok {n fr lo sl cc gc : Nat} {q : QT} {h : pm_H} {R : pm_Rs} {u : Nat} {g : Int32} {c : Int32} (hw : HC q cc gc h) (hb1 : cB gc g = false) (hu : u ≤ 15) (e1 : Fi h 162 27 = nI u) (hh : pm_run PT n fr lo 222 (0, pm_l0 [.ref 162, .int g, .int c] 4, [], h, 198, sl) = some R) : R = (some (.int ((v222w1 q cc gc h u g c).1)), (v222w1 q cc gc h u g c).2, 198, sl) ∧ HC q cc gc ((v222w1 q cc gc h u g c).2) ∧ frm [162, 178] [(162, 0)] h ((v222w1 q cc gc h u g c).2) := by
  have hcc := hw.cb
  have hgc := hw.gb
  have hzr := hw.zr
  obtain ⟨n, hh⟩ := rn_i rfl rfl rfl rfl hh
  obtain ⟨n, hh⟩ := rn_i rfl rfl rfl rfl hh
  have hh : pm_run PT n fr lo 222 (2, [some (.ref 162), some (.int g), some (.int c), none], [.int (nI 0), .ref 162], h, 198, sl) = some R := hh
  obtain ⟨n, hh⟩ := rn_pi hw.wt rfl rfl (by decide) rfl (by decide) rfl hh
  obtain ⟨n, hh⟩ := rn_i rfl rfl rfl rfl hh
  have hh : pm_run PT n fr lo 222 (6, [some (.ref 162), some (.int g), some (.int c), none], [.ref 162], fset h 162 0 (.int (nI 0)), 198, sl) = some R := hh
  obtain ⟨n, fr1, lo1, r1, hh1, hh⟩ := rn_call (w := 0) (t := 211) rfl rfl hh
  obtain ⟨er1, hc2, hf3⟩ := v211_ok (u := u) (hc_f rfl rfl (by decide) rfl hw) hu ((Fi_n (Or.inr (by decide))).trans e1) hh1
  subst er1
  obtain ⟨n, hh⟩ := rn_i rfl rfl rfl rfl hh
  obtain ⟨n, hh⟩ := rn_i rfl rfl rfl rfl hh
  obtain ⟨n, hh⟩ := rn_i rfl rfl rfl rfl hh
  have hh : pm_run PT n fr lo 222 (12, [some (.ref 162), some (.int g), some (.int c), none], [.ref 162, .ref 162, .ref 162], v211 q cc gc (fset h 162 0 (.int (nI 0))) u, 198, sl) = some R := hh
  obtain ⟨n, hh⟩ := rn_gr hc2.wt rfl rfl (by decide) rfl (by decide) (show _ = some (2, ((170 : Nat) : Int), 1) from rfl) rfl hh
  obtain ⟨n, hh⟩ := rn_i rfl rfl rfl rfl hh
  obtain ⟨n, hh⟩ := rn_i rfl rfl rfl rfl hh
  have hh : pm_run PT n fr lo 222 (17, [some (.ref 162), some (.int g), some (.int c), none], [.int c, .int g, .ref 170, .ref 162, .ref 162], v211 q cc gc (fset h 162 0 (.int (nI 0))) u, 198, sl) = some R := hh
  obtain ⟨n, fr1, lo1, r1, hh1, hh⟩ := rn_call (w := 0) (t := 217) rfl rfl hh
  have hh1 : pm_run PT n fr1 lo1 217 (0, [some (.ref 162), some (.ref 170), some (.int g), some (.int c), none, none, none, none, none], [], v211 q cc gc (fset h 162 0 (.int (nI 0))) u, 198, sl) = some r1 := hh1
  obtain ⟨n1, hh1⟩ := rn_i rfl rfl rfl rfl hh1
  obtain ⟨n1, hh1⟩ := rn_i rfl rfl rfl rfl hh1
  have hh1 : pm_run PT n1 fr1 lo1 217 (2, [some (.ref 162), some (.ref 170), some (.int g), some (.int c), none, none, none, none, none], [.int g, .ref 162], v211 q cc gc (fset h 162 0 (.int (nI 0))) u, 198, sl) = some r1 := hh1
  obtain ⟨n1, fr2, lo2, r2, hh2, hh1⟩ := rn_call (w := 0) (t := 169) rfl rfl hh1
  have er4 := en_mg hgc (hc_m4 hc2) hh2
  subst er4
  have hh1 : pm_run PT n1 fr1 lo1 217 (5, [some (.ref 162), some (.ref 170), some (.int g), some (.int c), none, none, none, none, none], [.int (cond (cB gc g) 1 0)], v211 q cc gc (fset h 162 0 (.int (nI 0))) u, 198, sl) = some r1 := hh1
  obtain ⟨n1, hh1⟩ := en_zn (cc := .eq) (off := 11) (t := 16) (b := !(cB gc g)) eb_eq rfl rfl hh1
  have hh1 := en_nf hb1 hh1
  have hh1 : pm_run PT n1 fr1 lo1 217 (16, [some (.ref 162), some (.ref 170), some (.int g), some (.int c), none, none, none, none, none], [], v211 q cc gc (fset h 162 0 (.int (nI 0))) u, 198, sl) = some r1 := hh1
  obtain ⟨n1, hh1⟩ := rn_i rfl rfl rfl rfl hh1
  have hh1 : pm_run PT n1 fr1 lo1 217 (17, [some (.ref 162), some (.ref 170), some (.int g), some (.int c), none, none, none, none, none], [.int (Int32.ofInt (-1))], v211 q cc gc (fset h 162 0 (.int (nI 0))) u, 198, sl) = some r1 := hh1
  have er5 : r1 = (some (.int (Int32.ofInt (-1))), v211 q cc gc (fset h 162 0 (.int (nI 0))) u, 198, sl) := (rn_ret rfl (Or.inl rfl) hh1).2
  subst er5
  have hh : pm_run PT n fr lo 222 (20, [some (.ref 162), some (.int g), some (.int c), none], [.int (Int32.ofInt (-1)), .ref 162], v211 q cc gc (fset h 162 0 (.int (nI 0))) u, 198, sl) = some R := hh
  obtain ⟨n, fr1, lo1, r1, hh1, hh⟩ := rn_call (w := 0) (t := 213) rfl rfl hh
  have hh1 : pm_run PT n fr1 lo1 213 (0, [some (.ref 162), some (.int (Int32.ofInt (-1)))], [], v211 q cc gc (fset h 162 0 (.int (nI 0))) u, 198, sl) = some r1 := hh1
  obtain ⟨n1, hh1⟩ := rn_i rfl rfl rfl rfl hh1
  have hh1 : pm_run PT n1 fr1 lo1 213 (1, [some (.ref 162), some (.int (Int32.ofInt (-1)))], [.int (Int32.ofInt (-1))], v211 q cc gc (fset h 162 0 (.int (nI 0))) u, 198, sl) = some r1 := hh1
  obtain ⟨n1, hh1⟩ := en_zn (cc := .ge) (off := 7) (t := 8) (b := pm_cmp .ge (Int32.ofInt (-1)) 0) rfl rfl rfl hh1
  have hh1 := en_f (by decide) hh1
  have hh1 : pm_run PT n1 fr1 lo1 213 (4, [some (.ref 162), some (.int (Int32.ofInt (-1)))], [], v211 q cc gc (fset h 162 0 (.int (nI 0))) u, 198, sl) = some r1 := hh1
  obtain ⟨n1, hh1⟩ := rn_i rfl rfl rfl rfl hh1
  obtain ⟨n1, hh1⟩ := rn_i rfl rfl rfl rfl hh1
  have hh1 : pm_run PT n1 fr1 lo1 213 (13, [some (.ref 162), some (.int (Int32.ofInt (-1)))], [.int (Int32.ofInt (-1))], v211 q cc gc (fset h 162 0 (.int (nI 0))) u, 198, sl) = some r1 := hh1
  have er6 : r1 = (some (.int (Int32.ofInt (-1))), v211 q cc gc (fset h 162 0 (.int (nI 0))) u, 198, sl) := (rn_ret rfl (Or.inl rfl) hh1).2
  subst er6
  obtain ⟨n, hh⟩ := rn_i rfl rfl rfl rfl hh
  obtain ⟨n, hh⟩ := rn_i rfl rfl rfl rfl hh
  have hh : pm_run PT n fr lo 222 (25, [some (.ref 162), some (.int g), some (.int c), some (.int (Int32.ofInt (-1)))], [.int (Int32.ofInt (-1))], v211 q cc gc (fset h 162 0 (.int (nI 0))) u, 198, sl) = some R := hh
  obtain ⟨n, hh⟩ := en_zn (cc := .lt) (off := 26) (t := 51) (b := pm_cmp .lt (Int32.ofInt (-1)) 0) rfl rfl rfl hh
  have hh := en_t (by decide) hh
  have hh : pm_run PT n fr lo 222 (51, [some (.ref 162), some (.int g), some (.int c), some (.int (Int32.ofInt (-1)))], [], v211 q cc gc (fset h 162 0 (.int (nI 0))) u, 198, sl) = some R := hh
  obtain ⟨n, hh⟩ := rn_i rfl rfl rfl rfl hh
  have hh : pm_run PT n fr lo 222 (52, [some (.ref 162), some (.int g), some (.int c), some (.int (Int32.ofInt (-1)))], [.int (Int32.ofInt (-1))], v211 q cc gc (fset h 162 0 (.int (nI 0))) u, 198, sl) = some R := hh
  have er7 : R = (some (.int (Int32.ofInt (-1))), v211 q cc gc (fset h 162 0 (.int (nI 0))) u, 198, sl) := (rn_ret rfl (Or.inl rfl) hh).2
  have ed : v222w1 q cc gc h u g c = ((Int32.ofInt (-1)), v211 q cc gc (fset h 162 0 (.int (nI 0))) u) := rfl
  refine ⟨?_, ?_, ?_⟩ <;> rw [ed]
  · exact er7
  · exact hc2
  · exact (fr_g rfl rfl hf3 (fr_f rfl rfl fr_0))
theorem v96w2_ok {n fr lo sl cc gc : Nat} {q : QT} {h : pm_H} {R : pm_Rs} {g : Int32} {c : Int32} (hw : HC q cc gc h) (hb1 : cB gc g = true) (hb2 : cB cc c = false) (hh : pm_run PT n fr lo 96 (0, pm_l0 [.ref 0, .int g, .int c] 7, [], h, 198, sl) = some R) : R = (some (.int (v96w1 q cc gc g c)), h, 198, sl) := by
  have hcc := hw.cb
  have hgc := hw.gb
  have hzr := hw.zr
  obtain ⟨n, hh⟩ := rn_i rfl rfl rfl rfl hh
  obtain ⟨n, hh⟩ := rn_i rfl rfl rfl rfl hh
  obtain ⟨n, hh⟩ := rn_i rfl rfl rfl rfl hh
  have hh : pm_run PT n fr lo 96 (3, [some (.ref 0), some (.int g), some (.int c), none, none, none, none], [.int c, .int g, .ref 0], h, 198, sl) = some R := hh
  obtain ⟨n, fr1, lo1, r1, hh1, hh⟩ := rn_call (w := 0) (t := 136) rfl rfl hh
  have hh1 : pm_run PT n fr1 lo1 136 (0, [some (.ref 0), some (.int g), some (.int c)], [], h, 198, sl) = some r1 := hh1
  obtain ⟨n1, hh1⟩ := rn_i rfl rfl rfl rfl hh1
  have hh1 : pm_run PT n1 fr1 lo1 136 (1, [some (.ref 0), some (.int g), some (.int c)], [.ref 0], h, 198, sl) = some r1 := hh1
  obtain ⟨n1, hh1⟩ := rn_gr hw.wt rfl rfl (by decide) rfl (by decide) (show _ = some (2, ((5 : Nat) : Int), 1) from rfl) rfl hh1
  obtain ⟨n1, hh1⟩ := rn_i rfl rfl rfl rfl hh1
  have hh1 : pm_run PT n1 fr1 lo1 136 (5, [some (.ref 0), some (.int g), some (.int c)], [.int g, .ref 5], h, 198, sl) = some r1 := hh1
  obtain ⟨n1, fr2, lo2, r2, hh2, hh1⟩ := rn_call (w := 0) (t := 25) rfl rfl hh1
  have er1 := en_xg hgc (hc_rG hw) hh2
  subst er1
  have hh1 : pm_run PT n1 fr1 lo1 136 (8, [some (.ref 0), some (.int g), some (.int c)], [.int (cond (cB gc g) 1 0)], h, 198, sl) = some r1 := hh1
  obtain ⟨n1, hh1⟩ := en_zn (cc := .eq) (off := 14) (t := 22) (b := !(cB gc g)) eb_eq rfl rfl hh1
  have hh1 := en_nt hb1 hh1
  have hh1 : pm_run PT n1 fr1 lo1 136 (11, [some (.ref 0), some (.int g), some (.int c)], [], h, 198, sl) = some r1 := hh1
  obtain ⟨n1, hh1⟩ := rn_i rfl rfl rfl rfl hh1
  have hh1 : pm_run PT n1 fr1 lo1 136 (12, [some (.ref 0), some (.int g), some (.int c)], [.ref 0], h, 198, sl) = some r1 := hh1
  obtain ⟨n1, hh1⟩ := rn_gr hw.wt rfl rfl (by decide) rfl (by decide) (show _ = some (2, ((5 : Nat) : Int), 1) from rfl) rfl hh1
  obtain ⟨n1, hh1⟩ := rn_i rfl rfl rfl rfl hh1
  have hh1 : pm_run PT n1 fr1 lo1 136 (16, [some (.ref 0), some (.int g), some (.int c)], [.int c, .ref 5], h, 198, sl) = some r1 := hh1
  obtain ⟨n1, fr2, lo2, r2, hh2, hh1⟩ := rn_call (w := 0) (t := 23) rfl rfl hh1
  have er2 := xi_run hcc (hc_rC hw) hh2
  subst er2
  have hh1 : pm_run PT n1 fr1 lo1 136 (19, [some (.ref 0), some (.int g), some (.int c)], [.int (cond (cB cc c) 1 0)], h, 198, sl) = some r1 := hh1
  obtain ⟨n1, hh1⟩ := en_zn (cc := .ne) (off := 5) (t := 24) (b := cB cc c) eb_ne rfl rfl hh1
  have hh1 := en_f hb2 hh1
  have hh1 : pm_run PT n1 fr1 lo1 136 (22, [some (.ref 0), some (.int g), some (.int c)], [], h, 198, sl) = some r1 := hh1
  obtain ⟨n1, hh1⟩ := rn_i rfl rfl rfl rfl hh1
  have hh1 : pm_run PT n1 fr1 lo1 136 (23, [some (.ref 0), some (.int g), some (.int c)], [.int (Int32.ofInt (-1))], h, 198, sl) = some r1 := hh1
  have er3 : r1 = (some (.int (Int32.ofInt (-1))), h, 198, sl) := (rn_ret rfl (Or.inl rfl) hh1).2
  subst er3
  obtain ⟨n, hh⟩ := rn_i rfl rfl rfl rfl hh
  obtain ⟨n, hh⟩ := rn_i rfl rfl rfl rfl hh
  have hh : pm_run PT n fr lo 96 (8, [some (.ref 0), some (.int g), some (.int c), some (.int (Int32.ofInt (-1))), none, none, none], [.int (Int32.ofInt (-1))], h, 198, sl) = some R := hh
  obtain ⟨n, hh⟩ := en_zn (cc := .ge) (off := 5) (t := 13) (b := pm_cmp .ge (Int32.ofInt (-1)) 0) rfl rfl rfl hh
  have hh := en_f (by decide) hh
  have hh : pm_run PT n fr lo 96 (11, [some (.ref 0), some (.int g), some (.int c), some (.int (Int32.ofInt (-1))), none, none, none], [], h, 198, sl) = some R := hh
  obtain ⟨n, hh⟩ := rn_i rfl rfl rfl rfl hh
  have hh : pm_run PT n fr lo 96 (12, [some (.ref 0), some (.int g), some (.int c), some (.int (Int32.ofInt (-1))), none, none, none], [.int (Int32.ofInt (-1))], h, 198, sl) = some R := hh
  have er4 : R = (some (.int (Int32.ofInt (-1))), h, 198, sl) := (rn_ret rfl (Or.inl rfl) hh).2
  have ed : v96w1 q cc gc g c = (Int32.ofInt (-1)) := rfl
  rw [ed]
  exact er4
def v222w2 (q : QT) (cc gc : Nat) (h : pm_H) (u : Nat) (g : Int32) (c : Int32) : Int32 × pm_H := ((Int32.ofInt (-1)), v211 q cc gc (fset h 162 0 (.int (nI 0))) u)
theorem v222w2_ok {n fr lo sl cc gc : Nat} {q : QT} {h : pm_H} {R : pm_Rs} {u : Nat} {g : Int32} {c : Int32} (hw : HC q cc gc h) (hb1 : cB gc g = true) (hb2 : cB cc c = false) (hu : u ≤ 15) (e1 : Fi h 162 27 = nI u) (hh : pm_run PT n fr lo 222 (0, pm_l0 [.ref 162, .int g, .int c] 4, [], h, 198, sl) = some R) : R = (some (.int ((v222w2 q cc gc h u g c).1)), (v222w2 q cc gc h u g c).2, 198, sl) ∧ HC q cc gc ((v222w2 q cc gc h u g c).2) ∧ frm [162, 178] [(162, 0)] h ((v222w2 q cc gc h u g c).2) := by
  have hcc := hw.cb
  have hgc := hw.gb
  have hzr := hw.zr
  obtain ⟨n, hh⟩ := rn_i rfl rfl rfl rfl hh
  obtain ⟨n, hh⟩ := rn_i rfl rfl rfl rfl hh
  have hh : pm_run PT n fr lo 222 (2, [some (.ref 162), some (.int g), some (.int c), none], [.int (nI 0), .ref 162], h, 198, sl) = some R := hh
  obtain ⟨n, hh⟩ := rn_pi hw.wt rfl rfl (by decide) rfl (by decide) rfl hh
  obtain ⟨n, hh⟩ := rn_i rfl rfl rfl rfl hh
  have hh : pm_run PT n fr lo 222 (6, [some (.ref 162), some (.int g), some (.int c), none], [.ref 162], fset h 162 0 (.int (nI 0)), 198, sl) = some R := hh
  obtain ⟨n, fr1, lo1, r1, hh1, hh⟩ := rn_call (w := 0) (t := 211) rfl rfl hh
  obtain ⟨er1, hc2, hf3⟩ := v211_ok (u := u) (hc_f rfl rfl (by decide) rfl hw) hu ((Fi_n (Or.inr (by decide))).trans e1) hh1
  subst er1
  obtain ⟨n, hh⟩ := rn_i rfl rfl rfl rfl hh
  obtain ⟨n, hh⟩ := rn_i rfl rfl rfl rfl hh
  obtain ⟨n, hh⟩ := rn_i rfl rfl rfl rfl hh
  have hh : pm_run PT n fr lo 222 (12, [some (.ref 162), some (.int g), some (.int c), none], [.ref 162, .ref 162, .ref 162], v211 q cc gc (fset h 162 0 (.int (nI 0))) u, 198, sl) = some R := hh
  obtain ⟨n, hh⟩ := rn_gr hc2.wt rfl rfl (by decide) rfl (by decide) (show _ = some (2, ((170 : Nat) : Int), 1) from rfl) rfl hh
  obtain ⟨n, hh⟩ := rn_i rfl rfl rfl rfl hh
  obtain ⟨n, hh⟩ := rn_i rfl rfl rfl rfl hh
  have hh : pm_run PT n fr lo 222 (17, [some (.ref 162), some (.int g), some (.int c), none], [.int c, .int g, .ref 170, .ref 162, .ref 162], v211 q cc gc (fset h 162 0 (.int (nI 0))) u, 198, sl) = some R := hh
  obtain ⟨n, fr1, lo1, r1, hh1, hh⟩ := rn_call (w := 0) (t := 217) rfl rfl hh
  have hh1 : pm_run PT n fr1 lo1 217 (0, [some (.ref 162), some (.ref 170), some (.int g), some (.int c), none, none, none, none, none], [], v211 q cc gc (fset h 162 0 (.int (nI 0))) u, 198, sl) = some r1 := hh1
  obtain ⟨n1, hh1⟩ := rn_i rfl rfl rfl rfl hh1
  obtain ⟨n1, hh1⟩ := rn_i rfl rfl rfl rfl hh1
  have hh1 : pm_run PT n1 fr1 lo1 217 (2, [some (.ref 162), some (.ref 170), some (.int g), some (.int c), none, none, none, none, none], [.int g, .ref 162], v211 q cc gc (fset h 162 0 (.int (nI 0))) u, 198, sl) = some r1 := hh1
  obtain ⟨n1, fr2, lo2, r2, hh2, hh1⟩ := rn_call (w := 0) (t := 169) rfl rfl hh1
  have er4 := en_mg hgc (hc_m4 hc2) hh2
  subst er4
  have hh1 : pm_run PT n1 fr1 lo1 217 (5, [some (.ref 162), some (.ref 170), some (.int g), some (.int c), none, none, none, none, none], [.int (cond (cB gc g) 1 0)], v211 q cc gc (fset h 162 0 (.int (nI 0))) u, 198, sl) = some r1 := hh1
  obtain ⟨n1, hh1⟩ := en_zn (cc := .eq) (off := 11) (t := 16) (b := !(cB gc g)) eb_eq rfl rfl hh1
  have hh1 := en_nt hb1 hh1
  have hh1 : pm_run PT n1 fr1 lo1 217 (8, [some (.ref 162), some (.ref 170), some (.int g), some (.int c), none, none, none, none, none], [], v211 q cc gc (fset h 162 0 (.int (nI 0))) u, 198, sl) = some r1 := hh1
  obtain ⟨n1, hh1⟩ := rn_i rfl rfl rfl rfl hh1
  obtain ⟨n1, hh1⟩ := rn_i rfl rfl rfl rfl hh1
  have hh1 : pm_run PT n1 fr1 lo1 217 (10, [some (.ref 162), some (.ref 170), some (.int g), some (.int c), none, none, none, none, none], [.int c, .ref 162], v211 q cc gc (fset h 162 0 (.int (nI 0))) u, 198, sl) = some r1 := hh1
  obtain ⟨n1, fr2, lo2, r2, hh2, hh1⟩ := rn_call (w := 0) (t := 168) rfl rfl hh1
  have er5 := mi_run hcc (hc_m3 hc2) hh2
  subst er5
  have hh1 : pm_run PT n1 fr1 lo1 217 (13, [some (.ref 162), some (.ref 170), some (.int g), some (.int c), none, none, none, none, none], [.int (cond (cB cc c) 1 0)], v211 q cc gc (fset h 162 0 (.int (nI 0))) u, 198, sl) = some r1 := hh1
  obtain ⟨n1, hh1⟩ := en_zn (cc := .ne) (off := 5) (t := 18) (b := cB cc c) eb_ne rfl rfl hh1
  have hh1 := en_f hb2 hh1
  have hh1 : pm_run PT n1 fr1 lo1 217 (16, [some (.ref 162), some (.ref 170), some (.int g), some (.int c), none, none, none, none, none], [], v211 q cc gc (fset h 162 0 (.int (nI 0))) u, 198, sl) = some r1 := hh1
  obtain ⟨n1, hh1⟩ := rn_i rfl rfl rfl rfl hh1
  have hh1 : pm_run PT n1 fr1 lo1 217 (17, [some (.ref 162), some (.ref 170), some (.int g), some (.int c), none, none, none, none, none], [.int (Int32.ofInt (-1))], v211 q cc gc (fset h 162 0 (.int (nI 0))) u, 198, sl) = some r1 := hh1
  have er6 : r1 = (some (.int (Int32.ofInt (-1))), v211 q cc gc (fset h 162 0 (.int (nI 0))) u, 198, sl) := (rn_ret rfl (Or.inl rfl) hh1).2
  subst er6
  have hh : pm_run PT n fr lo 222 (20, [some (.ref 162), some (.int g), some (.int c), none], [.int (Int32.ofInt (-1)), .ref 162], v211 q cc gc (fset h 162 0 (.int (nI 0))) u, 198, sl) = some R := hh
  obtain ⟨n, fr1, lo1, r1, hh1, hh⟩ := rn_call (w := 0) (t := 213) rfl rfl hh
  have hh1 : pm_run PT n fr1 lo1 213 (0, [some (.ref 162), some (.int (Int32.ofInt (-1)))], [], v211 q cc gc (fset h 162 0 (.int (nI 0))) u, 198, sl) = some r1 := hh1
  obtain ⟨n1, hh1⟩ := rn_i rfl rfl rfl rfl hh1
  have hh1 : pm_run PT n1 fr1 lo1 213 (1, [some (.ref 162), some (.int (Int32.ofInt (-1)))], [.int (Int32.ofInt (-1))], v211 q cc gc (fset h 162 0 (.int (nI 0))) u, 198, sl) = some r1 := hh1
  obtain ⟨n1, hh1⟩ := en_zn (cc := .ge) (off := 7) (t := 8) (b := pm_cmp .ge (Int32.ofInt (-1)) 0) rfl rfl rfl hh1
  have hh1 := en_f (by decide) hh1
  have hh1 : pm_run PT n1 fr1 lo1 213 (4, [some (.ref 162), some (.int (Int32.ofInt (-1)))], [], v211 q cc gc (fset h 162 0 (.int (nI 0))) u, 198, sl) = some r1 := hh1
  obtain ⟨n1, hh1⟩ := rn_i rfl rfl rfl rfl hh1
  obtain ⟨n1, hh1⟩ := rn_i rfl rfl rfl rfl hh1
  have hh1 : pm_run PT n1 fr1 lo1 213 (13, [some (.ref 162), some (.int (Int32.ofInt (-1)))], [.int (Int32.ofInt (-1))], v211 q cc gc (fset h 162 0 (.int (nI 0))) u, 198, sl) = some r1 := hh1
  have er7 : r1 = (some (.int (Int32.ofInt (-1))), v211 q cc gc (fset h 162 0 (.int (nI 0))) u, 198, sl) := (rn_ret rfl (Or.inl rfl) hh1).2
  subst er7
  obtain ⟨n, hh⟩ := rn_i rfl rfl rfl rfl hh
  obtain ⟨n, hh⟩ := rn_i rfl rfl rfl rfl hh
  have hh : pm_run PT n fr lo 222 (25, [some (.ref 162), some (.int g), some (.int c), some (.int (Int32.ofInt (-1)))], [.int (Int32.ofInt (-1))], v211 q cc gc (fset h 162 0 (.int (nI 0))) u, 198, sl) = some R := hh
  obtain ⟨n, hh⟩ := en_zn (cc := .lt) (off := 26) (t := 51) (b := pm_cmp .lt (Int32.ofInt (-1)) 0) rfl rfl rfl hh
  have hh := en_t (by decide) hh
  have hh : pm_run PT n fr lo 222 (51, [some (.ref 162), some (.int g), some (.int c), some (.int (Int32.ofInt (-1)))], [], v211 q cc gc (fset h 162 0 (.int (nI 0))) u, 198, sl) = some R := hh
  obtain ⟨n, hh⟩ := rn_i rfl rfl rfl rfl hh
  have hh : pm_run PT n fr lo 222 (52, [some (.ref 162), some (.int g), some (.int c), some (.int (Int32.ofInt (-1)))], [.int (Int32.ofInt (-1))], v211 q cc gc (fset h 162 0 (.int (nI 0))) u, 198, sl) = some R := hh
  have er8 : R = (some (.int (Int32.ofInt (-1))), v211 q cc gc (fset h 162 0 (.int (nI 0))) u, 198, sl) := (rn_ret rfl (Or.inl rfl) hh).2
  have ed : v222w2 q cc gc h u g c = ((Int32.ofInt (-1)), v211 q cc gc (fset h 162 0 (.int (nI 0))) u) := rfl
  refine ⟨?_, ?_, ?_⟩ <;> rw [ed]
  · exact er8
  · exact hc2
  · exact (fr_g rfl rfl hf3 (fr_f rfl rfl fr_0))
def v98w (q : QT) (cc gc : Nat) (a : Int32) (b : Int32) (m : Int32) : Int32 := (Int32.ofInt (-1))
theorem v98w_ok {n fr lo sl cc gc : Nat} {q : QT} {h : pm_H} {R : pm_Rs} {a : Int32} {b : Int32} {m : Int32} (hw : HC q cc gc h) (hb : pP cc a b = false) (hh : pm_run PT n fr lo 98 (0, pm_l0 [.ref 0, .int a, .int b, .int m] 4, [], h, 198, sl) = some R) : R = (some (.int (v98w q cc gc a b m)), h, 198, sl) := by
  have hcc := hw.cb
  have hgc := hw.gb
  have hzr := hw.zr
  obtain ⟨n, hh⟩ := rn_i rfl rfl rfl rfl hh
  obtain ⟨n, hh⟩ := rn_i rfl rfl rfl rfl hh
  obtain ⟨n, hh⟩ := rn_i rfl rfl rfl rfl hh
  obtain ⟨n, hh⟩ := rn_i rfl rfl rfl rfl hh
  have hh : pm_run PT n fr lo 98 (4, [some (.ref 0), some (.int a), some (.int b), some (.int m)], [.int m, .int b, .int a, .ref 0], h, 198, sl) = some R := hh
  obtain ⟨n, fr1, lo1, r1, hh1, hh⟩ := rn_call (w := 0) (t := 137) rfl rfl hh
  have hh1 : pm_run PT n fr1 lo1 137 (0, [some (.ref 0), some (.int a), some (.int b), some (.int m)], [], h, 198, sl) = some r1 := hh1
  obtain ⟨n1, hh1⟩ := rn_i rfl rfl rfl rfl hh1
  have hh1 : pm_run PT n1 fr1 lo1 137 (1, [some (.ref 0), some (.int a), some (.int b), some (.int m)], [.ref 0], h, 198, sl) = some r1 := hh1
  obtain ⟨n1, hh1⟩ := rn_gr hw.wt rfl rfl (by decide) rfl (by decide) (show _ = some (2, ((5 : Nat) : Int), 1) from rfl) rfl hh1
  obtain ⟨n1, hh1⟩ := rn_i rfl rfl rfl rfl hh1
  obtain ⟨n1, hh1⟩ := rn_i rfl rfl rfl rfl hh1
  have hh1 : pm_run PT n1 fr1 lo1 137 (6, [some (.ref 0), some (.int a), some (.int b), some (.int m)], [.int b, .int a, .ref 5], h, 198, sl) = some r1 := hh1
  obtain ⟨n1, fr2, lo2, r2, hh2, hh1⟩ := rn_call (w := 0) (t := 24) rfl rfl hh1
  have er1 := xa_run hcc (hc_rC hw) hh2
  subst er1
  have hh1 : pm_run PT n1 fr1 lo1 137 (9, [some (.ref 0), some (.int a), some (.int b), some (.int m)], [.int (cond (pP cc a b) 1 0)], h, 198, sl) = some r1 := hh1
  obtain ⟨n1, hh1⟩ := en_zn (cc := .eq) (off := 19) (t := 28) (b := !(pP cc a b)) eb_eq rfl rfl hh1
  have hh1 := en_nf hb hh1
  have hh1 : pm_run PT n1 fr1 lo1 137 (28, [some (.ref 0), some (.int a), some (.int b), some (.int m)], [], h, 198, sl) = some r1 := hh1
  obtain ⟨n1, hh1⟩ := rn_i rfl rfl rfl rfl hh1
  obtain ⟨n1, hh1⟩ := rn_i rfl rfl rfl rfl hh1
  have hh1 : pm_run PT n1 fr1 lo1 137 (33, [some (.ref 0), some (.int a), some (.int b), some (.int m)], [.int (nI 1)], h, 198, sl) = some r1 := hh1
  have er2 : r1 = (some (.int (nI 1)), h, 198, sl) := (rn_ret rfl (Or.inr rfl) hh1).2
  subst er2
  have hh : pm_run PT n fr lo 98 (7, [some (.ref 0), some (.int a), some (.int b), some (.int m)], [.int (nI 1)], h, 198, sl) = some R := hh
  obtain ⟨n, hh⟩ := en_zn (cc := .eq) (off := 5) (t := 12) (b := false) (by decide) rfl rfl hh
  have hh : pm_run PT n fr lo 98 (10, [some (.ref 0), some (.int a), some (.int b), some (.int m)], [], h, 198, sl) = some R := hh
  obtain ⟨n, hh⟩ := rn_i rfl rfl rfl rfl hh
  have hh : pm_run PT n fr lo 98 (11, [some (.ref 0), some (.int a), some (.int b), some (.int m)], [.int (Int32.ofInt (-1))], h, 198, sl) = some R := hh
  have er3 : R = (some (.int (Int32.ofInt (-1))), h, 198, sl) := (rn_ret rfl (Or.inl rfl) hh).2
  have ed : v98w q cc gc a b m = (Int32.ofInt (-1)) := rfl
  rw [ed]
  exact er3
def v99w (q : QT) (cc gc : Nat) (a : Int32) (b : Int32) : Int32 := (Int32.ofInt (-1))
theorem v99w_ok {n fr lo sl cc gc : Nat} {q : QT} {h : pm_H} {R : pm_Rs} {a : Int32} {b : Int32} (hw : HC q cc gc h) (hb : pP cc a b = false) (hh : pm_run PT n fr lo 99 (0, pm_l0 [.ref 0, .int a, .int b] 5, [], h, 198, sl) = some R) : R = (some (.int (v99w q cc gc a b)), h, 198, sl) := by
  have hcc := hw.cb
  have hgc := hw.gb
  have hzr := hw.zr
  obtain ⟨n, hh⟩ := rn_i rfl rfl rfl rfl hh
  obtain ⟨n, hh⟩ := rn_i rfl rfl rfl rfl hh
  obtain ⟨n, hh⟩ := rn_i rfl rfl rfl rfl hh
  have hh : pm_run PT n fr lo 99 (3, [some (.ref 0), some (.int a), some (.int b), none, none], [.int b, .int a, .ref 0], h, 198, sl) = some R := hh
  obtain ⟨n, fr1, lo1, r1, hh1, hh⟩ := rn_call (w := 0) (t := 139) rfl rfl hh
  have hh1 : pm_run PT n fr1 lo1 139 (0, [some (.ref 0), some (.int a), some (.int b)], [], h, 198, sl) = some r1 := hh1
  obtain ⟨n1, hh1⟩ := rn_i rfl rfl rfl rfl hh1
  have hh1 : pm_run PT n1 fr1 lo1 139 (1, [some (.ref 0), some (.int a), some (.int b)], [.ref 0], h, 198, sl) = some r1 := hh1
  obtain ⟨n1, hh1⟩ := rn_gr hw.wt rfl rfl (by decide) rfl (by decide) (show _ = some (2, ((5 : Nat) : Int), 1) from rfl) rfl hh1
  obtain ⟨n1, hh1⟩ := rn_i rfl rfl rfl rfl hh1
  obtain ⟨n1, hh1⟩ := rn_i rfl rfl rfl rfl hh1
  have hh1 : pm_run PT n1 fr1 lo1 139 (6, [some (.ref 0), some (.int a), some (.int b)], [.int b, .int a, .ref 5], h, 198, sl) = some r1 := hh1
  obtain ⟨n1, fr2, lo2, r2, hh2, hh1⟩ := rn_call (w := 0) (t := 24) rfl rfl hh1
  have er1 := xa_run hcc (hc_rC hw) hh2
  subst er1
  have hh1 : pm_run PT n1 fr1 lo1 139 (9, [some (.ref 0), some (.int a), some (.int b)], [.int (cond (pP cc a b) 1 0)], h, 198, sl) = some r1 := hh1
  obtain ⟨n1, hh1⟩ := en_zn (cc := .ne) (off := 5) (t := 14) (b := pP cc a b) eb_ne rfl rfl hh1
  have hh1 := en_f hb hh1
  have hh1 : pm_run PT n1 fr1 lo1 139 (12, [some (.ref 0), some (.int a), some (.int b)], [], h, 198, sl) = some r1 := hh1
  obtain ⟨n1, hh1⟩ := rn_i rfl rfl rfl rfl hh1
  have hh1 : pm_run PT n1 fr1 lo1 139 (13, [some (.ref 0), some (.int a), some (.int b)], [.int (Int32.ofInt (-1))], h, 198, sl) = some r1 := hh1
  have er2 : r1 = (some (.int (Int32.ofInt (-1))), h, 198, sl) := (rn_ret rfl (Or.inl rfl) hh1).2
  subst er2
  obtain ⟨n, hh⟩ := rn_i rfl rfl rfl rfl hh
  obtain ⟨n, hh⟩ := rn_i rfl rfl rfl rfl hh
  have hh : pm_run PT n fr lo 99 (8, [some (.ref 0), some (.int a), some (.int b), some (.int (Int32.ofInt (-1))), none], [.int (Int32.ofInt (-1))], h, 198, sl) = some R := hh
  obtain ⟨n, hh⟩ := en_zn (cc := .ge) (off := 5) (t := 13) (b := pm_cmp .ge (Int32.ofInt (-1)) 0) rfl rfl rfl hh
  have hh := en_f (by decide) hh
  have hh : pm_run PT n fr lo 99 (11, [some (.ref 0), some (.int a), some (.int b), some (.int (Int32.ofInt (-1))), none], [], h, 198, sl) = some R := hh
  obtain ⟨n, hh⟩ := rn_i rfl rfl rfl rfl hh
  have hh : pm_run PT n fr lo 99 (12, [some (.ref 0), some (.int a), some (.int b), some (.int (Int32.ofInt (-1))), none], [.int (Int32.ofInt (-1))], h, 198, sl) = some R := hh
  have er3 : R = (some (.int (Int32.ofInt (-1))), h, 198, sl) := (rn_ret rfl (Or.inl rfl) hh).2
  have ed : v99w q cc gc a b = (Int32.ofInt (-1)) := rfl
  rw [ed]
  exact er3
def v224w (q : QT) (cc gc : Nat) (h : pm_H) (u : Nat) (a : Int32) (b : Int32) (m : Int32) : Int32 × pm_H := ((Int32.ofInt (-1)), v211 q cc gc (fset h 162 0 (.int (nI 0))) u)
theorem v224w_ok {n fr lo sl cc gc : Nat} {q : QT} {h : pm_H} {R : pm_Rs} {u : Nat} {a : Int32} {b : Int32} {m : Int32} (hw : HC q cc gc h) (hb : pP cc a b = false) (hu : u ≤ 15) (e1 : Fi h 162 27 = nI u) (hh : pm_run PT n fr lo 224 (0, pm_l0 [.ref 162, .int a, .int b, .int m] 4, [], h, 198, sl) = some R) : R = (some (.int ((v224w q cc gc h u a b m).1)), (v224w q cc gc h u a b m).2, 198, sl) ∧ HC q cc gc ((v224w q cc gc h u a b m).2) ∧ frm [162, 178] [(162, 0)] h ((v224w q cc gc h u a b m).2) := by
  have hcc := hw.cb
  have hgc := hw.gb
  have hzr := hw.zr
  obtain ⟨n, hh⟩ := rn_i rfl rfl rfl rfl hh
  obtain ⟨n, hh⟩ := rn_i rfl rfl rfl rfl hh
  have hh : pm_run PT n fr lo 224 (2, [some (.ref 162), some (.int a), some (.int b), some (.int m)], [.int (nI 0), .ref 162], h, 198, sl) = some R := hh
  obtain ⟨n, hh⟩ := rn_pi hw.wt rfl rfl (by decide) rfl (by decide) rfl hh
  obtain ⟨n, hh⟩ := rn_i rfl rfl rfl rfl hh
  have hh : pm_run PT n fr lo 224 (6, [some (.ref 162), some (.int a), some (.int b), some (.int m)], [.ref 162], fset h 162 0 (.int (nI 0)), 198, sl) = some R := hh
  obtain ⟨n, fr1, lo1, r1, hh1, hh⟩ := rn_call (w := 0) (t := 211) rfl rfl hh
  obtain ⟨er1, hc2, hf3⟩ := v211_ok (u := u) (hc_f rfl rfl (by decide) rfl hw) hu ((Fi_n (Or.inr (by decide))).trans e1) hh1
  subst er1
  obtain ⟨n, hh⟩ := rn_i rfl rfl rfl rfl hh
  obtain ⟨n, hh⟩ := rn_i rfl rfl rfl rfl hh
  obtain ⟨n, hh⟩ := rn_i rfl rfl rfl rfl hh
  obtain ⟨n, hh⟩ := rn_i rfl rfl rfl rfl hh
  obtain ⟨n, hh⟩ := rn_i rfl rfl rfl rfl hh
  have hh : pm_run PT n fr lo 224 (14, [some (.ref 162), some (.int a), some (.int b), some (.int m)], [.int m, .int b, .int a, .ref 162, .ref 162], v211 q cc gc (fset h 162 0 (.int (nI 0))) u, 198, sl) = some R := hh
  obtain ⟨n, fr1, lo1, r1, hh1, hh⟩ := rn_call (w := 0) (t := 220) rfl rfl hh
  have hh1 : pm_run PT n fr1 lo1 220 (0, [some (.ref 162), some (.int a), some (.int b), some (.int m)], [], v211 q cc gc (fset h 162 0 (.int (nI 0))) u, 198, sl) = some r1 := hh1
  obtain ⟨n1, hh1⟩ := rn_i rfl rfl rfl rfl hh1
  obtain ⟨n1, hh1⟩ := rn_i rfl rfl rfl rfl hh1
  obtain ⟨n1, hh1⟩ := rn_i rfl rfl rfl rfl hh1
  have hh1 : pm_run PT n1 fr1 lo1 220 (3, [some (.ref 162), some (.int a), some (.int b), some (.int m)], [.int b, .int a, .ref 162], v211 q cc gc (fset h 162 0 (.int (nI 0))) u, 198, sl) = some r1 := hh1
  obtain ⟨n1, fr2, lo2, r2, hh2, hh1⟩ := rn_call (w := 0) (t := 170) rfl rfl hh1
  have er4 := ma_run hcc (hc_m3 hc2) hh2
  subst er4
  have hh1 : pm_run PT n1 fr1 lo1 220 (6, [some (.ref 162), some (.int a), some (.int b), some (.int m)], [.int (cond (pP cc a b) 1 0)], v211 q cc gc (fset h 162 0 (.int (nI 0))) u, 198, sl) = some r1 := hh1
  obtain ⟨n1, hh1⟩ := en_zn (cc := .eq) (off := 21) (t := 27) (b := !(pP cc a b)) eb_eq rfl rfl hh1
  have hh1 := en_nf hb hh1
  have hh1 : pm_run PT n1 fr1 lo1 220 (27, [some (.ref 162), some (.int a), some (.int b), some (.int m)], [], v211 q cc gc (fset h 162 0 (.int (nI 0))) u, 198, sl) = some r1 := hh1
  obtain ⟨n1, hh1⟩ := rn_i rfl rfl rfl rfl hh1
  have hh1 : pm_run PT n1 fr1 lo1 220 (28, [some (.ref 162), some (.int a), some (.int b), some (.int m)], [.int (Int32.ofInt (-1))], v211 q cc gc (fset h 162 0 (.int (nI 0))) u, 198, sl) = some r1 := hh1
  have er5 : r1 = (some (.int (Int32.ofInt (-1))), v211 q cc gc (fset h 162 0 (.int (nI 0))) u, 198, sl) := (rn_ret rfl (Or.inl rfl) hh1).2
  subst er5
  have hh : pm_run PT n fr lo 224 (17, [some (.ref 162), some (.int a), some (.int b), some (.int m)], [.int (Int32.ofInt (-1)), .ref 162], v211 q cc gc (fset h 162 0 (.int (nI 0))) u, 198, sl) = some R := hh
  obtain ⟨n, fr1, lo1, r1, hh1, hh⟩ := rn_call (w := 0) (t := 213) rfl rfl hh
  have hh1 : pm_run PT n fr1 lo1 213 (0, [some (.ref 162), some (.int (Int32.ofInt (-1)))], [], v211 q cc gc (fset h 162 0 (.int (nI 0))) u, 198, sl) = some r1 := hh1
  obtain ⟨n1, hh1⟩ := rn_i rfl rfl rfl rfl hh1
  have hh1 : pm_run PT n1 fr1 lo1 213 (1, [some (.ref 162), some (.int (Int32.ofInt (-1)))], [.int (Int32.ofInt (-1))], v211 q cc gc (fset h 162 0 (.int (nI 0))) u, 198, sl) = some r1 := hh1
  obtain ⟨n1, hh1⟩ := en_zn (cc := .ge) (off := 7) (t := 8) (b := pm_cmp .ge (Int32.ofInt (-1)) 0) rfl rfl rfl hh1
  have hh1 := en_f (by decide) hh1
  have hh1 : pm_run PT n1 fr1 lo1 213 (4, [some (.ref 162), some (.int (Int32.ofInt (-1)))], [], v211 q cc gc (fset h 162 0 (.int (nI 0))) u, 198, sl) = some r1 := hh1
  obtain ⟨n1, hh1⟩ := rn_i rfl rfl rfl rfl hh1
  obtain ⟨n1, hh1⟩ := rn_i rfl rfl rfl rfl hh1
  have hh1 : pm_run PT n1 fr1 lo1 213 (13, [some (.ref 162), some (.int (Int32.ofInt (-1)))], [.int (Int32.ofInt (-1))], v211 q cc gc (fset h 162 0 (.int (nI 0))) u, 198, sl) = some r1 := hh1
  have er6 : r1 = (some (.int (Int32.ofInt (-1))), v211 q cc gc (fset h 162 0 (.int (nI 0))) u, 198, sl) := (rn_ret rfl (Or.inl rfl) hh1).2
  subst er6
  have hh : pm_run PT n fr lo 224 (20, [some (.ref 162), some (.int a), some (.int b), some (.int m)], [.int (Int32.ofInt (-1))], v211 q cc gc (fset h 162 0 (.int (nI 0))) u, 198, sl) = some R := hh
  have er7 : R = (some (.int (Int32.ofInt (-1))), v211 q cc gc (fset h 162 0 (.int (nI 0))) u, 198, sl) := (rn_ret rfl (Or.inl rfl) hh).2
  have ed : v224w q cc gc h u a b m = ((Int32.ofInt (-1)), v211 q cc gc (fset h 162 0 (.int (nI 0))) u) := rfl
  refine ⟨?_, ?_, ?_⟩ <;> rw [ed]
  · exact er7
  · exact hc2
  · exact (fr_g rfl rfl hf3 (fr_f rfl rfl fr_0))
def v225w (q : QT) (cc gc : Nat) (h : pm_H) (u : Nat) (a : Int32) (b : Int32) : Int32 × pm_H := ((Int32.ofInt (-1)), v211 q cc gc (fset h 162 0 (.int (nI 0))) u)
theorem v225w_ok {n fr lo sl cc gc : Nat} {q : QT} {h : pm_H} {R : pm_Rs} {u : Nat} {a : Int32} {b : Int32} (hw : HC q cc gc h) (hb : pP cc a b = false) (hu : u ≤ 15) (e1 : Fi h 162 27 = nI u) (hh : pm_run PT n fr lo 225 (0, pm_l0 [.ref 162, .int a, .int b] 3, [], h, 198, sl) = some R) : R = (some (.int ((v225w q cc gc h u a b).1)), (v225w q cc gc h u a b).2, 198, sl) ∧ HC q cc gc ((v225w q cc gc h u a b).2) ∧ frm [162, 178] [(162, 0)] h ((v225w q cc gc h u a b).2) := by
  have hcc := hw.cb
  have hgc := hw.gb
  have hzr := hw.zr
  obtain ⟨n, hh⟩ := rn_i rfl rfl rfl rfl hh
  obtain ⟨n, hh⟩ := rn_i rfl rfl rfl rfl hh
  have hh : pm_run PT n fr lo 225 (2, [some (.ref 162), some (.int a), some (.int b)], [.int (nI 0), .ref 162], h, 198, sl) = some R := hh
  obtain ⟨n, hh⟩ := rn_pi hw.wt rfl rfl (by decide) rfl (by decide) rfl hh
  obtain ⟨n, hh⟩ := rn_i rfl rfl rfl rfl hh
  have hh : pm_run PT n fr lo 225 (6, [some (.ref 162), some (.int a), some (.int b)], [.ref 162], fset h 162 0 (.int (nI 0)), 198, sl) = some R := hh
  obtain ⟨n, fr1, lo1, r1, hh1, hh⟩ := rn_call (w := 0) (t := 211) rfl rfl hh
  obtain ⟨er1, hc2, hf3⟩ := v211_ok (u := u) (hc_f rfl rfl (by decide) rfl hw) hu ((Fi_n (Or.inr (by decide))).trans e1) hh1
  subst er1
  obtain ⟨n, hh⟩ := rn_i rfl rfl rfl rfl hh
  obtain ⟨n, hh⟩ := rn_i rfl rfl rfl rfl hh
  obtain ⟨n, hh⟩ := rn_i rfl rfl rfl rfl hh
  obtain ⟨n, hh⟩ := rn_i rfl rfl rfl rfl hh
  have hh : pm_run PT n fr lo 225 (13, [some (.ref 162), some (.int a), some (.int b)], [.int b, .int a, .ref 162, .ref 162], v211 q cc gc (fset h 162 0 (.int (nI 0))) u, 198, sl) = some R := hh
  obtain ⟨n, fr1, lo1, r1, hh1, hh⟩ := rn_call (w := 0) (t := 221) rfl rfl hh
  have hh1 : pm_run PT n fr1 lo1 221 (0, [some (.ref 162), some (.int a), some (.int b), none, none], [], v211 q cc gc (fset h 162 0 (.int (nI 0))) u, 198, sl) = some r1 := hh1
  obtain ⟨n1, hh1⟩ := rn_i rfl rfl rfl rfl hh1
  obtain ⟨n1, hh1⟩ := rn_i rfl rfl rfl rfl hh1
  obtain ⟨n1, hh1⟩ := rn_i rfl rfl rfl rfl hh1
  have hh1 : pm_run PT n1 fr1 lo1 221 (3, [some (.ref 162), some (.int a), some (.int b), none, none], [.int b, .int a, .ref 162], v211 q cc gc (fset h 162 0 (.int (nI 0))) u, 198, sl) = some r1 := hh1
  obtain ⟨n1, fr2, lo2, r2, hh2, hh1⟩ := rn_call (w := 0) (t := 170) rfl rfl hh1
  have er4 := ma_run hcc (hc_m3 hc2) hh2
  subst er4
  have hh1 : pm_run PT n1 fr1 lo1 221 (6, [some (.ref 162), some (.int a), some (.int b), none, none], [.int (cond (pP cc a b) 1 0)], v211 q cc gc (fset h 162 0 (.int (nI 0))) u, 198, sl) = some r1 := hh1
  obtain ⟨n1, hh1⟩ := en_zn (cc := .ne) (off := 5) (t := 11) (b := pP cc a b) eb_ne rfl rfl hh1
  have hh1 := en_f hb hh1
  have hh1 : pm_run PT n1 fr1 lo1 221 (9, [some (.ref 162), some (.int a), some (.int b), none, none], [], v211 q cc gc (fset h 162 0 (.int (nI 0))) u, 198, sl) = some r1 := hh1
  obtain ⟨n1, hh1⟩ := rn_i rfl rfl rfl rfl hh1
  have hh1 : pm_run PT n1 fr1 lo1 221 (10, [some (.ref 162), some (.int a), some (.int b), none, none], [.int (Int32.ofInt (-1))], v211 q cc gc (fset h 162 0 (.int (nI 0))) u, 198, sl) = some r1 := hh1
  have er5 : r1 = (some (.int (Int32.ofInt (-1))), v211 q cc gc (fset h 162 0 (.int (nI 0))) u, 198, sl) := (rn_ret rfl (Or.inl rfl) hh1).2
  subst er5
  have hh : pm_run PT n fr lo 225 (16, [some (.ref 162), some (.int a), some (.int b)], [.int (Int32.ofInt (-1)), .ref 162], v211 q cc gc (fset h 162 0 (.int (nI 0))) u, 198, sl) = some R := hh
  obtain ⟨n, fr1, lo1, r1, hh1, hh⟩ := rn_call (w := 0) (t := 213) rfl rfl hh
  have hh1 : pm_run PT n fr1 lo1 213 (0, [some (.ref 162), some (.int (Int32.ofInt (-1)))], [], v211 q cc gc (fset h 162 0 (.int (nI 0))) u, 198, sl) = some r1 := hh1
  obtain ⟨n1, hh1⟩ := rn_i rfl rfl rfl rfl hh1
  have hh1 : pm_run PT n1 fr1 lo1 213 (1, [some (.ref 162), some (.int (Int32.ofInt (-1)))], [.int (Int32.ofInt (-1))], v211 q cc gc (fset h 162 0 (.int (nI 0))) u, 198, sl) = some r1 := hh1
  obtain ⟨n1, hh1⟩ := en_zn (cc := .ge) (off := 7) (t := 8) (b := pm_cmp .ge (Int32.ofInt (-1)) 0) rfl rfl rfl hh1
  have hh1 := en_f (by decide) hh1
  have hh1 : pm_run PT n1 fr1 lo1 213 (4, [some (.ref 162), some (.int (Int32.ofInt (-1)))], [], v211 q cc gc (fset h 162 0 (.int (nI 0))) u, 198, sl) = some r1 := hh1
  obtain ⟨n1, hh1⟩ := rn_i rfl rfl rfl rfl hh1
  obtain ⟨n1, hh1⟩ := rn_i rfl rfl rfl rfl hh1
  have hh1 : pm_run PT n1 fr1 lo1 213 (13, [some (.ref 162), some (.int (Int32.ofInt (-1)))], [.int (Int32.ofInt (-1))], v211 q cc gc (fset h 162 0 (.int (nI 0))) u, 198, sl) = some r1 := hh1
  have er6 : r1 = (some (.int (Int32.ofInt (-1))), v211 q cc gc (fset h 162 0 (.int (nI 0))) u, 198, sl) := (rn_ret rfl (Or.inl rfl) hh1).2
  subst er6
  have hh : pm_run PT n fr lo 225 (19, [some (.ref 162), some (.int a), some (.int b)], [.int (Int32.ofInt (-1))], v211 q cc gc (fset h 162 0 (.int (nI 0))) u, 198, sl) = some R := hh
  have er7 : R = (some (.int (Int32.ofInt (-1))), v211 q cc gc (fset h 162 0 (.int (nI 0))) u, 198, sl) := (rn_ret rfl (Or.inl rfl) hh).2
  have ed : v225w q cc gc h u a b = ((Int32.ofInt (-1)), v211 q cc gc (fset h 162 0 (.int (nI 0))) u) := rfl
  refine ⟨?_, ?_, ?_⟩ <;> rw [ed]
  · exact er7
  · exact hc2
  · exact (fr_g rfl rfl hf3 (fr_f rfl rfl fr_0))
def v97w1 (q : QT) (cc gc : Nat) (m : Int32) : Int32 := (Int32.ofInt (-1))
theorem v97w1_ok {n fr lo sl cc gc : Nat} {q : QT} {h : pm_H} {R : pm_Rs} {m : Int32} (hw : HC q cc gc h) (hb : pm_cmp .lt m 0 = true) (hh : pm_run PT n fr lo 97 (0, pm_l0 [.ref 0, .int m] 4, [], h, 198, sl) = some R) : R = (some (.int (v97w1 q cc gc m)), h, 198, sl) := by
  have hcc := hw.cb
  have hgc := hw.gb
  have hzr := hw.zr
  obtain ⟨n, hh⟩ := rn_i rfl rfl rfl rfl hh
  have hh : pm_run PT n fr lo 97 (1, [some (.ref 0), some (.int m), none, none], [.int m], h, 198, sl) = some R := hh
  obtain ⟨n, hh⟩ := en_zn (cc := .lt) (off := 9) (t := 10) (b := pm_cmp .lt m 0) rfl rfl rfl hh
  have hh := en_t hb hh
  have hh : pm_run PT n fr lo 97 (10, [some (.ref 0), some (.int m), none, none], [], h, 198, sl) = some R := hh
  obtain ⟨n, hh⟩ := rn_i rfl rfl rfl rfl hh
  have hh : pm_run PT n fr lo 97 (11, [some (.ref 0), some (.int m), none, none], [.int (Int32.ofInt (-1))], h, 198, sl) = some R := hh
  have er1 : R = (some (.int (Int32.ofInt (-1))), h, 198, sl) := (rn_ret rfl (Or.inl rfl) hh).2
  have ed : v97w1 q cc gc m = (Int32.ofInt (-1)) := rfl
  rw [ed]
  exact er1
theorem v97w2_ok {n fr lo sl cc gc : Nat} {q : QT} {h : pm_H} {R : pm_Rs} {m : Int32} (hw : HC q cc gc h) (hb1 : pm_cmp .lt m 0 = false) (hb2 : pm_cmp .le m (nI 60) = false) (hh : pm_run PT n fr lo 97 (0, pm_l0 [.ref 0, .int m] 4, [], h, 198, sl) = some R) : R = (some (.int (v97w1 q cc gc m)), h, 198, sl) := by
  have hcc := hw.cb
  have hgc := hw.gb
  have hzr := hw.zr
  obtain ⟨n, hh⟩ := rn_i rfl rfl rfl rfl hh
  have hh : pm_run PT n fr lo 97 (1, [some (.ref 0), some (.int m), none, none], [.int m], h, 198, sl) = some R := hh
  obtain ⟨n, hh⟩ := en_zn (cc := .lt) (off := 9) (t := 10) (b := pm_cmp .lt m 0) rfl rfl rfl hh
  have hh := en_f hb1 hh
  have hh : pm_run PT n fr lo 97 (4, [some (.ref 0), some (.int m), none, none], [], h, 198, sl) = some R := hh
  obtain ⟨n, hh⟩ := rn_i rfl rfl rfl rfl hh
  obtain ⟨n, hh⟩ := rn_i rfl rfl rfl rfl hh
  have hh : pm_run PT n fr lo 97 (7, [some (.ref 0), some (.int m), none, none], [.int (nI 60), .int m], h, 198, sl) = some R := hh
  obtain ⟨n, hh⟩ := en_cn (cc := .le) (off := 5) (t := 12) (b := pm_cmp .le m (nI 60)) rfl rfl rfl hh
  have hh := en_f hb2 hh
  have hh : pm_run PT n fr lo 97 (10, [some (.ref 0), some (.int m), none, none], [], h, 198, sl) = some R := hh
  obtain ⟨n, hh⟩ := rn_i rfl rfl rfl rfl hh
  have hh : pm_run PT n fr lo 97 (11, [some (.ref 0), some (.int m), none, none], [.int (Int32.ofInt (-1))], h, 198, sl) = some R := hh
  have er1 : R = (some (.int (Int32.ofInt (-1))), h, 198, sl) := (rn_ret rfl (Or.inl rfl) hh).2
  have ed : v97w1 q cc gc m = (Int32.ofInt (-1)) := rfl
  rw [ed]
  exact er1
def v223w (q : QT) (cc gc : Nat) (h : pm_H) (m : Int32) : Int32 × pm_H := ((Int32.ofInt (-1)), fset h 162 0 (.int (nI 0)))
theorem v223w_ok {n fr lo sl cc gc : Nat} {q : QT} {h : pm_H} {R : pm_Rs} {m : Int32} (hw : HC q cc gc h) (hb : in_b ((m).toInt64) (Int64.ofNat 0) (60 : Int64) = false) (hh : pm_run PT n fr lo 223 (0, pm_l0 [.ref 162, .int m] 4, [], h, 198, sl) = some R) : R = (some (.int ((v223w q cc gc h m).1)), (v223w q cc gc h m).2, 198, sl) ∧ HC q cc gc ((v223w q cc gc h m).2) ∧ frm [162] [(162, 0)] h ((v223w q cc gc h m).2) := by
  have hcc := hw.cb
  have hgc := hw.gb
  have hzr := hw.zr
  obtain ⟨n, hh⟩ := rn_i rfl rfl rfl rfl hh
  obtain ⟨n, hh⟩ := rn_i rfl rfl rfl rfl hh
  have hh : pm_run PT n fr lo 223 (2, [some (.ref 162), some (.int m), none, none], [.int (nI 0), .ref 162], h, 198, sl) = some R := hh
  obtain ⟨n, hh⟩ := rn_pi hw.wt rfl rfl (by decide) rfl (by decide) rfl hh
  obtain ⟨n, hh⟩ := rn_i rfl rfl rfl rfl hh
  obtain ⟨n, hh⟩ := rn_i rfl rfl rfl rfl hh
  obtain ⟨n, hh⟩ := rn_i rfl rfl rfl rfl hh
  obtain ⟨n, hh⟩ := rn_i rfl rfl rfl rfl hh
  have hh : pm_run PT n fr lo 223 (11, [some (.ref 162), some (.int m), none, none], [.long (60 : Int64), .long (Int64.ofNat 0), .long ((m).toInt64)], fset h 162 0 (.int (nI 0)), 198, sl) = some R := hh
  obtain ⟨n, fr1, lo1, r1, hh1, hh⟩ := rn_call (w := 2) (t := 163) rfl rfl hh
  have er1 := rn_dt (F := 10) (Lo := 1000) (hd_in (fr := 10) (lo := 1000) (h := fset h 162 0 (.int (nI 0))) (sl := sl) ((m).toInt64) (Int64.ofNat 0) (60 : Int64)) hh1
  subst er1
  have hh : pm_run PT n fr lo 223 (14, [some (.ref 162), some (.int m), none, none], [.int (cond (in_b ((m).toInt64) (Int64.ofNat 0) (60 : Int64)) 1 0)], fset h 162 0 (.int (nI 0)), 198, sl) = some R := hh
  obtain ⟨n, hh⟩ := en_zn (cc := .ne) (off := 5) (t := 19) (b := in_b ((m).toInt64) (Int64.ofNat 0) (60 : Int64)) eb_ne rfl rfl hh
  have hh := en_f hb hh
  have hh : pm_run PT n fr lo 223 (17, [some (.ref 162), some (.int m), none, none], [], fset h 162 0 (.int (nI 0)), 198, sl) = some R := hh
  obtain ⟨n, hh⟩ := rn_i rfl rfl rfl rfl hh
  have hh : pm_run PT n fr lo 223 (18, [some (.ref 162), some (.int m), none, none], [.int (Int32.ofInt (-1))], fset h 162 0 (.int (nI 0)), 198, sl) = some R := hh
  have er2 : R = (some (.int (Int32.ofInt (-1))), fset h 162 0 (.int (nI 0)), 198, sl) := (rn_ret rfl (Or.inl rfl) hh).2
  have ed : v223w q cc gc h m = ((Int32.ofInt (-1)), fset h 162 0 (.int (nI 0))) := rfl
  refine ⟨?_, ?_, ?_⟩ <;> rw [ed]
  · exact er2
  · exact (hc_f rfl rfl (by decide) rfl hw)
  · exact (fr_f rfl rfl fr_0)
def v102w1 (q : QT) (cc gc : Nat) (g : Int32) (c : Int32) : Int32 := (Int32.ofInt (-1))
theorem v102w1_ok {n fr lo sl cc gc : Nat} {q : QT} {h : pm_H} {R : pm_Rs} {g : Int32} {c : Int32} (hw : HC q cc gc h) (hb1 : cB gc g = false) (hh : pm_run PT n fr lo 102 (0, pm_l0 [.ref 0, .int g, .int c] 3, [], h, 198, sl) = some R) : R = (some (.int (v102w1 q cc gc g c)), h, 198, sl) := by
  have hcc := hw.cb
  have hgc := hw.gb
  have hzr := hw.zr
  obtain ⟨n, hh⟩ := rn_i rfl rfl rfl rfl hh
  have hh : pm_run PT n fr lo 102 (1, [some (.ref 0), some (.int g), some (.int c)], [.ref 0], h, 198, sl) = some R := hh
  obtain ⟨n, hh⟩ := rn_gr hw.wt rfl rfl (by decide) rfl (by decide) (show _ = some (2, ((5 : Nat) : Int), 1) from rfl) rfl hh
  obtain ⟨n, hh⟩ := rn_i rfl rfl rfl rfl hh
  have hh : pm_run PT n fr lo 102 (5, [some (.ref 0), some (.int g), some (.int c)], [.int g, .ref 5], h, 198, sl) = some R := hh
  obtain ⟨n, fr1, lo1, r1, hh1, hh⟩ := rn_call (w := 0) (t := 25) rfl rfl hh
  have er1 := en_xg hgc (hc_rG hw) hh1
  subst er1
  have hh : pm_run PT n fr lo 102 (8, [some (.ref 0), some (.int g), some (.int c)], [.int (cond (cB gc g) 1 0)], h, 198, sl) = some R := hh
  obtain ⟨n, hh⟩ := en_zn (cc := .eq) (off := 14) (t := 22) (b := !(cB gc g)) eb_eq rfl rfl hh
  have hh := en_nf hb1 hh
  have hh : pm_run PT n fr lo 102 (22, [some (.ref 0), some (.int g), some (.int c)], [], h, 198, sl) = some R := hh
  obtain ⟨n, hh⟩ := rn_i rfl rfl rfl rfl hh
  have hh : pm_run PT n fr lo 102 (23, [some (.ref 0), some (.int g), some (.int c)], [.int (Int32.ofInt (-1))], h, 198, sl) = some R := hh
  have er2 : R = (some (.int (Int32.ofInt (-1))), h, 198, sl) := (rn_ret rfl (Or.inl rfl) hh).2
  have ed : v102w1 q cc gc g c = (Int32.ofInt (-1)) := rfl
  rw [ed]
  exact er2
def v230w1 (q : QT) (cc gc : Nat) (h : pm_H) (g : Int32) (c : Int32) : Int32 × pm_H := ((Int32.ofInt (-1)), fset h 162 0 (.int (nI 0)))
theorem v230w1_ok {n fr lo sl cc gc : Nat} {q : QT} {h : pm_H} {R : pm_Rs} {g : Int32} {c : Int32} (hw : HC q cc gc h) (hb1 : cB gc g = false) (hh : pm_run PT n fr lo 230 (0, pm_l0 [.ref 162, .int g, .int c] 3, [], h, 198, sl) = some R) : R = (some (.int ((v230w1 q cc gc h g c).1)), (v230w1 q cc gc h g c).2, 198, sl) ∧ HC q cc gc ((v230w1 q cc gc h g c).2) ∧ frm [162] [(162, 0)] h ((v230w1 q cc gc h g c).2) := by
  have hcc := hw.cb
  have hgc := hw.gb
  have hzr := hw.zr
  obtain ⟨n, hh⟩ := rn_i rfl rfl rfl rfl hh
  obtain ⟨n, hh⟩ := rn_i rfl rfl rfl rfl hh
  have hh : pm_run PT n fr lo 230 (2, [some (.ref 162), some (.int g), some (.int c)], [.int (nI 0), .ref 162], h, 198, sl) = some R := hh
  obtain ⟨n, hh⟩ := rn_pi hw.wt rfl rfl (by decide) rfl (by decide) rfl hh
  obtain ⟨n, hh⟩ := rn_i rfl rfl rfl rfl hh
  obtain ⟨n, hh⟩ := rn_i rfl rfl rfl rfl hh
  have hh : pm_run PT n fr lo 230 (7, [some (.ref 162), some (.int g), some (.int c)], [.int g, .ref 162], fset h 162 0 (.int (nI 0)), 198, sl) = some R := hh
  obtain ⟨n, fr1, lo1, r1, hh1, hh⟩ := rn_call (w := 0) (t := 169) rfl rfl hh
  have er1 := en_mg hgc (hc_m4 (hc_f rfl rfl (by decide) rfl hw)) hh1
  subst er1
  have hh : pm_run PT n fr lo 230 (10, [some (.ref 162), some (.int g), some (.int c)], [.int (cond (cB gc g) 1 0)], fset h 162 0 (.int (nI 0)), 198, sl) = some R := hh
  obtain ⟨n, hh⟩ := en_zn (cc := .eq) (off := 24) (t := 34) (b := !(cB gc g)) eb_eq rfl rfl hh
  have hh := en_nf hb1 hh
  have hh : pm_run PT n fr lo 230 (34, [some (.ref 162), some (.int g), some (.int c)], [], fset h 162 0 (.int (nI 0)), 198, sl) = some R := hh
  obtain ⟨n, hh⟩ := rn_i rfl rfl rfl rfl hh
  have hh : pm_run PT n fr lo 230 (35, [some (.ref 162), some (.int g), some (.int c)], [.int (Int32.ofInt (-1))], fset h 162 0 (.int (nI 0)), 198, sl) = some R := hh
  have er2 : R = (some (.int (Int32.ofInt (-1))), fset h 162 0 (.int (nI 0)), 198, sl) := (rn_ret rfl (Or.inl rfl) hh).2
  have ed : v230w1 q cc gc h g c = ((Int32.ofInt (-1)), fset h 162 0 (.int (nI 0))) := rfl
  refine ⟨?_, ?_, ?_⟩ <;> rw [ed]
  · exact er2
  · exact (hc_f rfl rfl (by decide) rfl hw)
  · exact (fr_f rfl rfl fr_0)
theorem v102w2_ok {n fr lo sl cc gc : Nat} {q : QT} {h : pm_H} {R : pm_Rs} {g : Int32} {c : Int32} (hw : HC q cc gc h) (hb1 : cB gc g = true) (hb2 : cB cc c = false) (hh : pm_run PT n fr lo 102 (0, pm_l0 [.ref 0, .int g, .int c] 3, [], h, 198, sl) = some R) : R = (some (.int (v102w1 q cc gc g c)), h, 198, sl) := by
  have hcc := hw.cb
  have hgc := hw.gb
  have hzr := hw.zr
  obtain ⟨n, hh⟩ := rn_i rfl rfl rfl rfl hh
  have hh : pm_run PT n fr lo 102 (1, [some (.ref 0), some (.int g), some (.int c)], [.ref 0], h, 198, sl) = some R := hh
  obtain ⟨n, hh⟩ := rn_gr hw.wt rfl rfl (by decide) rfl (by decide) (show _ = some (2, ((5 : Nat) : Int), 1) from rfl) rfl hh
  obtain ⟨n, hh⟩ := rn_i rfl rfl rfl rfl hh
  have hh : pm_run PT n fr lo 102 (5, [some (.ref 0), some (.int g), some (.int c)], [.int g, .ref 5], h, 198, sl) = some R := hh
  obtain ⟨n, fr1, lo1, r1, hh1, hh⟩ := rn_call (w := 0) (t := 25) rfl rfl hh
  have er1 := en_xg hgc (hc_rG hw) hh1
  subst er1
  have hh : pm_run PT n fr lo 102 (8, [some (.ref 0), some (.int g), some (.int c)], [.int (cond (cB gc g) 1 0)], h, 198, sl) = some R := hh
  obtain ⟨n, hh⟩ := en_zn (cc := .eq) (off := 14) (t := 22) (b := !(cB gc g)) eb_eq rfl rfl hh
  have hh := en_nt hb1 hh
  have hh : pm_run PT n fr lo 102 (11, [some (.ref 0), some (.int g), some (.int c)], [], h, 198, sl) = some R := hh
  obtain ⟨n, hh⟩ := rn_i rfl rfl rfl rfl hh
  have hh : pm_run PT n fr lo 102 (12, [some (.ref 0), some (.int g), some (.int c)], [.ref 0], h, 198, sl) = some R := hh
  obtain ⟨n, hh⟩ := rn_gr hw.wt rfl rfl (by decide) rfl (by decide) (show _ = some (2, ((5 : Nat) : Int), 1) from rfl) rfl hh
  obtain ⟨n, hh⟩ := rn_i rfl rfl rfl rfl hh
  have hh : pm_run PT n fr lo 102 (16, [some (.ref 0), some (.int g), some (.int c)], [.int c, .ref 5], h, 198, sl) = some R := hh
  obtain ⟨n, fr1, lo1, r1, hh1, hh⟩ := rn_call (w := 0) (t := 23) rfl rfl hh
  have er2 := xi_run hcc (hc_rC hw) hh1
  subst er2
  have hh : pm_run PT n fr lo 102 (19, [some (.ref 0), some (.int g), some (.int c)], [.int (cond (cB cc c) 1 0)], h, 198, sl) = some R := hh
  obtain ⟨n, hh⟩ := en_zn (cc := .ne) (off := 5) (t := 24) (b := cB cc c) eb_ne rfl rfl hh
  have hh := en_f hb2 hh
  have hh : pm_run PT n fr lo 102 (22, [some (.ref 0), some (.int g), some (.int c)], [], h, 198, sl) = some R := hh
  obtain ⟨n, hh⟩ := rn_i rfl rfl rfl rfl hh
  have hh : pm_run PT n fr lo 102 (23, [some (.ref 0), some (.int g), some (.int c)], [.int (Int32.ofInt (-1))], h, 198, sl) = some R := hh
  have er3 : R = (some (.int (Int32.ofInt (-1))), h, 198, sl) := (rn_ret rfl (Or.inl rfl) hh).2
  have ed : v102w1 q cc gc g c = (Int32.ofInt (-1)) := rfl
  rw [ed]
  exact er3
def v230w2 (q : QT) (cc gc : Nat) (h : pm_H) (g : Int32) (c : Int32) : Int32 × pm_H := ((Int32.ofInt (-1)), fset h 162 0 (.int (nI 0)))
theorem v230w2_ok {n fr lo sl cc gc : Nat} {q : QT} {h : pm_H} {R : pm_Rs} {g : Int32} {c : Int32} (hw : HC q cc gc h) (hb1 : cB gc g = true) (hb2 : cB cc c = false) (hh : pm_run PT n fr lo 230 (0, pm_l0 [.ref 162, .int g, .int c] 3, [], h, 198, sl) = some R) : R = (some (.int ((v230w2 q cc gc h g c).1)), (v230w2 q cc gc h g c).2, 198, sl) ∧ HC q cc gc ((v230w2 q cc gc h g c).2) ∧ frm [162] [(162, 0)] h ((v230w2 q cc gc h g c).2) := by
  have hcc := hw.cb
  have hgc := hw.gb
  have hzr := hw.zr
  obtain ⟨n, hh⟩ := rn_i rfl rfl rfl rfl hh
  obtain ⟨n, hh⟩ := rn_i rfl rfl rfl rfl hh
  have hh : pm_run PT n fr lo 230 (2, [some (.ref 162), some (.int g), some (.int c)], [.int (nI 0), .ref 162], h, 198, sl) = some R := hh
  obtain ⟨n, hh⟩ := rn_pi hw.wt rfl rfl (by decide) rfl (by decide) rfl hh
  obtain ⟨n, hh⟩ := rn_i rfl rfl rfl rfl hh
  obtain ⟨n, hh⟩ := rn_i rfl rfl rfl rfl hh
  have hh : pm_run PT n fr lo 230 (7, [some (.ref 162), some (.int g), some (.int c)], [.int g, .ref 162], fset h 162 0 (.int (nI 0)), 198, sl) = some R := hh
  obtain ⟨n, fr1, lo1, r1, hh1, hh⟩ := rn_call (w := 0) (t := 169) rfl rfl hh
  have er1 := en_mg hgc (hc_m4 (hc_f rfl rfl (by decide) rfl hw)) hh1
  subst er1
  have hh : pm_run PT n fr lo 230 (10, [some (.ref 162), some (.int g), some (.int c)], [.int (cond (cB gc g) 1 0)], fset h 162 0 (.int (nI 0)), 198, sl) = some R := hh
  obtain ⟨n, hh⟩ := en_zn (cc := .eq) (off := 24) (t := 34) (b := !(cB gc g)) eb_eq rfl rfl hh
  have hh := en_nt hb1 hh
  have hh : pm_run PT n fr lo 230 (13, [some (.ref 162), some (.int g), some (.int c)], [], fset h 162 0 (.int (nI 0)), 198, sl) = some R := hh
  obtain ⟨n, hh⟩ := rn_i rfl rfl rfl rfl hh
  obtain ⟨n, hh⟩ := rn_i rfl rfl rfl rfl hh
  have hh : pm_run PT n fr lo 230 (15, [some (.ref 162), some (.int g), some (.int c)], [.int c, .ref 162], fset h 162 0 (.int (nI 0)), 198, sl) = some R := hh
  obtain ⟨n, fr1, lo1, r1, hh1, hh⟩ := rn_call (w := 0) (t := 168) rfl rfl hh
  have er2 := mi_run hcc (hc_m3 (hc_f rfl rfl (by decide) rfl hw)) hh1
  subst er2
  have hh : pm_run PT n fr lo 230 (18, [some (.ref 162), some (.int g), some (.int c)], [.int (cond (cB cc c) 1 0)], fset h 162 0 (.int (nI 0)), 198, sl) = some R := hh
  obtain ⟨n, hh⟩ := en_zn (cc := .eq) (off := 16) (t := 34) (b := !(cB cc c)) eb_eq rfl rfl hh
  have hh := en_nf hb2 hh
  have hh : pm_run PT n fr lo 230 (34, [some (.ref 162), some (.int g), some (.int c)], [], fset h 162 0 (.int (nI 0)), 198, sl) = some R := hh
  obtain ⟨n, hh⟩ := rn_i rfl rfl rfl rfl hh
  have hh : pm_run PT n fr lo 230 (35, [some (.ref 162), some (.int g), some (.int c)], [.int (Int32.ofInt (-1))], fset h 162 0 (.int (nI 0)), 198, sl) = some R := hh
  have er3 : R = (some (.int (Int32.ofInt (-1))), fset h 162 0 (.int (nI 0)), 198, sl) := (rn_ret rfl (Or.inl rfl) hh).2
  have ed : v230w2 q cc gc h g c = ((Int32.ofInt (-1)), fset h 162 0 (.int (nI 0))) := rfl
  refine ⟨?_, ?_, ?_⟩ <;> rw [ed]
  · exact er3
  · exact (hc_f rfl rfl (by decide) rfl hw)
  · exact (fr_f rfl rfl fr_0)
def v103w (q : QT) (cc gc : Nat) (g : Int32) : Int32 := (Int32.ofInt (-1))
theorem v103w_ok {n fr lo sl cc gc : Nat} {q : QT} {h : pm_H} {R : pm_Rs} {g : Int32} (hw : HC q cc gc h) (hb : cB gc g = false) (hh : pm_run PT n fr lo 103 (0, pm_l0 [.ref 0, .int g] 7, [], h, 198, sl) = some R) : R = (some (.int (v103w q cc gc g)), h, 198, sl) := by
  have hcc := hw.cb
  have hgc := hw.gb
  have hzr := hw.zr
  obtain ⟨n, hh⟩ := rn_i rfl rfl rfl rfl hh
  have hh : pm_run PT n fr lo 103 (1, [some (.ref 0), some (.int g), none, none, none, none, none], [.ref 0], h, 198, sl) = some R := hh
  obtain ⟨n, hh⟩ := rn_gr hw.wt rfl rfl (by decide) rfl (by decide) (show _ = some (2, ((5 : Nat) : Int), 1) from rfl) rfl hh
  obtain ⟨n, hh⟩ := rn_i rfl rfl rfl rfl hh
  have hh : pm_run PT n fr lo 103 (5, [some (.ref 0), some (.int g), none, none, none, none, none], [.int g, .ref 5], h, 198, sl) = some R := hh
  obtain ⟨n, fr1, lo1, r1, hh1, hh⟩ := rn_call (w := 0) (t := 25) rfl rfl hh
  have er1 := en_xg hgc (hc_rG hw) hh1
  subst er1
  have hh : pm_run PT n fr lo 103 (8, [some (.ref 0), some (.int g), none, none, none, none, none], [.int (cond (cB gc g) 1 0)], h, 198, sl) = some R := hh
  obtain ⟨n, hh⟩ := en_zn (cc := .ne) (off := 5) (t := 13) (b := cB gc g) eb_ne rfl rfl hh
  have hh := en_f hb hh
  have hh : pm_run PT n fr lo 103 (11, [some (.ref 0), some (.int g), none, none, none, none, none], [], h, 198, sl) = some R := hh
  obtain ⟨n, hh⟩ := rn_i rfl rfl rfl rfl hh
  have hh : pm_run PT n fr lo 103 (12, [some (.ref 0), some (.int g), none, none, none, none, none], [.int (Int32.ofInt (-1))], h, 198, sl) = some R := hh
  have er2 : R = (some (.int (Int32.ofInt (-1))), h, 198, sl) := (rn_ret rfl (Or.inl rfl) hh).2
  have ed : v103w q cc gc g = (Int32.ofInt (-1)) := rfl
  rw [ed]
  exact er2
def v231w (q : QT) (cc gc : Nat) (h : pm_H) (g : Int32) : Int32 × pm_H := ((Int32.ofInt (-1)), fset h 162 0 (.int (nI 0)))
theorem v231w_ok {n fr lo sl cc gc : Nat} {q : QT} {h : pm_H} {R : pm_Rs} {g : Int32} (hw : HC q cc gc h) (hb : cB gc g = false) (hh : pm_run PT n fr lo 231 (0, pm_l0 [.ref 162, .int g] 7, [], h, 198, sl) = some R) : R = (some (.int ((v231w q cc gc h g).1)), (v231w q cc gc h g).2, 198, sl) ∧ HC q cc gc ((v231w q cc gc h g).2) ∧ frm [162] [(162, 0)] h ((v231w q cc gc h g).2) := by
  have hcc := hw.cb
  have hgc := hw.gb
  have hzr := hw.zr
  obtain ⟨n, hh⟩ := rn_i rfl rfl rfl rfl hh
  obtain ⟨n, hh⟩ := rn_i rfl rfl rfl rfl hh
  have hh : pm_run PT n fr lo 231 (2, [some (.ref 162), some (.int g), none, none, none, none, none], [.int (nI 0), .ref 162], h, 198, sl) = some R := hh
  obtain ⟨n, hh⟩ := rn_pi hw.wt rfl rfl (by decide) rfl (by decide) rfl hh
  obtain ⟨n, hh⟩ := rn_i rfl rfl rfl rfl hh
  obtain ⟨n, hh⟩ := rn_i rfl rfl rfl rfl hh
  have hh : pm_run PT n fr lo 231 (7, [some (.ref 162), some (.int g), none, none, none, none, none], [.int g, .ref 162], fset h 162 0 (.int (nI 0)), 198, sl) = some R := hh
  obtain ⟨n, fr1, lo1, r1, hh1, hh⟩ := rn_call (w := 0) (t := 169) rfl rfl hh
  have er1 := en_mg hgc (hc_m4 (hc_f rfl rfl (by decide) rfl hw)) hh1
  subst er1
  have hh : pm_run PT n fr lo 231 (10, [some (.ref 162), some (.int g), none, none, none, none, none], [.int (cond (cB gc g) 1 0)], fset h 162 0 (.int (nI 0)), 198, sl) = some R := hh
  obtain ⟨n, hh⟩ := en_zn (cc := .ne) (off := 5) (t := 15) (b := cB gc g) eb_ne rfl rfl hh
  have hh := en_f hb hh
  have hh : pm_run PT n fr lo 231 (13, [some (.ref 162), some (.int g), none, none, none, none, none], [], fset h 162 0 (.int (nI 0)), 198, sl) = some R := hh
  obtain ⟨n, hh⟩ := rn_i rfl rfl rfl rfl hh
  have hh : pm_run PT n fr lo 231 (14, [some (.ref 162), some (.int g), none, none, none, none, none], [.int (Int32.ofInt (-1))], fset h 162 0 (.int (nI 0)), 198, sl) = some R := hh
  have er2 : R = (some (.int (Int32.ofInt (-1))), fset h 162 0 (.int (nI 0)), 198, sl) := (rn_ret rfl (Or.inl rfl) hh).2
  have ed : v231w q cc gc h g = ((Int32.ofInt (-1)), fset h 162 0 (.int (nI 0))) := rfl
  refine ⟨?_, ?_, ?_⟩ <;> rw [ed]
  · exact er2
  · exact (hc_f rfl rfl (by decide) rfl hw)
  · exact (fr_f rfl rfl fr_0)
def v111w (q : QT) (cc gc : Nat) (c : Int32) : Int32 := (Int32.ofInt (-1))
theorem v111w_ok {n fr lo sl cc gc : Nat} {q : QT} {h : pm_H} {R : pm_Rs} {c : Int32} (hw : HC q cc gc h) (hb : cB cc c = false) (hh : pm_run PT n fr lo 111 (0, pm_l0 [.ref 0, .int c] 3, [], h, 198, sl) = some R) : R = (some (.int (v111w q cc gc c)), h, 198, sl) := by
  have hcc := hw.cb
  have hgc := hw.gb
  have hzr := hw.zr
  obtain ⟨n, hh⟩ := rn_i rfl rfl rfl rfl hh
  have hh : pm_run PT n fr lo 111 (1, [some (.ref 0), some (.int c), none], [.ref 0], h, 198, sl) = some R := hh
  obtain ⟨n, hh⟩ := rn_gr hw.wt rfl rfl (by decide) rfl (by decide) (show _ = some (2, ((5 : Nat) : Int), 1) from rfl) rfl hh
  obtain ⟨n, hh⟩ := rn_i rfl rfl rfl rfl hh
  have hh : pm_run PT n fr lo 111 (5, [some (.ref 0), some (.int c), none], [.int c, .ref 5], h, 198, sl) = some R := hh
  obtain ⟨n, fr1, lo1, r1, hh1, hh⟩ := rn_call (w := 0) (t := 23) rfl rfl hh
  have er1 := xi_run hcc (hc_rC hw) hh1
  subst er1
  have hh : pm_run PT n fr lo 111 (8, [some (.ref 0), some (.int c), none], [.int (cond (cB cc c) 1 0)], h, 198, sl) = some R := hh
  obtain ⟨n, hh⟩ := en_zn (cc := .ne) (off := 5) (t := 13) (b := cB cc c) eb_ne rfl rfl hh
  have hh := en_f hb hh
  have hh : pm_run PT n fr lo 111 (11, [some (.ref 0), some (.int c), none], [], h, 198, sl) = some R := hh
  obtain ⟨n, hh⟩ := rn_i rfl rfl rfl rfl hh
  have hh : pm_run PT n fr lo 111 (12, [some (.ref 0), some (.int c), none], [.int (Int32.ofInt (-1))], h, 198, sl) = some R := hh
  have er2 : R = (some (.int (Int32.ofInt (-1))), h, 198, sl) := (rn_ret rfl (Or.inl rfl) hh).2
  have ed : v111w q cc gc c = (Int32.ofInt (-1)) := rfl
  rw [ed]
  exact er2
def v242w (q : QT) (cc gc : Nat) (h : pm_H) (c : Int32) : Int32 × pm_H := ((Int32.ofInt (-1)), fset h 162 0 (.int (nI 0)))
theorem v242w_ok {n fr lo sl cc gc : Nat} {q : QT} {h : pm_H} {R : pm_Rs} {c : Int32} (hw : HC q cc gc h) (hb : cB cc c = false) (hh : pm_run PT n fr lo 242 (0, pm_l0 [.ref 162, .int c] 3, [], h, 198, sl) = some R) : R = (some (.int ((v242w q cc gc h c).1)), (v242w q cc gc h c).2, 198, sl) ∧ HC q cc gc ((v242w q cc gc h c).2) ∧ frm [162] [(162, 0)] h ((v242w q cc gc h c).2) := by
  have hcc := hw.cb
  have hgc := hw.gb
  have hzr := hw.zr
  obtain ⟨n, hh⟩ := rn_i rfl rfl rfl rfl hh
  obtain ⟨n, hh⟩ := rn_i rfl rfl rfl rfl hh
  have hh : pm_run PT n fr lo 242 (2, [some (.ref 162), some (.int c), none], [.int (nI 0), .ref 162], h, 198, sl) = some R := hh
  obtain ⟨n, hh⟩ := rn_pi hw.wt rfl rfl (by decide) rfl (by decide) rfl hh
  obtain ⟨n, hh⟩ := rn_i rfl rfl rfl rfl hh
  obtain ⟨n, hh⟩ := rn_i rfl rfl rfl rfl hh
  have hh : pm_run PT n fr lo 242 (7, [some (.ref 162), some (.int c), none], [.int c, .ref 162], fset h 162 0 (.int (nI 0)), 198, sl) = some R := hh
  obtain ⟨n, fr1, lo1, r1, hh1, hh⟩ := rn_call (w := 0) (t := 168) rfl rfl hh
  have er1 := mi_run hcc (hc_m3 (hc_f rfl rfl (by decide) rfl hw)) hh1
  subst er1
  have hh : pm_run PT n fr lo 242 (10, [some (.ref 162), some (.int c), none], [.int (cond (cB cc c) 1 0)], fset h 162 0 (.int (nI 0)), 198, sl) = some R := hh
  obtain ⟨n, hh⟩ := en_zn (cc := .ne) (off := 5) (t := 15) (b := cB cc c) eb_ne rfl rfl hh
  have hh := en_f hb hh
  have hh : pm_run PT n fr lo 242 (13, [some (.ref 162), some (.int c), none], [], fset h 162 0 (.int (nI 0)), 198, sl) = some R := hh
  obtain ⟨n, hh⟩ := rn_i rfl rfl rfl rfl hh
  have hh : pm_run PT n fr lo 242 (14, [some (.ref 162), some (.int c), none], [.int (Int32.ofInt (-1))], fset h 162 0 (.int (nI 0)), 198, sl) = some R := hh
  have er2 : R = (some (.int (Int32.ofInt (-1))), fset h 162 0 (.int (nI 0)), 198, sl) := (rn_ret rfl (Or.inl rfl) hh).2
  have ed : v242w q cc gc h c = ((Int32.ofInt (-1)), fset h 162 0 (.int (nI 0))) := rfl
  refine ⟨?_, ?_, ?_⟩ <;> rw [ed]
  · exact er2
  · exact (hc_f rfl rfl (by decide) rfl hw)
  · exact (fr_f rfl rfl fr_0)
def v112w (q : QT) (cc gc : Nat) (a : Int32) (b : Int32) : Int32 := (Int32.ofInt (-1))
theorem v112w_ok {n fr lo sl cc gc : Nat} {q : QT} {h : pm_H} {R : pm_Rs} {a : Int32} {b : Int32} (hw : HC q cc gc h) (hb : pP cc a b = false) (hh : pm_run PT n fr lo 112 (0, pm_l0 [.ref 0, .int a, .int b] 7, [], h, 198, sl) = some R) : R = (some (.int (v112w q cc gc a b)), h, 198, sl) := by
  have hcc := hw.cb
  have hgc := hw.gb
  have hzr := hw.zr
  obtain ⟨n, hh⟩ := rn_i rfl rfl rfl rfl hh
  have hh : pm_run PT n fr lo 112 (1, [some (.ref 0), some (.int a), some (.int b), none, none, none, none], [.ref 0], h, 198, sl) = some R := hh
  obtain ⟨n, hh⟩ := rn_gr hw.wt rfl rfl (by decide) rfl (by decide) (show _ = some (2, ((5 : Nat) : Int), 1) from rfl) rfl hh
  obtain ⟨n, hh⟩ := rn_i rfl rfl rfl rfl hh
  obtain ⟨n, hh⟩ := rn_i rfl rfl rfl rfl hh
  have hh : pm_run PT n fr lo 112 (6, [some (.ref 0), some (.int a), some (.int b), none, none, none, none], [.int b, .int a, .ref 5], h, 198, sl) = some R := hh
  obtain ⟨n, fr1, lo1, r1, hh1, hh⟩ := rn_call (w := 0) (t := 24) rfl rfl hh
  have er1 := xa_run hcc (hc_rC hw) hh1
  subst er1
  have hh : pm_run PT n fr lo 112 (9, [some (.ref 0), some (.int a), some (.int b), none, none, none, none], [.int (cond (pP cc a b) 1 0)], h, 198, sl) = some R := hh
  obtain ⟨n, hh⟩ := en_zn (cc := .ne) (off := 5) (t := 14) (b := pP cc a b) eb_ne rfl rfl hh
  have hh := en_f hb hh
  have hh : pm_run PT n fr lo 112 (12, [some (.ref 0), some (.int a), some (.int b), none, none, none, none], [], h, 198, sl) = some R := hh
  obtain ⟨n, hh⟩ := rn_i rfl rfl rfl rfl hh
  have hh : pm_run PT n fr lo 112 (13, [some (.ref 0), some (.int a), some (.int b), none, none, none, none], [.int (Int32.ofInt (-1))], h, 198, sl) = some R := hh
  have er2 : R = (some (.int (Int32.ofInt (-1))), h, 198, sl) := (rn_ret rfl (Or.inl rfl) hh).2
  have ed : v112w q cc gc a b = (Int32.ofInt (-1)) := rfl
  rw [ed]
  exact er2
def v243w (q : QT) (cc gc : Nat) (h : pm_H) (a : Int32) (b : Int32) : Int32 × pm_H := ((Int32.ofInt (-1)), fset h 162 0 (.int (nI 0)))
theorem v243w_ok {n fr lo sl cc gc : Nat} {q : QT} {h : pm_H} {R : pm_Rs} {a : Int32} {b : Int32} (hw : HC q cc gc h) (hb : pP cc a b = false) (hh : pm_run PT n fr lo 243 (0, pm_l0 [.ref 162, .int a, .int b] 7, [], h, 198, sl) = some R) : R = (some (.int ((v243w q cc gc h a b).1)), (v243w q cc gc h a b).2, 198, sl) ∧ HC q cc gc ((v243w q cc gc h a b).2) ∧ frm [162] [(162, 0)] h ((v243w q cc gc h a b).2) := by
  have hcc := hw.cb
  have hgc := hw.gb
  have hzr := hw.zr
  obtain ⟨n, hh⟩ := rn_i rfl rfl rfl rfl hh
  obtain ⟨n, hh⟩ := rn_i rfl rfl rfl rfl hh
  have hh : pm_run PT n fr lo 243 (2, [some (.ref 162), some (.int a), some (.int b), none, none, none, none], [.int (nI 0), .ref 162], h, 198, sl) = some R := hh
  obtain ⟨n, hh⟩ := rn_pi hw.wt rfl rfl (by decide) rfl (by decide) rfl hh
  obtain ⟨n, hh⟩ := rn_i rfl rfl rfl rfl hh
  obtain ⟨n, hh⟩ := rn_i rfl rfl rfl rfl hh
  obtain ⟨n, hh⟩ := rn_i rfl rfl rfl rfl hh
  have hh : pm_run PT n fr lo 243 (8, [some (.ref 162), some (.int a), some (.int b), none, none, none, none], [.int b, .int a, .ref 162], fset h 162 0 (.int (nI 0)), 198, sl) = some R := hh
  obtain ⟨n, fr1, lo1, r1, hh1, hh⟩ := rn_call (w := 0) (t := 170) rfl rfl hh
  have er1 := ma_run hcc (hc_m3 (hc_f rfl rfl (by decide) rfl hw)) hh1
  subst er1
  have hh : pm_run PT n fr lo 243 (11, [some (.ref 162), some (.int a), some (.int b), none, none, none, none], [.int (cond (pP cc a b) 1 0)], fset h 162 0 (.int (nI 0)), 198, sl) = some R := hh
  obtain ⟨n, hh⟩ := en_zn (cc := .ne) (off := 5) (t := 16) (b := pP cc a b) eb_ne rfl rfl hh
  have hh := en_f hb hh
  have hh : pm_run PT n fr lo 243 (14, [some (.ref 162), some (.int a), some (.int b), none, none, none, none], [], fset h 162 0 (.int (nI 0)), 198, sl) = some R := hh
  obtain ⟨n, hh⟩ := rn_i rfl rfl rfl rfl hh
  have hh : pm_run PT n fr lo 243 (15, [some (.ref 162), some (.int a), some (.int b), none, none, none, none], [.int (Int32.ofInt (-1))], fset h 162 0 (.int (nI 0)), 198, sl) = some R := hh
  have er2 : R = (some (.int (Int32.ofInt (-1))), fset h 162 0 (.int (nI 0)), 198, sl) := (rn_ret rfl (Or.inl rfl) hh).2
  have ed : v243w q cc gc h a b = ((Int32.ofInt (-1)), fset h 162 0 (.int (nI 0))) := rfl
  refine ⟨?_, ?_, ?_⟩ <;> rw [ed]
  · exact er2
  · exact (hc_f rfl rfl (by decide) rfl hw)
  · exact (fr_f rfl rfl fr_0)
def v118 (q : QT) (cc gc : Nat) (h : pm_H) (w : Nat) (a : Int32) (b : Int32) : Int32 × pm_H := (cond ((v1 q cc gc h w a b).1) (Fi ((v1 q cc gc h w a b).2) 159 0) (Int32.ofInt (-1)), (v1 q cc gc h w a b).2)
theorem v118_ok {n fr lo sl cc gc : Nat} {q : QT} {h : pm_H} {R : pm_Rs} {w : Nat} {a : Int32} {b : Int32} (hw : HC q cc gc h) (hw3 : w ≤ 12) (e3 : Fi h 159 0 = nI w) (hh : pm_run PT n fr lo 118 (0, pm_l0 [.ref 0, .int a, .int b] 3, [], h, 198, sl) = some R) : R = (some (.int ((v118 q cc gc h w a b).1)), (v118 q cc gc h w a b).2, 198, sl) ∧ HC q cc gc ((v118 q cc gc h w a b).2) ∧ frm [159, 160, 161] [(159, 0)] h ((v118 q cc gc h w a b).2) := by
  have hcc := hw.cb
  have hgc := hw.gb
  have hzr := hw.zr
  obtain ⟨n, hh⟩ := rn_i rfl rfl rfl rfl hh
  have hh : pm_run PT n fr lo 118 (1, [some (.ref 0), some (.int a), some (.int b)], [.ref 0], h, 198, sl) = some R := hh
  obtain ⟨n, hh⟩ := rn_gr hw.wt rfl rfl (by decide) rfl (by decide) (show _ = some (2, ((159 : Nat) : Int), 1) from rfl) rfl hh
  obtain ⟨n, hh⟩ := rn_i rfl rfl rfl rfl hh
  obtain ⟨n, hh⟩ := rn_i rfl rfl rfl rfl hh
  have hh : pm_run PT n fr lo 118 (6, [some (.ref 0), some (.int a), some (.int b)], [.int b, .int a, .ref 159], h, 198, sl) = some R := hh
  obtain ⟨n, fr1, lo1, r1, hh1, hh⟩ := rn_call (w := 0) (t := 1) rfl rfl hh
  obtain ⟨er1, hc2, hf3⟩ := v1_ok (w := w) (a := a) (b := b) hw hw3 e3 hh1
  subst er1
  have hh : pm_run PT n fr lo 118 (9, [some (.ref 0), some (.int a), some (.int b)], [.int (cond ((v1 q cc gc h w a b).1) 1 0)], (v1 q cc gc h w a b).2, 198, sl) = some R := hh
  obtain ⟨n, hh⟩ := en_zn (cc := .eq) (off := 13) (t := 22) (b := !((v1 q cc gc h w a b).1)) eb_eq rfl rfl hh
  have hj5 : ∃ mJ, pm_run PT mJ fr lo 118 (cond ((v1 q cc gc h w a b).1) (23, [some (.ref 0), some (.int a), some (.int b)], [.int (Fi ((v1 q cc gc h w a b).2) 159 0)], (v1 q cc gc h w a b).2, 198, sl) (23, [some (.ref 0), some (.int a), some (.int b)], [.int (Int32.ofInt (-1))], (v1 q cc gc h w a b).2, 198, sl)) = some R := en_J (fun z4 => by
      have hh := en_nt z4 hh
      have hh : pm_run PT n fr lo 118 (12, [some (.ref 0), some (.int a), some (.int b)], [], (v1 q cc gc h w a b).2, 198, sl) = some R := hh
      obtain ⟨n, hh⟩ := rn_i rfl rfl rfl rfl hh
      have hh : pm_run PT n fr lo 118 (13, [some (.ref 0), some (.int a), some (.int b)], [.ref 0], (v1 q cc gc h w a b).2, 198, sl) = some R := hh
      obtain ⟨n, hh⟩ := rn_gr hc2.wt rfl rfl (by decide) rfl (by decide) (show _ = some (2, ((159 : Nat) : Int), 1) from rfl) rfl hh
      have hh : pm_run PT n fr lo 118 (16, [some (.ref 0), some (.int a), some (.int b)], [.ref 159], (v1 q cc gc h w a b).2, 198, sl) = some R := hh
      obtain ⟨n, hh⟩ := rn_gi (x := Fi ((v1 q cc gc h w a b).2) 159 0) hc2.wt rfl rfl (by decide) rfl (by decide) rfl rfl hh
      obtain ⟨n, hh⟩ := rn_i rfl rfl rfl rfl hh
      exact ⟨n, hh⟩) (fun z4 => by
      have hh := en_nf z4 hh
      have hh : pm_run PT n fr lo 118 (22, [some (.ref 0), some (.int a), some (.int b)], [], (v1 q cc gc h w a b).2, 198, sl) = some R := hh
      obtain ⟨n, hh⟩ := rn_i rfl rfl rfl rfl hh
      exact ⟨n, hh⟩)
  obtain ⟨n, hh⟩ := hj5
  rw [show (cond ((v1 q cc gc h w a b).1) (23, [some (.ref 0), some (.int a), some (.int b)], [.int (Fi ((v1 q cc gc h w a b).2) 159 0)], (v1 q cc gc h w a b).2, 198, sl) (23, [some (.ref 0), some (.int a), some (.int b)], [.int (Int32.ofInt (-1))], (v1 q cc gc h w a b).2, 198, sl) : pm_St) = (23, [some (.ref 0), some (.int a), some (.int b)], [.int (cond ((v1 q cc gc h w a b).1) (Fi ((v1 q cc gc h w a b).2) 159 0) (Int32.ofInt (-1)))], (v1 q cc gc h w a b).2, 198, sl) from by cases ((v1 q cc gc h w a b).1) <;> rfl] at hh
  have hh : pm_run PT n fr lo 118 (23, [some (.ref 0), some (.int a), some (.int b)], [.int (cond ((v1 q cc gc h w a b).1) (Fi ((v1 q cc gc h w a b).2) 159 0) (Int32.ofInt (-1)))], (v1 q cc gc h w a b).2, 198, sl) = some R := hh
  have er6 : R = (some (.int (cond ((v1 q cc gc h w a b).1) (Fi ((v1 q cc gc h w a b).2) 159 0) (Int32.ofInt (-1)))), (v1 q cc gc h w a b).2, 198, sl) := (rn_ret rfl (Or.inl rfl) hh).2
  have ed : v118 q cc gc h w a b = (cond ((v1 q cc gc h w a b).1) (Fi ((v1 q cc gc h w a b).2) 159 0) (Int32.ofInt (-1)), (v1 q cc gc h w a b).2) := rfl
  refine ⟨?_, ?_, ?_⟩ <;> rw [ed]
  · exact er6
  · exact hc2
  · exact (fr_g rfl rfl hf3 fr_0)
def v119 (q : QT) (cc gc : Nat) (h : pm_H) (w : Nat) : Int32 × pm_H := (nI w, fset h 159 0 (.int (nI 0)))
theorem v119_ok {n fr lo sl cc gc : Nat} {q : QT} {h : pm_H} {R : pm_Rs} {w : Nat} (hw : HC q cc gc h) (hw3 : w ≤ 12) (e3 : Fi h 159 0 = nI w) (hh : pm_run PT n fr lo 119 (0, pm_l0 [.ref 0] 2, [], h, 198, sl) = some R) : R = (some (.int ((v119 q cc gc h w).1)), (v119 q cc gc h w).2, 198, sl) ∧ HC q cc gc ((v119 q cc gc h w).2) ∧ frm [159] [(159, 0)] h ((v119 q cc gc h w).2) := by
  have hcc := hw.cb
  have hgc := hw.gb
  have hzr := hw.zr
  obtain ⟨n, hh⟩ := rn_i rfl rfl rfl rfl hh
  have hh : pm_run PT n fr lo 119 (1, [some (.ref 0), none], [.ref 0], h, 198, sl) = some R := hh
  obtain ⟨n, hh⟩ := rn_gr hw.wt rfl rfl (by decide) rfl (by decide) (show _ = some (2, ((159 : Nat) : Int), 1) from rfl) rfl hh
  have hh : pm_run PT n fr lo 119 (4, [some (.ref 0), none], [.ref 159], h, 198, sl) = some R := hh
  obtain ⟨n, hh⟩ := rn_gi (x := nI w) hw.wt rfl rfl (by decide) rfl (by decide) rfl e3 hh
  obtain ⟨n, hh⟩ := rn_i rfl rfl rfl rfl hh
  obtain ⟨n, hh⟩ := rn_i rfl rfl rfl rfl hh
  have hh : pm_run PT n fr lo 119 (9, [some (.ref 0), some (.int (nI w))], [.ref 0], h, 198, sl) = some R := hh
  obtain ⟨n, hh⟩ := rn_gr hw.wt rfl rfl (by decide) rfl (by decide) (show _ = some (2, ((159 : Nat) : Int), 1) from rfl) rfl hh
  obtain ⟨n, hh⟩ := rn_i rfl rfl rfl rfl hh
  have hh : pm_run PT n fr lo 119 (13, [some (.ref 0), some (.int (nI w))], [.int (nI 0), .ref 159], h, 198, sl) = some R := hh
  obtain ⟨n, hh⟩ := rn_pi hw.wt rfl rfl (by decide) rfl (by decide) rfl hh
  obtain ⟨n, hh⟩ := rn_i rfl rfl rfl rfl hh
  have hh : pm_run PT n fr lo 119 (17, [some (.ref 0), some (.int (nI w))], [.int (nI w)], fset h 159 0 (.int (nI 0)), 198, sl) = some R := hh
  have er1 : R = (some (.int (nI w)), fset h 159 0 (.int (nI 0)), 198, sl) := (rn_ret rfl (Or.inl rfl) hh).2
  have ed : v119 q cc gc h w = (nI w, fset h 159 0 (.int (nI 0))) := rfl
  refine ⟨?_, ?_, ?_⟩ <;> rw [ed]
  · exact er1
  · exact (hc_f rfl rfl (by decide) rfl hw)
  · exact (fr_f rfl rfl fr_0)
def v252 (q : QT) (cc gc : Nat) (h : pm_H) (u : Nat) : Int32 × pm_H := (nI u, fset (fset h 162 0 (.int (nI 0))) 162 47 (.int (nI 0)))
theorem v252_ok {n fr lo sl cc gc : Nat} {q : QT} {h : pm_H} {R : pm_Rs} {u : Nat} (hw : HC q cc gc h) (hu : u ≤ 12) (e1 : Fi h 162 47 = nI u) (hh : pm_run PT n fr lo 252 (0, pm_l0 [.ref 162] 2, [], h, 198, sl) = some R) : R = (some (.int ((v252 q cc gc h u).1)), (v252 q cc gc h u).2, 198, sl) ∧ HC q cc gc ((v252 q cc gc h u).2) ∧ frm [162] [(162, 0), (162, 47)] h ((v252 q cc gc h u).2) := by
  have hcc := hw.cb
  have hgc := hw.gb
  have hzr := hw.zr
  obtain ⟨n, hh⟩ := rn_i rfl rfl rfl rfl hh
  obtain ⟨n, hh⟩ := rn_i rfl rfl rfl rfl hh
  have hh : pm_run PT n fr lo 252 (2, [some (.ref 162), none], [.int (nI 0), .ref 162], h, 198, sl) = some R := hh
  obtain ⟨n, hh⟩ := rn_pi hw.wt rfl rfl (by decide) rfl (by decide) rfl hh
  obtain ⟨n, hh⟩ := rn_i rfl rfl rfl rfl hh
  have hh : pm_run PT n fr lo 252 (6, [some (.ref 162), none], [.ref 162], fset h 162 0 (.int (nI 0)), 198, sl) = some R := hh
  obtain ⟨n, hh⟩ := rn_gi (x := nI u) (hc_f rfl rfl (by decide) rfl hw).wt rfl rfl (by decide) rfl (by decide) rfl ((Fi_n (Or.inr (by decide))).trans e1) hh
  obtain ⟨n, hh⟩ := rn_i rfl rfl rfl rfl hh
  obtain ⟨n, hh⟩ := rn_i rfl rfl rfl rfl hh
  obtain ⟨n, hh⟩ := rn_i rfl rfl rfl rfl hh
  have hh : pm_run PT n fr lo 252 (12, [some (.ref 162), some (.int (nI u))], [.int (nI 0), .ref 162], fset h 162 0 (.int (nI 0)), 198, sl) = some R := hh
  obtain ⟨n, hh⟩ := rn_pi (hc_f rfl rfl (by decide) rfl hw).wt rfl rfl (by decide) rfl (by decide) rfl hh
  obtain ⟨n, hh⟩ := rn_i rfl rfl rfl rfl hh
  have hh : pm_run PT n fr lo 252 (16, [some (.ref 162), some (.int (nI u))], [.int (nI u)], fset (fset h 162 0 (.int (nI 0))) 162 47 (.int (nI 0)), 198, sl) = some R := hh
  have er1 : R = (some (.int (nI u)), fset (fset h 162 0 (.int (nI 0))) 162 47 (.int (nI 0)), 198, sl) := (rn_ret rfl (Or.inl rfl) hh).2
  have ed : v252 q cc gc h u = (nI u, fset (fset h 162 0 (.int (nI 0))) 162 47 (.int (nI 0))) := rfl
  refine ⟨?_, ?_, ?_⟩ <;> rw [ed]
  · exact er1
  · exact (hc_f rfl rfl (by decide) rfl (hc_f rfl rfl (by decide) rfl hw))
  · exact (fr_f rfl rfl (fr_f rfl rfl fr_0))
def v126w1 (q : QT) (cc gc : Nat) (i : Int32) : Bool := false
theorem v126w1_ok {n fr lo sl cc gc : Nat} {q : QT} {h : pm_H} {R : pm_Rs} {i : Int32} (hw : HC q cc gc h) (hb : pm_cmp .lt i 0 = true) (hh : pm_run PT n fr lo 126 (0, pm_l0 [.ref 0, .int i] 2, [], h, 198, sl) = some R) : R = (some (.int (cond (v126w1 q cc gc i) 1 0)), h, 198, sl) := by
  have hcc := hw.cb
  have hgc := hw.gb
  have hzr := hw.zr
  obtain ⟨n, hh⟩ := rn_i rfl rfl rfl rfl hh
  have hh : pm_run PT n fr lo 126 (1, [some (.ref 0), some (.int i)], [.int i], h, 198, sl) = some R := hh
  obtain ⟨n, hh⟩ := en_zn (cc := .lt) (off := 19) (t := 20) (b := pm_cmp .lt i 0) rfl rfl rfl hh
  have hh := en_t hb hh
  have hh : pm_run PT n fr lo 126 (20, [some (.ref 0), some (.int i)], [], h, 198, sl) = some R := hh
  obtain ⟨n, hh⟩ := rn_i rfl rfl rfl rfl hh
  have hh : pm_run PT n fr lo 126 (21, [some (.ref 0), some (.int i)], [.int (nI 0)], h, 198, sl) = some R := hh
  have er1 : R = (some (.int (nI 0)), h, 198, sl) := (rn_ret rfl (Or.inr rfl) hh).2
  have ed : v126w1 q cc gc i = false := rfl
  rw [ed]
  exact er1
theorem v126w2_ok {n fr lo sl cc gc : Nat} {q : QT} {h : pm_H} {R : pm_Rs} {i : Int32} (hw : HC q cc gc h) (hb1 : pm_cmp .lt i 0 = false) (hb2 : pm_cmp .ge i (nI 3) = true) (hh : pm_run PT n fr lo 126 (0, pm_l0 [.ref 0, .int i] 2, [], h, 198, sl) = some R) : R = (some (.int (cond (v126w1 q cc gc i) 1 0)), h, 198, sl) := by
  have hcc := hw.cb
  have hgc := hw.gb
  have hzr := hw.zr
  obtain ⟨n, hh⟩ := rn_i rfl rfl rfl rfl hh
  have hh : pm_run PT n fr lo 126 (1, [some (.ref 0), some (.int i)], [.int i], h, 198, sl) = some R := hh
  obtain ⟨n, hh⟩ := en_zn (cc := .lt) (off := 19) (t := 20) (b := pm_cmp .lt i 0) rfl rfl rfl hh
  have hh := en_f hb1 hh
  have hh : pm_run PT n fr lo 126 (4, [some (.ref 0), some (.int i)], [], h, 198, sl) = some R := hh
  obtain ⟨n, hh⟩ := rn_i rfl rfl rfl rfl hh
  obtain ⟨n, hh⟩ := rn_i rfl rfl rfl rfl hh
  have hh : pm_run PT n fr lo 126 (6, [some (.ref 0), some (.int i)], [.int (nI 3), .int i], h, 198, sl) = some R := hh
  obtain ⟨n, hh⟩ := en_cn (cc := .ge) (off := 14) (t := 20) (b := pm_cmp .ge i (nI 3)) rfl rfl rfl hh
  have hh := en_t hb2 hh
  have hh : pm_run PT n fr lo 126 (20, [some (.ref 0), some (.int i)], [], h, 198, sl) = some R := hh
  obtain ⟨n, hh⟩ := rn_i rfl rfl rfl rfl hh
  have hh : pm_run PT n fr lo 126 (21, [some (.ref 0), some (.int i)], [.int (nI 0)], h, 198, sl) = some R := hh
  have er1 : R = (some (.int (nI 0)), h, 198, sl) := (rn_ret rfl (Or.inr rfl) hh).2
  have ed : v126w1 q cc gc i = false := rfl
  rw [ed]
  exact er1
def v39a (q : QT) (cc gc : Nat) (h : pm_H) (z : Nat) (g : Nat) (c : Nat) : Int32 × pm_H := (imax (nI 0) (imin (nI 999) ((v68a q cc gc (aset h 12 7 (upd (upd (upd (upd (upd (upd (upd (Ar h 12) 0 ((Ar h 10) g)) 1 (v28t q cc gc (Ar h 7) c ((Ar h 9) g))) 2 ((Ar h 6) c)) 3 ((Ar h 6) (((Ar h 17) g).toNatClampNeg))) 4 (v270 q cc gc ((Ar h 18) g))) 5 ((Ar h 11) g)) 6 (cond (cond (v74 q cc gc (Fi h 13 5) g) true false) 1 0))) z).1)), (v68a q cc gc (aset h 12 7 (upd (upd (upd (upd (upd (upd (upd (Ar h 12) 0 ((Ar h 10) g)) 1 (v28t q cc gc (Ar h 7) c ((Ar h 9) g))) 2 ((Ar h 6) c)) 3 ((Ar h 6) (((Ar h 17) g).toNatClampNeg))) 4 (v270 q cc gc ((Ar h 18) g))) 5 ((Ar h 11) g)) 6 (cond (cond (v74 q cc gc (Fi h 13 5) g) true false) 1 0))) z).2)
theorem v39a_ok {n fr lo sl cc gc : Nat} {q : QT} {h : pm_H} {R : pm_Rs} {z : Nat} {g : Nat} {c : Nat} (hw : HC q cc gc h) (h_g : g < 10000) (h_c : c < 10000) (hz : z ≤ 40) (e1 : Fi h 142 1 = nI z) (hh : pm_run PT n fr lo 39 (0, pm_l0 [.ref 5, .ref 142, .ref 13, .int (nI g), .int (nI c)] 5, [], h, 198, sl) = some R) : R = (some (.int ((v39a q cc gc h z g c).1)), (v39a q cc gc h z g c).2, 198, sl) ∧ HC q cc gc ((v39a q cc gc h z g c).2) ∧ frm [12, 142, 144] [(142, 3)] h ((v39a q cc gc h z g c).2) := by
  have hcc := hw.cb
  have hgc := hw.gb
  have hzr := hw.zr
  obtain ⟨n, hh⟩ := rn_i rfl rfl rfl rfl hh
  have hh : pm_run PT n fr lo 39 (1, [some (.ref 5), some (.ref 142), some (.ref 13), some (.int (nI g)), some (.int (nI c))], [.ref 5], h, 198, sl) = some R := hh
  obtain ⟨n, hh⟩ := rn_gr hw.wt rfl rfl (by decide) rfl (by decide) (show _ = some (2, ((12 : Nat) : Int), 1) from rfl) rfl hh
  obtain ⟨n, hh⟩ := rn_i rfl rfl rfl rfl hh
  obtain ⟨n, hh⟩ := rn_i rfl rfl rfl rfl hh
  have hh : pm_run PT n fr lo 39 (6, [some (.ref 5), some (.ref 142), some (.ref 13), some (.int (nI g)), some (.int (nI c))], [.ref 5, .int (nI 0), .ref 12], h, 198, sl) = some R := hh
  obtain ⟨n, hh⟩ := rn_gr hw.wt rfl rfl (by decide) rfl (by decide) (show _ = some (2, ((10 : Nat) : Int), 1) from rfl) rfl hh
  obtain ⟨n, hh⟩ := rn_i rfl rfl rfl rfl hh
  have hh : pm_run PT n fr lo 39 (10, [some (.ref 5), some (.ref 142), some (.ref 13), some (.int (nI g)), some (.int (nI c))], [.int (nI g), .ref 10, .int (nI 0), .ref 12], h, 198, sl) = some R := hh
  obtain ⟨n, hx1, hh⟩ := en_lu (t := g) (f := Ar h 10) (w := (Ar h 10) g) (nI_clamp (by omega)) hw.wt rfl (by decide) rfl (by decide) rfl (fun _ => rfl) hh
  have hh : pm_run PT n fr lo 39 (11, [some (.ref 5), some (.ref 142), some (.ref 13), some (.int (nI g)), some (.int (nI c))], [.int ((Ar h 10) g), .int (nI 0), .ref 12], h, 198, sl) = some R := hh
  obtain ⟨n, hx2, hh⟩ := en_st (t := 0) (f := Ar h 12) (nI_clamp (by omega)) hw.wt rfl (by decide) rfl (by decide) rfl hh
  obtain ⟨n, hh⟩ := rn_i rfl rfl rfl rfl hh
  have hh : pm_run PT n fr lo 39 (13, [some (.ref 5), some (.ref 142), some (.ref 13), some (.int (nI g)), some (.int (nI c))], [.ref 5], aset h 12 7 (upd (Ar h 12) 0 ((Ar h 10) g)), 198, sl) = some R := hh
  obtain ⟨n, hh⟩ := rn_gr (hc_a rfl rfl hw).wt rfl rfl (by decide) rfl (by decide) (show _ = some (2, ((12 : Nat) : Int), 1) from rfl) rfl hh
  obtain ⟨n, hh⟩ := rn_i rfl rfl rfl rfl hh
  obtain ⟨n, hh⟩ := rn_i rfl rfl rfl rfl hh
  obtain ⟨n, hh⟩ := rn_i rfl rfl rfl rfl hh
  obtain ⟨n, hh⟩ := rn_i rfl rfl rfl rfl hh
  have hh : pm_run PT n fr lo 39 (21, [some (.ref 5), some (.ref 142), some (.ref 13), some (.int (nI g)), some (.int (nI c))], [.ref 5, .int (nI c), .ref 5, .int (nI 1), .ref 12], aset h 12 7 (upd (Ar h 12) 0 ((Ar h 10) g)), 198, sl) = some R := hh
  obtain ⟨n, hh⟩ := rn_gr (hc_a rfl rfl hw).wt rfl rfl (by decide) rfl (by decide) (show _ = some (2, ((9 : Nat) : Int), 1) from rfl) rfl hh
  obtain ⟨n, hh⟩ := rn_i rfl rfl rfl rfl hh
  have hh : pm_run PT n fr lo 39 (25, [some (.ref 5), some (.ref 142), some (.ref 13), some (.int (nI g)), some (.int (nI c))], [.int (nI g), .ref 9, .int (nI c), .ref 5, .int (nI 1), .ref 12], aset h 12 7 (upd (Ar h 12) 0 ((Ar h 10) g)), 198, sl) = some R := hh
  obtain ⟨n, hx3, hh⟩ := en_lu (t := g) (f := Ar h 9) (w := (Ar h 9) g) (nI_clamp (by omega)) (hc_a rfl rfl hw).wt rfl (by decide) rfl (by decide) ((Ar_n (by decide)).trans rfl) (fun _ => rfl) hh
  have hh : pm_run PT n fr lo 39 (26, [some (.ref 5), some (.ref 142), some (.ref 13), some (.int (nI g)), some (.int (nI c))], [.int ((Ar h 9) g), .int (nI c), .ref 5, .int (nI 1), .ref 12], aset h 12 7 (upd (Ar h 12) 0 ((Ar h 10) g)), 198, sl) = some R := hh
  obtain ⟨n, fr1, lo1, r1, hh1, hh⟩ := rn_call (w := 0) (t := 28) rfl rfl hh
  have er4 := v28t_ok (c := c) (d := ((Ar h 9) g)) (hc_a rfl rfl hw) (by omega) hh1
  rw [show Ar (aset h 12 7 (upd (Ar h 12) 0 ((Ar h 10) g))) 7 = Ar h 7 from ((Ar_n (by decide)).trans rfl)] at er4
  subst er4
  have hh : pm_run PT n fr lo 39 (29, [some (.ref 5), some (.ref 142), some (.ref 13), some (.int (nI g)), some (.int (nI c))], [.int (v28t q cc gc (Ar h 7) c ((Ar h 9) g)), .int (nI 1), .ref 12], aset h 12 7 (upd (Ar h 12) 0 ((Ar h 10) g)), 198, sl) = some R := hh
  obtain ⟨n, hx5, hh⟩ := en_st (t := 1) (f := upd (Ar h 12) 0 ((Ar h 10) g)) (nI_clamp (by omega)) (hc_a rfl rfl hw).wt rfl (by decide) rfl (by decide) Ar_s hh
  have hh : pm_run PT n fr lo 39 (30, [some (.ref 5), some (.ref 142), some (.ref 13), some (.int (nI g)), some (.int (nI c))], [], aset (aset h 12 7 (upd (Ar h 12) 0 ((Ar h 10) g))) 12 7 (upd (upd (Ar h 12) 0 ((Ar h 10) g)) 1 (v28t q cc gc (Ar h 7) c ((Ar h 9) g))), 198, sl) = some R := hh
  rw [aset_aset] at hh
  obtain ⟨n, hh⟩ := rn_i rfl rfl rfl rfl hh
  have hh : pm_run PT n fr lo 39 (31, [some (.ref 5), some (.ref 142), some (.ref 13), some (.int (nI g)), some (.int (nI c))], [.ref 5], aset h 12 7 (upd (upd (Ar h 12) 0 ((Ar h 10) g)) 1 (v28t q cc gc (Ar h 7) c ((Ar h 9) g))), 198, sl) = some R := hh
  obtain ⟨n, hh⟩ := rn_gr (hc_a rfl rfl hw).wt rfl rfl (by decide) rfl (by decide) (show _ = some (2, ((12 : Nat) : Int), 1) from rfl) rfl hh
  obtain ⟨n, hh⟩ := rn_i rfl rfl rfl rfl hh
  obtain ⟨n, hh⟩ := rn_i rfl rfl rfl rfl hh
  have hh : pm_run PT n fr lo 39 (36, [some (.ref 5), some (.ref 142), some (.ref 13), some (.int (nI g)), some (.int (nI c))], [.ref 5, .int (nI 2), .ref 12], aset h 12 7 (upd (upd (Ar h 12) 0 ((Ar h 10) g)) 1 (v28t q cc gc (Ar h 7) c ((Ar h 9) g))), 198, sl) = some R := hh
  obtain ⟨n, hh⟩ := rn_gr (hc_a rfl rfl hw).wt rfl rfl (by decide) rfl (by decide) (show _ = some (2, ((6 : Nat) : Int), 1) from rfl) rfl hh
  obtain ⟨n, hh⟩ := rn_i rfl rfl rfl rfl hh
  have hh : pm_run PT n fr lo 39 (41, [some (.ref 5), some (.ref 142), some (.ref 13), some (.int (nI g)), some (.int (nI c))], [.int (nI c), .ref 6, .int (nI 2), .ref 12], aset h 12 7 (upd (upd (Ar h 12) 0 ((Ar h 10) g)) 1 (v28t q cc gc (Ar h 7) c ((Ar h 9) g))), 198, sl) = some R := hh
  obtain ⟨n, hx6, hh⟩ := en_lu (t := c) (f := Ar h 6) (w := (Ar h 6) c) (nI_clamp (by omega)) (hc_a rfl rfl hw).wt rfl (by decide) rfl (by decide) ((Ar_n (by decide)).trans rfl) (fun _ => rfl) hh
  have hh : pm_run PT n fr lo 39 (42, [some (.ref 5), some (.ref 142), some (.ref 13), some (.int (nI g)), some (.int (nI c))], [.int ((Ar h 6) c), .int (nI 2), .ref 12], aset h 12 7 (upd (upd (Ar h 12) 0 ((Ar h 10) g)) 1 (v28t q cc gc (Ar h 7) c ((Ar h 9) g))), 198, sl) = some R := hh
  obtain ⟨n, hx7, hh⟩ := en_st (t := 2) (f := upd (upd (Ar h 12) 0 ((Ar h 10) g)) 1 (v28t q cc gc (Ar h 7) c ((Ar h 9) g))) (nI_clamp (by omega)) (hc_a rfl rfl hw).wt rfl (by decide) rfl (by decide) Ar_s hh
  have hh : pm_run PT n fr lo 39 (43, [some (.ref 5), some (.ref 142), some (.ref 13), some (.int (nI g)), some (.int (nI c))], [], aset (aset h 12 7 (upd (upd (Ar h 12) 0 ((Ar h 10) g)) 1 (v28t q cc gc (Ar h 7) c ((Ar h 9) g)))) 12 7 (upd (upd (upd (Ar h 12) 0 ((Ar h 10) g)) 1 (v28t q cc gc (Ar h 7) c ((Ar h 9) g))) 2 ((Ar h 6) c)), 198, sl) = some R := hh
  rw [aset_aset] at hh
  obtain ⟨n, hh⟩ := rn_i rfl rfl rfl rfl hh
  have hh : pm_run PT n fr lo 39 (44, [some (.ref 5), some (.ref 142), some (.ref 13), some (.int (nI g)), some (.int (nI c))], [.ref 5], aset h 12 7 (upd (upd (upd (Ar h 12) 0 ((Ar h 10) g)) 1 (v28t q cc gc (Ar h 7) c ((Ar h 9) g))) 2 ((Ar h 6) c)), 198, sl) = some R := hh
  obtain ⟨n, hh⟩ := rn_gr (hc_a rfl rfl hw).wt rfl rfl (by decide) rfl (by decide) (show _ = some (2, ((12 : Nat) : Int), 1) from rfl) rfl hh
  obtain ⟨n, hh⟩ := rn_i rfl rfl rfl rfl hh
  obtain ⟨n, hh⟩ := rn_i rfl rfl rfl rfl hh
  have hh : pm_run PT n fr lo 39 (49, [some (.ref 5), some (.ref 142), some (.ref 13), some (.int (nI g)), some (.int (nI c))], [.ref 5, .int (nI 3), .ref 12], aset h 12 7 (upd (upd (upd (Ar h 12) 0 ((Ar h 10) g)) 1 (v28t q cc gc (Ar h 7) c ((Ar h 9) g))) 2 ((Ar h 6) c)), 198, sl) = some R := hh
  obtain ⟨n, hh⟩ := rn_gr (hc_a rfl rfl hw).wt rfl rfl (by decide) rfl (by decide) (show _ = some (2, ((6 : Nat) : Int), 1) from rfl) rfl hh
  obtain ⟨n, hh⟩ := rn_i rfl rfl rfl rfl hh
  have hh : pm_run PT n fr lo 39 (53, [some (.ref 5), some (.ref 142), some (.ref 13), some (.int (nI g)), some (.int (nI c))], [.ref 13, .ref 6, .int (nI 3), .ref 12], aset h 12 7 (upd (upd (upd (Ar h 12) 0 ((Ar h 10) g)) 1 (v28t q cc gc (Ar h 7) c ((Ar h 9) g))) 2 ((Ar h 6) c)), 198, sl) = some R := hh
  obtain ⟨n, hh⟩ := rn_gr (hc_a rfl rfl hw).wt rfl rfl (by decide) rfl (by decide) (show _ = some (2, ((17 : Nat) : Int), 1) from rfl) rfl hh
  obtain ⟨n, hh⟩ := rn_i rfl rfl rfl rfl hh
  have hh : pm_run PT n fr lo 39 (57, [some (.ref 5), some (.ref 142), some (.ref 13), some (.int (nI g)), some (.int (nI c))], [.int (nI g), .ref 17, .ref 6, .int (nI 3), .ref 12], aset h 12 7 (upd (upd (upd (Ar h 12) 0 ((Ar h 10) g)) 1 (v28t q cc gc (Ar h 7) c ((Ar h 9) g))) 2 ((Ar h 6) c)), 198, sl) = some R := hh
  obtain ⟨n, hx8, hh⟩ := en_lu (t := g) (f := Ar h 17) (w := (Ar h 17) g) (nI_clamp (by omega)) (hc_a rfl rfl hw).wt rfl (by decide) rfl (by decide) ((Ar_n (by decide)).trans rfl) (fun _ => rfl) hh
  have hh : pm_run PT n fr lo 39 (58, [some (.ref 5), some (.ref 142), some (.ref 13), some (.int (nI g)), some (.int (nI c))], [.int ((Ar h 17) g), .ref 6, .int (nI 3), .ref 12], aset h 12 7 (upd (upd (upd (Ar h 12) 0 ((Ar h 10) g)) 1 (v28t q cc gc (Ar h 7) c ((Ar h 9) g))) 2 ((Ar h 6) c)), 198, sl) = some R := hh
  obtain ⟨n, hx9, hh⟩ := en_lu (t := ((Ar h 17) g).toNatClampNeg) (f := Ar h 6) (w := (Ar h 6) (((Ar h 17) g).toNatClampNeg)) rfl (hc_a rfl rfl hw).wt rfl (by decide) rfl (by decide) ((Ar_n (by decide)).trans rfl) (fun _ => rfl) hh
  have hh : pm_run PT n fr lo 39 (59, [some (.ref 5), some (.ref 142), some (.ref 13), some (.int (nI g)), some (.int (nI c))], [.int ((Ar h 6) (((Ar h 17) g).toNatClampNeg)), .int (nI 3), .ref 12], aset h 12 7 (upd (upd (upd (Ar h 12) 0 ((Ar h 10) g)) 1 (v28t q cc gc (Ar h 7) c ((Ar h 9) g))) 2 ((Ar h 6) c)), 198, sl) = some R := hh
  obtain ⟨n, hx10, hh⟩ := en_st (t := 3) (f := upd (upd (upd (Ar h 12) 0 ((Ar h 10) g)) 1 (v28t q cc gc (Ar h 7) c ((Ar h 9) g))) 2 ((Ar h 6) c)) (nI_clamp (by omega)) (hc_a rfl rfl hw).wt rfl (by decide) rfl (by decide) Ar_s hh
  have hh : pm_run PT n fr lo 39 (60, [some (.ref 5), some (.ref 142), some (.ref 13), some (.int (nI g)), some (.int (nI c))], [], aset (aset h 12 7 (upd (upd (upd (Ar h 12) 0 ((Ar h 10) g)) 1 (v28t q cc gc (Ar h 7) c ((Ar h 9) g))) 2 ((Ar h 6) c))) 12 7 (upd (upd (upd (upd (Ar h 12) 0 ((Ar h 10) g)) 1 (v28t q cc gc (Ar h 7) c ((Ar h 9) g))) 2 ((Ar h 6) c)) 3 ((Ar h 6) (((Ar h 17) g).toNatClampNeg))), 198, sl) = some R := hh
  rw [aset_aset] at hh
  obtain ⟨n, hh⟩ := rn_i rfl rfl rfl rfl hh
  have hh : pm_run PT n fr lo 39 (61, [some (.ref 5), some (.ref 142), some (.ref 13), some (.int (nI g)), some (.int (nI c))], [.ref 5], aset h 12 7 (upd (upd (upd (upd (Ar h 12) 0 ((Ar h 10) g)) 1 (v28t q cc gc (Ar h 7) c ((Ar h 9) g))) 2 ((Ar h 6) c)) 3 ((Ar h 6) (((Ar h 17) g).toNatClampNeg))), 198, sl) = some R := hh
  obtain ⟨n, hh⟩ := rn_gr (hc_a rfl rfl hw).wt rfl rfl (by decide) rfl (by decide) (show _ = some (2, ((12 : Nat) : Int), 1) from rfl) rfl hh
  obtain ⟨n, hh⟩ := rn_i rfl rfl rfl rfl hh
  obtain ⟨n, hh⟩ := rn_i rfl rfl rfl rfl hh
  have hh : pm_run PT n fr lo 39 (66, [some (.ref 5), some (.ref 142), some (.ref 13), some (.int (nI g)), some (.int (nI c))], [.ref 13, .int (nI 4), .ref 12], aset h 12 7 (upd (upd (upd (upd (Ar h 12) 0 ((Ar h 10) g)) 1 (v28t q cc gc (Ar h 7) c ((Ar h 9) g))) 2 ((Ar h 6) c)) 3 ((Ar h 6) (((Ar h 17) g).toNatClampNeg))), 198, sl) = some R := hh
  obtain ⟨n, hh⟩ := rn_gr (hc_a rfl rfl hw).wt rfl rfl (by decide) rfl (by decide) (show _ = some (2, ((18 : Nat) : Int), 1) from rfl) rfl hh
  obtain ⟨n, hh⟩ := rn_i rfl rfl rfl rfl hh
  have hh : pm_run PT n fr lo 39 (70, [some (.ref 5), some (.ref 142), some (.ref 13), some (.int (nI g)), some (.int (nI c))], [.int (nI g), .ref 18, .int (nI 4), .ref 12], aset h 12 7 (upd (upd (upd (upd (Ar h 12) 0 ((Ar h 10) g)) 1 (v28t q cc gc (Ar h 7) c ((Ar h 9) g))) 2 ((Ar h 6) c)) 3 ((Ar h 6) (((Ar h 17) g).toNatClampNeg))), 198, sl) = some R := hh
  obtain ⟨n, hx11, hh⟩ := en_lu (t := g) (f := Ar h 18) (w := (Ar h 18) g) (nI_clamp (by omega)) (hc_a rfl rfl hw).wt rfl (by decide) rfl (by decide) ((Ar_n (by decide)).trans rfl) (fun _ => rfl) hh
  have hh : pm_run PT n fr lo 39 (71, [some (.ref 5), some (.ref 142), some (.ref 13), some (.int (nI g)), some (.int (nI c))], [.int ((Ar h 18) g), .int (nI 4), .ref 12], aset h 12 7 (upd (upd (upd (upd (Ar h 12) 0 ((Ar h 10) g)) 1 (v28t q cc gc (Ar h 7) c ((Ar h 9) g))) 2 ((Ar h 6) c)) 3 ((Ar h 6) (((Ar h 17) g).toNatClampNeg))), 198, sl) = some R := hh
  obtain ⟨n, fr1, lo1, r1, hh1, hh⟩ := rn_call (w := 2) (t := 270) rfl rfl hh
  have er12 := v270_ok (a := ((Ar h 18) g)) (hc_a rfl rfl hw) hh1
  subst er12
  have hh : pm_run PT n fr lo 39 (74, [some (.ref 5), some (.ref 142), some (.ref 13), some (.int (nI g)), some (.int (nI c))], [.int (v270 q cc gc ((Ar h 18) g)), .int (nI 4), .ref 12], aset h 12 7 (upd (upd (upd (upd (Ar h 12) 0 ((Ar h 10) g)) 1 (v28t q cc gc (Ar h 7) c ((Ar h 9) g))) 2 ((Ar h 6) c)) 3 ((Ar h 6) (((Ar h 17) g).toNatClampNeg))), 198, sl) = some R := hh
  obtain ⟨n, hx13, hh⟩ := en_st (t := 4) (f := upd (upd (upd (upd (Ar h 12) 0 ((Ar h 10) g)) 1 (v28t q cc gc (Ar h 7) c ((Ar h 9) g))) 2 ((Ar h 6) c)) 3 ((Ar h 6) (((Ar h 17) g).toNatClampNeg))) (nI_clamp (by omega)) (hc_a rfl rfl hw).wt rfl (by decide) rfl (by decide) Ar_s hh
  have hh : pm_run PT n fr lo 39 (75, [some (.ref 5), some (.ref 142), some (.ref 13), some (.int (nI g)), some (.int (nI c))], [], aset (aset h 12 7 (upd (upd (upd (upd (Ar h 12) 0 ((Ar h 10) g)) 1 (v28t q cc gc (Ar h 7) c ((Ar h 9) g))) 2 ((Ar h 6) c)) 3 ((Ar h 6) (((Ar h 17) g).toNatClampNeg)))) 12 7 (upd (upd (upd (upd (upd (Ar h 12) 0 ((Ar h 10) g)) 1 (v28t q cc gc (Ar h 7) c ((Ar h 9) g))) 2 ((Ar h 6) c)) 3 ((Ar h 6) (((Ar h 17) g).toNatClampNeg))) 4 (v270 q cc gc ((Ar h 18) g))), 198, sl) = some R := hh
  rw [aset_aset] at hh
  obtain ⟨n, hh⟩ := rn_i rfl rfl rfl rfl hh
  have hh : pm_run PT n fr lo 39 (76, [some (.ref 5), some (.ref 142), some (.ref 13), some (.int (nI g)), some (.int (nI c))], [.ref 5], aset h 12 7 (upd (upd (upd (upd (upd (Ar h 12) 0 ((Ar h 10) g)) 1 (v28t q cc gc (Ar h 7) c ((Ar h 9) g))) 2 ((Ar h 6) c)) 3 ((Ar h 6) (((Ar h 17) g).toNatClampNeg))) 4 (v270 q cc gc ((Ar h 18) g))), 198, sl) = some R := hh
  obtain ⟨n, hh⟩ := rn_gr (hc_a rfl rfl hw).wt rfl rfl (by decide) rfl (by decide) (show _ = some (2, ((12 : Nat) : Int), 1) from rfl) rfl hh
  obtain ⟨n, hh⟩ := rn_i rfl rfl rfl rfl hh
  obtain ⟨n, hh⟩ := rn_i rfl rfl rfl rfl hh
  have hh : pm_run PT n fr lo 39 (81, [some (.ref 5), some (.ref 142), some (.ref 13), some (.int (nI g)), some (.int (nI c))], [.ref 5, .int (nI 5), .ref 12], aset h 12 7 (upd (upd (upd (upd (upd (Ar h 12) 0 ((Ar h 10) g)) 1 (v28t q cc gc (Ar h 7) c ((Ar h 9) g))) 2 ((Ar h 6) c)) 3 ((Ar h 6) (((Ar h 17) g).toNatClampNeg))) 4 (v270 q cc gc ((Ar h 18) g))), 198, sl) = some R := hh
  obtain ⟨n, hh⟩ := rn_gr (hc_a rfl rfl hw).wt rfl rfl (by decide) rfl (by decide) (show _ = some (2, ((11 : Nat) : Int), 1) from rfl) rfl hh
  obtain ⟨n, hh⟩ := rn_i rfl rfl rfl rfl hh
  have hh : pm_run PT n fr lo 39 (85, [some (.ref 5), some (.ref 142), some (.ref 13), some (.int (nI g)), some (.int (nI c))], [.int (nI g), .ref 11, .int (nI 5), .ref 12], aset h 12 7 (upd (upd (upd (upd (upd (Ar h 12) 0 ((Ar h 10) g)) 1 (v28t q cc gc (Ar h 7) c ((Ar h 9) g))) 2 ((Ar h 6) c)) 3 ((Ar h 6) (((Ar h 17) g).toNatClampNeg))) 4 (v270 q cc gc ((Ar h 18) g))), 198, sl) = some R := hh
  obtain ⟨n, hx14, hh⟩ := en_lu (t := g) (f := Ar h 11) (w := (Ar h 11) g) (nI_clamp (by omega)) (hc_a rfl rfl hw).wt rfl (by decide) rfl (by decide) ((Ar_n (by decide)).trans rfl) (fun _ => rfl) hh
  have hh : pm_run PT n fr lo 39 (86, [some (.ref 5), some (.ref 142), some (.ref 13), some (.int (nI g)), some (.int (nI c))], [.int ((Ar h 11) g), .int (nI 5), .ref 12], aset h 12 7 (upd (upd (upd (upd (upd (Ar h 12) 0 ((Ar h 10) g)) 1 (v28t q cc gc (Ar h 7) c ((Ar h 9) g))) 2 ((Ar h 6) c)) 3 ((Ar h 6) (((Ar h 17) g).toNatClampNeg))) 4 (v270 q cc gc ((Ar h 18) g))), 198, sl) = some R := hh
  obtain ⟨n, hx15, hh⟩ := en_st (t := 5) (f := upd (upd (upd (upd (upd (Ar h 12) 0 ((Ar h 10) g)) 1 (v28t q cc gc (Ar h 7) c ((Ar h 9) g))) 2 ((Ar h 6) c)) 3 ((Ar h 6) (((Ar h 17) g).toNatClampNeg))) 4 (v270 q cc gc ((Ar h 18) g))) (nI_clamp (by omega)) (hc_a rfl rfl hw).wt rfl (by decide) rfl (by decide) Ar_s hh
  have hh : pm_run PT n fr lo 39 (87, [some (.ref 5), some (.ref 142), some (.ref 13), some (.int (nI g)), some (.int (nI c))], [], aset (aset h 12 7 (upd (upd (upd (upd (upd (Ar h 12) 0 ((Ar h 10) g)) 1 (v28t q cc gc (Ar h 7) c ((Ar h 9) g))) 2 ((Ar h 6) c)) 3 ((Ar h 6) (((Ar h 17) g).toNatClampNeg))) 4 (v270 q cc gc ((Ar h 18) g)))) 12 7 (upd (upd (upd (upd (upd (upd (Ar h 12) 0 ((Ar h 10) g)) 1 (v28t q cc gc (Ar h 7) c ((Ar h 9) g))) 2 ((Ar h 6) c)) 3 ((Ar h 6) (((Ar h 17) g).toNatClampNeg))) 4 (v270 q cc gc ((Ar h 18) g))) 5 ((Ar h 11) g)), 198, sl) = some R := hh
  rw [aset_aset] at hh
  obtain ⟨n, hh⟩ := rn_i rfl rfl rfl rfl hh
  have hh : pm_run PT n fr lo 39 (88, [some (.ref 5), some (.ref 142), some (.ref 13), some (.int (nI g)), some (.int (nI c))], [.ref 5], aset h 12 7 (upd (upd (upd (upd (upd (upd (Ar h 12) 0 ((Ar h 10) g)) 1 (v28t q cc gc (Ar h 7) c ((Ar h 9) g))) 2 ((Ar h 6) c)) 3 ((Ar h 6) (((Ar h 17) g).toNatClampNeg))) 4 (v270 q cc gc ((Ar h 18) g))) 5 ((Ar h 11) g)), 198, sl) = some R := hh
  obtain ⟨n, hh⟩ := rn_gr (hc_a rfl rfl hw).wt rfl rfl (by decide) rfl (by decide) (show _ = some (2, ((12 : Nat) : Int), 1) from rfl) rfl hh
  obtain ⟨n, hh⟩ := rn_i rfl rfl rfl rfl hh
  obtain ⟨n, hh⟩ := rn_i rfl rfl rfl rfl hh
  obtain ⟨n, hh⟩ := rn_i rfl rfl rfl rfl hh
  have hh : pm_run PT n fr lo 39 (95, [some (.ref 5), some (.ref 142), some (.ref 13), some (.int (nI g)), some (.int (nI c))], [.int (nI g), .ref 13, .int (nI 6), .ref 12], aset h 12 7 (upd (upd (upd (upd (upd (upd (Ar h 12) 0 ((Ar h 10) g)) 1 (v28t q cc gc (Ar h 7) c ((Ar h 9) g))) 2 ((Ar h 6) c)) 3 ((Ar h 6) (((Ar h 17) g).toNatClampNeg))) 4 (v270 q cc gc ((Ar h 18) g))) 5 ((Ar h 11) g)), 198, sl) = some R := hh
  obtain ⟨n, fr1, lo1, r1, hh1, hh⟩ := rn_call (w := 0) (t := 74) rfl rfl hh
  have er16 := v74_ok (g := g) (hc_a rfl rfl hw) (by omega) hh1
  rw [show Fi (aset h 12 7 (upd (upd (upd (upd (upd (upd (Ar h 12) 0 ((Ar h 10) g)) 1 (v28t q cc gc (Ar h 7) c ((Ar h 9) g))) 2 ((Ar h 6) c)) 3 ((Ar h 6) (((Ar h 17) g).toNatClampNeg))) 4 (v270 q cc gc ((Ar h 18) g))) 5 ((Ar h 11) g))) 13 5 = Fi h 13 5 from ((Fi_a (by decide)).trans rfl)] at er16
  subst er16
  have hh : pm_run PT n fr lo 39 (98, [some (.ref 5), some (.ref 142), some (.ref 13), some (.int (nI g)), some (.int (nI c))], [.int (cond (v74 q cc gc (Fi h 13 5) g) 1 0), .int (nI 6), .ref 12], aset h 12 7 (upd (upd (upd (upd (upd (upd (Ar h 12) 0 ((Ar h 10) g)) 1 (v28t q cc gc (Ar h 7) c ((Ar h 9) g))) 2 ((Ar h 6) c)) 3 ((Ar h 6) (((Ar h 17) g).toNatClampNeg))) 4 (v270 q cc gc ((Ar h 18) g))) 5 ((Ar h 11) g)), 198, sl) = some R := hh
  obtain ⟨n, hh⟩ := en_zn (cc := .eq) (off := 7) (t := 105) (b := !(v74 q cc gc (Fi h 13 5) g)) eb_eq rfl rfl hh
  have hj18 : ∃ mJ, pm_run PT mJ fr lo 39 (cond (v74 q cc gc (Fi h 13 5) g) (106, [some (.ref 5), some (.ref 142), some (.ref 13), some (.int (nI g)), some (.int (nI c))], [.int (nI 1), .int (nI 6), .ref 12], aset h 12 7 (upd (upd (upd (upd (upd (upd (Ar h 12) 0 ((Ar h 10) g)) 1 (v28t q cc gc (Ar h 7) c ((Ar h 9) g))) 2 ((Ar h 6) c)) 3 ((Ar h 6) (((Ar h 17) g).toNatClampNeg))) 4 (v270 q cc gc ((Ar h 18) g))) 5 ((Ar h 11) g)), 198, sl) (106, [some (.ref 5), some (.ref 142), some (.ref 13), some (.int (nI g)), some (.int (nI c))], [.int (nI 0), .int (nI 6), .ref 12], aset h 12 7 (upd (upd (upd (upd (upd (upd (Ar h 12) 0 ((Ar h 10) g)) 1 (v28t q cc gc (Ar h 7) c ((Ar h 9) g))) 2 ((Ar h 6) c)) 3 ((Ar h 6) (((Ar h 17) g).toNatClampNeg))) 4 (v270 q cc gc ((Ar h 18) g))) 5 ((Ar h 11) g)), 198, sl)) = some R := en_J (fun z17 => by
      have hh := en_nt z17 hh
      have hh : pm_run PT n fr lo 39 (101, [some (.ref 5), some (.ref 142), some (.ref 13), some (.int (nI g)), some (.int (nI c))], [.int (nI 6), .ref 12], aset h 12 7 (upd (upd (upd (upd (upd (upd (Ar h 12) 0 ((Ar h 10) g)) 1 (v28t q cc gc (Ar h 7) c ((Ar h 9) g))) 2 ((Ar h 6) c)) 3 ((Ar h 6) (((Ar h 17) g).toNatClampNeg))) 4 (v270 q cc gc ((Ar h 18) g))) 5 ((Ar h 11) g)), 198, sl) = some R := hh
      obtain ⟨n, hh⟩ := rn_i rfl rfl rfl rfl hh
      obtain ⟨n, hh⟩ := rn_i rfl rfl rfl rfl hh
      exact ⟨n, hh⟩) (fun z17 => by
      have hh := en_nf z17 hh
      have hh : pm_run PT n fr lo 39 (105, [some (.ref 5), some (.ref 142), some (.ref 13), some (.int (nI g)), some (.int (nI c))], [.int (nI 6), .ref 12], aset h 12 7 (upd (upd (upd (upd (upd (upd (Ar h 12) 0 ((Ar h 10) g)) 1 (v28t q cc gc (Ar h 7) c ((Ar h 9) g))) 2 ((Ar h 6) c)) 3 ((Ar h 6) (((Ar h 17) g).toNatClampNeg))) 4 (v270 q cc gc ((Ar h 18) g))) 5 ((Ar h 11) g)), 198, sl) = some R := hh
      obtain ⟨n, hh⟩ := rn_i rfl rfl rfl rfl hh
      exact ⟨n, hh⟩)
  obtain ⟨n, hh⟩ := hj18
  rw [show (cond (v74 q cc gc (Fi h 13 5) g) (106, [some (.ref 5), some (.ref 142), some (.ref 13), some (.int (nI g)), some (.int (nI c))], [.int (nI 1), .int (nI 6), .ref 12], aset h 12 7 (upd (upd (upd (upd (upd (upd (Ar h 12) 0 ((Ar h 10) g)) 1 (v28t q cc gc (Ar h 7) c ((Ar h 9) g))) 2 ((Ar h 6) c)) 3 ((Ar h 6) (((Ar h 17) g).toNatClampNeg))) 4 (v270 q cc gc ((Ar h 18) g))) 5 ((Ar h 11) g)), 198, sl) (106, [some (.ref 5), some (.ref 142), some (.ref 13), some (.int (nI g)), some (.int (nI c))], [.int (nI 0), .int (nI 6), .ref 12], aset h 12 7 (upd (upd (upd (upd (upd (upd (Ar h 12) 0 ((Ar h 10) g)) 1 (v28t q cc gc (Ar h 7) c ((Ar h 9) g))) 2 ((Ar h 6) c)) 3 ((Ar h 6) (((Ar h 17) g).toNatClampNeg))) 4 (v270 q cc gc ((Ar h 18) g))) 5 ((Ar h 11) g)), 198, sl) : pm_St) = (106, [some (.ref 5), some (.ref 142), some (.ref 13), some (.int (nI g)), some (.int (nI c))], [.int (cond (cond (v74 q cc gc (Fi h 13 5) g) true false) 1 0), .int (nI 6), .ref 12], aset h 12 7 (upd (upd (upd (upd (upd (upd (Ar h 12) 0 ((Ar h 10) g)) 1 (v28t q cc gc (Ar h 7) c ((Ar h 9) g))) 2 ((Ar h 6) c)) 3 ((Ar h 6) (((Ar h 17) g).toNatClampNeg))) 4 (v270 q cc gc ((Ar h 18) g))) 5 ((Ar h 11) g)), 198, sl) from by cases (v74 q cc gc (Fi h 13 5) g) <;> rfl] at hh
  have hh : pm_run PT n fr lo 39 (106, [some (.ref 5), some (.ref 142), some (.ref 13), some (.int (nI g)), some (.int (nI c))], [.int (cond (cond (v74 q cc gc (Fi h 13 5) g) true false) 1 0), .int (nI 6), .ref 12], aset h 12 7 (upd (upd (upd (upd (upd (upd (Ar h 12) 0 ((Ar h 10) g)) 1 (v28t q cc gc (Ar h 7) c ((Ar h 9) g))) 2 ((Ar h 6) c)) 3 ((Ar h 6) (((Ar h 17) g).toNatClampNeg))) 4 (v270 q cc gc ((Ar h 18) g))) 5 ((Ar h 11) g)), 198, sl) = some R := hh
  obtain ⟨n, hx19, hh⟩ := en_st (t := 6) (f := upd (upd (upd (upd (upd (upd (Ar h 12) 0 ((Ar h 10) g)) 1 (v28t q cc gc (Ar h 7) c ((Ar h 9) g))) 2 ((Ar h 6) c)) 3 ((Ar h 6) (((Ar h 17) g).toNatClampNeg))) 4 (v270 q cc gc ((Ar h 18) g))) 5 ((Ar h 11) g)) (nI_clamp (by omega)) (hc_a rfl rfl hw).wt rfl (by decide) rfl (by decide) Ar_s hh
  have hh : pm_run PT n fr lo 39 (107, [some (.ref 5), some (.ref 142), some (.ref 13), some (.int (nI g)), some (.int (nI c))], [], aset (aset h 12 7 (upd (upd (upd (upd (upd (upd (Ar h 12) 0 ((Ar h 10) g)) 1 (v28t q cc gc (Ar h 7) c ((Ar h 9) g))) 2 ((Ar h 6) c)) 3 ((Ar h 6) (((Ar h 17) g).toNatClampNeg))) 4 (v270 q cc gc ((Ar h 18) g))) 5 ((Ar h 11) g))) 12 7 (upd (upd (upd (upd (upd (upd (upd (Ar h 12) 0 ((Ar h 10) g)) 1 (v28t q cc gc (Ar h 7) c ((Ar h 9) g))) 2 ((Ar h 6) c)) 3 ((Ar h 6) (((Ar h 17) g).toNatClampNeg))) 4 (v270 q cc gc ((Ar h 18) g))) 5 ((Ar h 11) g)) 6 (cond (cond (v74 q cc gc (Fi h 13 5) g) true false) 1 0)), 198, sl) = some R := hh
  rw [aset_aset] at hh
  obtain ⟨n, hh⟩ := rn_i rfl rfl rfl rfl hh
  obtain ⟨n, hh⟩ := rn_i rfl rfl rfl rfl hh
  have hh : pm_run PT n fr lo 39 (109, [some (.ref 5), some (.ref 142), some (.ref 13), some (.int (nI g)), some (.int (nI c))], [.ref 5, .ref 142], aset h 12 7 (upd (upd (upd (upd (upd (upd (upd (Ar h 12) 0 ((Ar h 10) g)) 1 (v28t q cc gc (Ar h 7) c ((Ar h 9) g))) 2 ((Ar h 6) c)) 3 ((Ar h 6) (((Ar h 17) g).toNatClampNeg))) 4 (v270 q cc gc ((Ar h 18) g))) 5 ((Ar h 11) g)) 6 (cond (cond (v74 q cc gc (Fi h 13 5) g) true false) 1 0)), 198, sl) = some R := hh
  obtain ⟨n, hh⟩ := rn_gr (hc_a rfl rfl hw).wt rfl rfl (by decide) rfl (by decide) (show _ = some (2, ((12 : Nat) : Int), 1) from rfl) rfl hh
  have hh : pm_run PT n fr lo 39 (112, [some (.ref 5), some (.ref 142), some (.ref 13), some (.int (nI g)), some (.int (nI c))], [.ref 12, .ref 142], aset h 12 7 (upd (upd (upd (upd (upd (upd (upd (Ar h 12) 0 ((Ar h 10) g)) 1 (v28t q cc gc (Ar h 7) c ((Ar h 9) g))) 2 ((Ar h 6) c)) 3 ((Ar h 6) (((Ar h 17) g).toNatClampNeg))) 4 (v270 q cc gc ((Ar h 18) g))) 5 ((Ar h 11) g)) 6 (cond (cond (v74 q cc gc (Fi h 13 5) g) true false) 1 0)), 198, sl) = some R := hh
  obtain ⟨n, fr1, lo1, r1, hh1, hh⟩ := rn_call (w := 0) (t := 68) rfl rfl hh
  obtain ⟨er20, hc21, hf22⟩ := v68a_ok (z := z) (hc_a rfl rfl hw) hz ((Fi_a (by decide)).trans e1) hh1
  subst er20
  obtain ⟨n, hh⟩ := rn_i rfl rfl rfl rfl hh
  have hh : pm_run PT n fr lo 39 (118, [some (.ref 5), some (.ref 142), some (.ref 13), some (.int (nI g)), some (.int (nI c))], [.int (nI 999), .int ((v68a q cc gc (aset h 12 7 (upd (upd (upd (upd (upd (upd (upd (Ar h 12) 0 ((Ar h 10) g)) 1 (v28t q cc gc (Ar h 7) c ((Ar h 9) g))) 2 ((Ar h 6) c)) 3 ((Ar h 6) (((Ar h 17) g).toNatClampNeg))) 4 (v270 q cc gc ((Ar h 18) g))) 5 ((Ar h 11) g)) 6 (cond (cond (v74 q cc gc (Fi h 13 5) g) true false) 1 0))) z).1)], (v68a q cc gc (aset h 12 7 (upd (upd (upd (upd (upd (upd (upd (Ar h 12) 0 ((Ar h 10) g)) 1 (v28t q cc gc (Ar h 7) c ((Ar h 9) g))) 2 ((Ar h 6) c)) 3 ((Ar h 6) (((Ar h 17) g).toNatClampNeg))) 4 (v270 q cc gc ((Ar h 18) g))) 5 ((Ar h 11) g)) 6 (cond (cond (v74 q cc gc (Fi h 13 5) g) true false) 1 0))) z).2, 198, sl) = some R := hh
  obtain ⟨n, fr1, lo1, r1, hh1, hh⟩ := rn_call (w := 3) (t := 159) rfl rfl hh
  have hh1 : pm_run PT n fr1 lo1 159 (0, [some (.int ((v68a q cc gc (aset h 12 7 (upd (upd (upd (upd (upd (upd (upd (Ar h 12) 0 ((Ar h 10) g)) 1 (v28t q cc gc (Ar h 7) c ((Ar h 9) g))) 2 ((Ar h 6) c)) 3 ((Ar h 6) (((Ar h 17) g).toNatClampNeg))) 4 (v270 q cc gc ((Ar h 18) g))) 5 ((Ar h 11) g)) 6 (cond (cond (v74 q cc gc (Fi h 13 5) g) true false) 1 0))) z).1)), some (.int (nI 999))], [], (v68a q cc gc (aset h 12 7 (upd (upd (upd (upd (upd (upd (upd (Ar h 12) 0 ((Ar h 10) g)) 1 (v28t q cc gc (Ar h 7) c ((Ar h 9) g))) 2 ((Ar h 6) c)) 3 ((Ar h 6) (((Ar h 17) g).toNatClampNeg))) 4 (v270 q cc gc ((Ar h 18) g))) 5 ((Ar h 11) g)) 6 (cond (cond (v74 q cc gc (Fi h 13 5) g) true false) 1 0))) z).2, 198, sl) = some r1 := hh1
  obtain ⟨n1, hh1⟩ := rn_i rfl rfl rfl rfl hh1
  obtain ⟨n1, hh1⟩ := rn_i rfl rfl rfl rfl hh1
  obtain ⟨n1, hh1⟩ := rn_i rfl rfl rfl rfl hh1
  have hh1 : pm_run PT n1 fr1 lo1 159 (3, [some (.int ((v68a q cc gc (aset h 12 7 (upd (upd (upd (upd (upd (upd (upd (Ar h 12) 0 ((Ar h 10) g)) 1 (v28t q cc gc (Ar h 7) c ((Ar h 9) g))) 2 ((Ar h 6) c)) 3 ((Ar h 6) (((Ar h 17) g).toNatClampNeg))) 4 (v270 q cc gc ((Ar h 18) g))) 5 ((Ar h 11) g)) 6 (cond (cond (v74 q cc gc (Fi h 13 5) g) true false) 1 0))) z).1)), some (.int (nI 999))], [.int ((v68a q cc gc (aset h 12 7 (upd (upd (upd (upd (upd (upd (upd (Ar h 12) 0 ((Ar h 10) g)) 1 (v28t q cc gc (Ar h 7) c ((Ar h 9) g))) 2 ((Ar h 6) c)) 3 ((Ar h 6) (((Ar h 17) g).toNatClampNeg))) 4 (v270 q cc gc ((Ar h 18) g))) 5 ((Ar h 11) g)) 6 (cond (cond (v74 q cc gc (Fi h 13 5) g) true false) 1 0))) z).1), .int (nI 999), .int (nI 0)], (v68a q cc gc (aset h 12 7 (upd (upd (upd (upd (upd (upd (upd (Ar h 12) 0 ((Ar h 10) g)) 1 (v28t q cc gc (Ar h 7) c ((Ar h 9) g))) 2 ((Ar h 6) c)) 3 ((Ar h 6) (((Ar h 17) g).toNatClampNeg))) 4 (v270 q cc gc ((Ar h 18) g))) 5 ((Ar h 11) g)) 6 (cond (cond (v74 q cc gc (Fi h 13 5) g) true false) 1 0))) z).2, 198, sl) = some r1 := hh1
  obtain ⟨n1, hh1⟩ := en_min rfl rfl rfl hh1
  have hh1 : pm_run PT n1 fr1 lo1 159 (6, [some (.int ((v68a q cc gc (aset h 12 7 (upd (upd (upd (upd (upd (upd (upd (Ar h 12) 0 ((Ar h 10) g)) 1 (v28t q cc gc (Ar h 7) c ((Ar h 9) g))) 2 ((Ar h 6) c)) 3 ((Ar h 6) (((Ar h 17) g).toNatClampNeg))) 4 (v270 q cc gc ((Ar h 18) g))) 5 ((Ar h 11) g)) 6 (cond (cond (v74 q cc gc (Fi h 13 5) g) true false) 1 0))) z).1)), some (.int (nI 999))], [.int (imin (nI 999) ((v68a q cc gc (aset h 12 7 (upd (upd (upd (upd (upd (upd (upd (Ar h 12) 0 ((Ar h 10) g)) 1 (v28t q cc gc (Ar h 7) c ((Ar h 9) g))) 2 ((Ar h 6) c)) 3 ((Ar h 6) (((Ar h 17) g).toNatClampNeg))) 4 (v270 q cc gc ((Ar h 18) g))) 5 ((Ar h 11) g)) 6 (cond (cond (v74 q cc gc (Fi h 13 5) g) true false) 1 0))) z).1)), .int (nI 0)], (v68a q cc gc (aset h 12 7 (upd (upd (upd (upd (upd (upd (upd (Ar h 12) 0 ((Ar h 10) g)) 1 (v28t q cc gc (Ar h 7) c ((Ar h 9) g))) 2 ((Ar h 6) c)) 3 ((Ar h 6) (((Ar h 17) g).toNatClampNeg))) 4 (v270 q cc gc ((Ar h 18) g))) 5 ((Ar h 11) g)) 6 (cond (cond (v74 q cc gc (Fi h 13 5) g) true false) 1 0))) z).2, 198, sl) = some r1 := hh1
  obtain ⟨n1, hh1⟩ := en_max rfl rfl rfl hh1
  have hh1 : pm_run PT n1 fr1 lo1 159 (9, [some (.int ((v68a q cc gc (aset h 12 7 (upd (upd (upd (upd (upd (upd (upd (Ar h 12) 0 ((Ar h 10) g)) 1 (v28t q cc gc (Ar h 7) c ((Ar h 9) g))) 2 ((Ar h 6) c)) 3 ((Ar h 6) (((Ar h 17) g).toNatClampNeg))) 4 (v270 q cc gc ((Ar h 18) g))) 5 ((Ar h 11) g)) 6 (cond (cond (v74 q cc gc (Fi h 13 5) g) true false) 1 0))) z).1)), some (.int (nI 999))], [.int (imax (nI 0) (imin (nI 999) ((v68a q cc gc (aset h 12 7 (upd (upd (upd (upd (upd (upd (upd (Ar h 12) 0 ((Ar h 10) g)) 1 (v28t q cc gc (Ar h 7) c ((Ar h 9) g))) 2 ((Ar h 6) c)) 3 ((Ar h 6) (((Ar h 17) g).toNatClampNeg))) 4 (v270 q cc gc ((Ar h 18) g))) 5 ((Ar h 11) g)) 6 (cond (cond (v74 q cc gc (Fi h 13 5) g) true false) 1 0))) z).1)))], (v68a q cc gc (aset h 12 7 (upd (upd (upd (upd (upd (upd (upd (Ar h 12) 0 ((Ar h 10) g)) 1 (v28t q cc gc (Ar h 7) c ((Ar h 9) g))) 2 ((Ar h 6) c)) 3 ((Ar h 6) (((Ar h 17) g).toNatClampNeg))) 4 (v270 q cc gc ((Ar h 18) g))) 5 ((Ar h 11) g)) 6 (cond (cond (v74 q cc gc (Fi h 13 5) g) true false) 1 0))) z).2, 198, sl) = some r1 := hh1
  have er23 : r1 = (some (.int (imax (nI 0) (imin (nI 999) ((v68a q cc gc (aset h 12 7 (upd (upd (upd (upd (upd (upd (upd (Ar h 12) 0 ((Ar h 10) g)) 1 (v28t q cc gc (Ar h 7) c ((Ar h 9) g))) 2 ((Ar h 6) c)) 3 ((Ar h 6) (((Ar h 17) g).toNatClampNeg))) 4 (v270 q cc gc ((Ar h 18) g))) 5 ((Ar h 11) g)) 6 (cond (cond (v74 q cc gc (Fi h 13 5) g) true false) 1 0))) z).1)))), (v68a q cc gc (aset h 12 7 (upd (upd (upd (upd (upd (upd (upd (Ar h 12) 0 ((Ar h 10) g)) 1 (v28t q cc gc (Ar h 7) c ((Ar h 9) g))) 2 ((Ar h 6) c)) 3 ((Ar h 6) (((Ar h 17) g).toNatClampNeg))) 4 (v270 q cc gc ((Ar h 18) g))) 5 ((Ar h 11) g)) 6 (cond (cond (v74 q cc gc (Fi h 13 5) g) true false) 1 0))) z).2, 198, sl) := (rn_ret rfl (Or.inl rfl) hh1).2
  subst er23
  have hh : pm_run PT n fr lo 39 (121, [some (.ref 5), some (.ref 142), some (.ref 13), some (.int (nI g)), some (.int (nI c))], [.int (imax (nI 0) (imin (nI 999) ((v68a q cc gc (aset h 12 7 (upd (upd (upd (upd (upd (upd (upd (Ar h 12) 0 ((Ar h 10) g)) 1 (v28t q cc gc (Ar h 7) c ((Ar h 9) g))) 2 ((Ar h 6) c)) 3 ((Ar h 6) (((Ar h 17) g).toNatClampNeg))) 4 (v270 q cc gc ((Ar h 18) g))) 5 ((Ar h 11) g)) 6 (cond (cond (v74 q cc gc (Fi h 13 5) g) true false) 1 0))) z).1)))], (v68a q cc gc (aset h 12 7 (upd (upd (upd (upd (upd (upd (upd (Ar h 12) 0 ((Ar h 10) g)) 1 (v28t q cc gc (Ar h 7) c ((Ar h 9) g))) 2 ((Ar h 6) c)) 3 ((Ar h 6) (((Ar h 17) g).toNatClampNeg))) 4 (v270 q cc gc ((Ar h 18) g))) 5 ((Ar h 11) g)) 6 (cond (cond (v74 q cc gc (Fi h 13 5) g) true false) 1 0))) z).2, 198, sl) = some R := hh
  have er24 : R = (some (.int (imax (nI 0) (imin (nI 999) ((v68a q cc gc (aset h 12 7 (upd (upd (upd (upd (upd (upd (upd (Ar h 12) 0 ((Ar h 10) g)) 1 (v28t q cc gc (Ar h 7) c ((Ar h 9) g))) 2 ((Ar h 6) c)) 3 ((Ar h 6) (((Ar h 17) g).toNatClampNeg))) 4 (v270 q cc gc ((Ar h 18) g))) 5 ((Ar h 11) g)) 6 (cond (cond (v74 q cc gc (Fi h 13 5) g) true false) 1 0))) z).1)))), (v68a q cc gc (aset h 12 7 (upd (upd (upd (upd (upd (upd (upd (Ar h 12) 0 ((Ar h 10) g)) 1 (v28t q cc gc (Ar h 7) c ((Ar h 9) g))) 2 ((Ar h 6) c)) 3 ((Ar h 6) (((Ar h 17) g).toNatClampNeg))) 4 (v270 q cc gc ((Ar h 18) g))) 5 ((Ar h 11) g)) 6 (cond (cond (v74 q cc gc (Fi h 13 5) g) true false) 1 0))) z).2, 198, sl) := (rn_ret rfl (Or.inl rfl) hh).2
  have ed : v39a q cc gc h z g c = (imax (nI 0) (imin (nI 999) ((v68a q cc gc (aset h 12 7 (upd (upd (upd (upd (upd (upd (upd (Ar h 12) 0 ((Ar h 10) g)) 1 (v28t q cc gc (Ar h 7) c ((Ar h 9) g))) 2 ((Ar h 6) c)) 3 ((Ar h 6) (((Ar h 17) g).toNatClampNeg))) 4 (v270 q cc gc ((Ar h 18) g))) 5 ((Ar h 11) g)) 6 (cond (cond (v74 q cc gc (Fi h 13 5) g) true false) 1 0))) z).1)), (v68a q cc gc (aset h 12 7 (upd (upd (upd (upd (upd (upd (upd (Ar h 12) 0 ((Ar h 10) g)) 1 (v28t q cc gc (Ar h 7) c ((Ar h 9) g))) 2 ((Ar h 6) c)) 3 ((Ar h 6) (((Ar h 17) g).toNatClampNeg))) 4 (v270 q cc gc ((Ar h 18) g))) 5 ((Ar h 11) g)) 6 (cond (cond (v74 q cc gc (Fi h 13 5) g) true false) 1 0))) z).2) := rfl
  refine ⟨?_, ?_, ?_⟩ <;> rw [ed]
  · exact er24
  · exact hc21
  · exact (fr_g rfl rfl hf22 (fr_a rfl rfl fr_0))
def v149a_4b (q : QT) (cc gc : Nat) (h : pm_H) (z : Nat) (i : Nat) (x2 : Int32) : Int32 × pm_H := (x2 + ((v39a q cc gc h z i (((Ar h 17) i).toNatClampNeg)).1), (v39a q cc gc h z i (((Ar h 17) i).toNatClampNeg)).2)
def v149a_4 (q : QT) (cc gc : Nat) (z : Nat) (j i : Nat) (a : Int32 × pm_H) : Int32 × pm_H := lp (fun i a => v149a_4b q cc gc a.2 z i a.1) j i a
theorem v149a_4_e {n fr lo sl cc gc : Nat} {q : QT} {h : pm_H} {R : pm_Rs} {z : Nat} {i : Nat} {x2 : Int32} (hw : HC q cc gc h) (hz : z ≤ 40) (e1 : Fi h 142 1 = nI z) (hol : NA h 17 0 8 6) (hi : gc ≤ i) (hI : i < 1000000) (hh : pm_run PT n fr lo 149 (4, [some (.ref 0), some (.ref 142), some (.int x2), some (.int (nI i))], [], h, 198, sl) = some R) : ∃ m, pm_run PT m fr lo 149 (46, [some (.ref 0), some (.ref 142), some (.int x2), some (.int (nI i))], [], h, 198, sl) = some R := by
  have hcc := hw.cb
  have hgc := hw.gb
  have hzr := hw.zr
  obtain ⟨n, hh⟩ := rn_i rfl rfl rfl rfl hh
  obtain ⟨n, hh⟩ := rn_i rfl rfl rfl rfl hh
  have hh : pm_run PT n fr lo 149 (6, [some (.ref 0), some (.ref 142), some (.int x2), some (.int (nI i))], [.ref 0, .int (nI i)], h, 198, sl) = some R := hh
  obtain ⟨n, hh⟩ := rn_gr hw.wt rfl rfl (by decide) rfl (by decide) (show _ = some (2, ((5 : Nat) : Int), 1) from rfl) rfl hh
  have hh : pm_run PT n fr lo 149 (9, [some (.ref 0), some (.ref 142), some (.int x2), some (.int (nI i))], [.ref 5, .int (nI i)], h, 198, sl) = some R := hh
  obtain ⟨n, hh⟩ := rn_gi (x := nI gc) hw.wt rfl rfl (by decide) rfl (by decide) rfl hw.x1 hh
  have hh : pm_run PT n fr lo 149 (12, [some (.ref 0), some (.ref 142), some (.int x2), some (.int (nI i))], [.int (nI gc), .int (nI i)], h, 198, sl) = some R := hh
  obtain ⟨n, hh⟩ := en_cn (cc := .ge) (off := 34) (t := 46) (b := decide (gc ≤ i)) (hI_ge (by omega) (by omega)) rfl rfl hh
  have hh := en_t (show decide (gc ≤ i) = true from decide_eq_true (by omega)) hh
  have hh : pm_run PT n fr lo 149 (46, [some (.ref 0), some (.ref 142), some (.int x2), some (.int (nI i))], [], h, 198, sl) = some R := hh
  exact ⟨n, hh⟩
theorem v149a_4_s {n fr lo sl cc gc : Nat} {q : QT} {h : pm_H} {R : pm_Rs} {z : Nat} {i : Nat} {x2 : Int32} (hw : HC q cc gc h) (hz : z ≤ 40) (e1 : Fi h 142 1 = nI z) (hol : NA h 17 0 8 6) (hi : i < gc) (hI : i < 1000000) (hh : pm_run PT n fr lo 149 (4, [some (.ref 0), some (.ref 142), some (.int x2), some (.int (nI i))], [], h, 198, sl) = some R) : ∃ m, HC q cc gc ((v149a_4b q cc gc h z i x2).2) ∧ frm [12, 142, 144] [(142, 3)] h ((v149a_4b q cc gc h z i x2).2) ∧ Fi ((v149a_4b q cc gc h z i x2).2) 142 1 = nI z ∧ NA ((v149a_4b q cc gc h z i x2).2) 17 0 8 6 ∧ pm_run PT m fr lo 149 (4, [some (.ref 0), some (.ref 142), some (.int ((v149a_4b q cc gc h z i x2).1)), some (.int (nI (i + 1)))], [], (v149a_4b q cc gc h z i x2).2, 198, sl) = some R := by
  have hcc := hw.cb
  have hgc := hw.gb
  have hzr := hw.zr
  obtain ⟨n, hh⟩ := rn_i rfl rfl rfl rfl hh
  obtain ⟨n, hh⟩ := rn_i rfl rfl rfl rfl hh
  have hh : pm_run PT n fr lo 149 (6, [some (.ref 0), some (.ref 142), some (.int x2), some (.int (nI i))], [.ref 0, .int (nI i)], h, 198, sl) = some R := hh
  obtain ⟨n, hh⟩ := rn_gr hw.wt rfl rfl (by decide) rfl (by decide) (show _ = some (2, ((5 : Nat) : Int), 1) from rfl) rfl hh
  have hh : pm_run PT n fr lo 149 (9, [some (.ref 0), some (.ref 142), some (.int x2), some (.int (nI i))], [.ref 5, .int (nI i)], h, 198, sl) = some R := hh
  obtain ⟨n, hh⟩ := rn_gi (x := nI gc) hw.wt rfl rfl (by decide) rfl (by decide) rfl hw.x1 hh
  have hh : pm_run PT n fr lo 149 (12, [some (.ref 0), some (.ref 142), some (.int x2), some (.int (nI i))], [.int (nI gc), .int (nI i)], h, 198, sl) = some R := hh
  obtain ⟨n, hh⟩ := en_cn (cc := .ge) (off := 34) (t := 46) (b := decide (gc ≤ i)) (hI_ge (by omega) (by omega)) rfl rfl hh
  have hh := en_f (show decide (gc ≤ i) = false from decide_eq_false (by omega)) hh
  have hh : pm_run PT n fr lo 149 (15, [some (.ref 0), some (.ref 142), some (.int x2), some (.int (nI i))], [], h, 198, sl) = some R := hh
  obtain ⟨n, hh⟩ := rn_i rfl rfl rfl rfl hh
  obtain ⟨n, hh⟩ := rn_i rfl rfl rfl rfl hh
  have hh : pm_run PT n fr lo 149 (17, [some (.ref 0), some (.ref 142), some (.int x2), some (.int (nI i))], [.ref 0, .int x2], h, 198, sl) = some R := hh
  obtain ⟨n, hh⟩ := rn_gr hw.wt rfl rfl (by decide) rfl (by decide) (show _ = some (2, ((5 : Nat) : Int), 1) from rfl) rfl hh
  obtain ⟨n, hh⟩ := rn_i rfl rfl rfl rfl hh
  obtain ⟨n, hh⟩ := rn_i rfl rfl rfl rfl hh
  have hh : pm_run PT n fr lo 149 (22, [some (.ref 0), some (.ref 142), some (.int x2), some (.int (nI i))], [.ref 0, .ref 142, .ref 5, .int x2], h, 198, sl) = some R := hh
  obtain ⟨n, hh⟩ := rn_gr hw.wt rfl rfl (by decide) rfl (by decide) (show _ = some (2, ((13 : Nat) : Int), 1) from rfl) rfl hh
  obtain ⟨n, hh⟩ := rn_i rfl rfl rfl rfl hh
  obtain ⟨n, hh⟩ := rn_i rfl rfl rfl rfl hh
  have hh : pm_run PT n fr lo 149 (27, [some (.ref 0), some (.ref 142), some (.int x2), some (.int (nI i))], [.ref 0, .int (nI i), .ref 13, .ref 142, .ref 5, .int x2], h, 198, sl) = some R := hh
  obtain ⟨n, hh⟩ := rn_gr hw.wt rfl rfl (by decide) rfl (by decide) (show _ = some (2, ((13 : Nat) : Int), 1) from rfl) rfl hh
  have hh : pm_run PT n fr lo 149 (30, [some (.ref 0), some (.ref 142), some (.int x2), some (.int (nI i))], [.ref 13, .int (nI i), .ref 13, .ref 142, .ref 5, .int x2], h, 198, sl) = some R := hh
  obtain ⟨n, hh⟩ := rn_gr hw.wt rfl rfl (by decide) rfl (by decide) (show _ = some (2, ((17 : Nat) : Int), 1) from rfl) rfl hh
  obtain ⟨n, hh⟩ := rn_i rfl rfl rfl rfl hh
  have hh : pm_run PT n fr lo 149 (34, [some (.ref 0), some (.ref 142), some (.int x2), some (.int (nI i))], [.int (nI i), .ref 17, .int (nI i), .ref 13, .ref 142, .ref 5, .int x2], h, 198, sl) = some R := hh
  obtain ⟨n, hx1, hh⟩ := en_lu (t := i) (f := Ar h 17) (w := nI (((Ar h 17) i).toNatClampNeg)) (nI_clamp (by omega)) hw.wt rfl (by decide) rfl (by decide) rfl (fun z => (hol _ (by omega) (by omega)).1) hh
  have hb2 := (hol i (by omega) (by omega)).2
  have hh : pm_run PT n fr lo 149 (35, [some (.ref 0), some (.ref 142), some (.int x2), some (.int (nI i))], [.int (nI (((Ar h 17) i).toNatClampNeg)), .int (nI i), .ref 13, .ref 142, .ref 5, .int x2], h, 198, sl) = some R := hh
  obtain ⟨n, fr1, lo1, r1, hh1, hh⟩ := rn_call (w := 0) (t := 39) rfl rfl hh
  obtain ⟨er3, hc4, hf5⟩ := v39a_ok (z := z) (g := i) (c := (((Ar h 17) i).toNatClampNeg)) hw (by omega) (by omega) hz e1 hh1
  subst er3
  obtain ⟨n, hh⟩ := rn_i rfl rfl rfl rfl hh
  obtain ⟨n, hh⟩ := rn_i rfl rfl rfl rfl hh
  have hh : pm_run PT n fr lo 149 (40, [some (.ref 0), some (.ref 142), some (.int (x2 + ((v39a q cc gc h z i (((Ar h 17) i).toNatClampNeg)).1))), some (.int (nI i))], [], (v39a q cc gc h z i (((Ar h 17) i).toNatClampNeg)).2, 198, sl) = some R := hh
  obtain ⟨n, hh⟩ := en_inc (x := i) (c := 1) (j := 3) rfl rfl (by decide) hh
  have hh : pm_run PT n fr lo 149 (43, [some (.ref 0), some (.ref 142), some (.int (x2 + ((v39a q cc gc h z i (((Ar h 17) i).toNatClampNeg)).1))), some (.int (nI (i + 1)))], [], (v39a q cc gc h z i (((Ar h 17) i).toNatClampNeg)).2, 198, sl) = some R := hh
  obtain ⟨n, hh⟩ := rn_i rfl rfl rfl rfl hh
  have ed : v149a_4b q cc gc h z i x2 = (x2 + ((v39a q cc gc h z i (((Ar h 17) i).toNatClampNeg)).1), (v39a q cc gc h z i (((Ar h 17) i).toNatClampNeg)).2) := rfl
  rw [ed]
  exact ⟨n, hc4, (fr_g rfl rfl hf5 fr_0), ((hf5.2 142 1 (by decide +kernel) rfl).trans e1), (NA_e ((Ar_e (hf5.1 17 rfl)).trans rfl) hol), hh⟩
theorem v149a_4_ok {fr lo sl cc gc : Nat} {q : QT} {R : pm_Rs} {z : Nat} : ∀ {j i : Nat} {x2 : Int32} {h : pm_H} {n : Nat}, gc - i = j → i + j < 1000000 → HC q cc gc h → z ≤ 40 → Fi h 142 1 = nI z → NA h 17 0 8 6 → pm_run PT n fr lo 149 (4, [some (.ref 0), some (.ref 142), some (.int x2), some (.int (nI i))], [], h, 198, sl) = some R → ∃ m wc, HC q cc gc ((v149a_4 q cc gc z j i (x2, h)).2) ∧ frm [12, 142, 144] [(142, 3)] h ((v149a_4 q cc gc z j i (x2, h)).2) ∧ Fi ((v149a_4 q cc gc z j i (x2, h)).2) 142 1 = nI z ∧ NA ((v149a_4 q cc gc z j i (x2, h)).2) 17 0 8 6 ∧ pm_run PT m fr lo 149 (46, [some (.ref 0), some (.ref 142), some (.int ((v149a_4 q cc gc z j i (x2, h)).1)), wc], [], (v149a_4 q cc gc z j i (x2, h)).2, 198, sl) = some R := by
  intro j
  induction j with
  | zero =>
    intro i x2 h n e eI hw hz e1 hol hh
    obtain ⟨n, hh⟩ := v149a_4_e hw hz e1 hol (by omega) (by omega) hh
    exact ⟨n, _, hw, fr_0, e1, hol, hh⟩
  | succ j ih =>
    intro i x2 h n e eI hw hz e1 hol hh
    obtain ⟨n, hc, hf, e1', hol', hh⟩ := v149a_4_s hw hz e1 hol (by omega) (by omega) hh
    obtain ⟨n, wc, hc2, hf2, e1'', hol'', hh⟩ := ih (by omega) (by omega) hc hz e1' hol' hh
    exact ⟨n, wc, hc2, fr_t hf2 hf, e1'', hol'', hh⟩
def v149a (q : QT) (cc gc : Nat) (h : pm_H) (z : Nat) : Int32 × pm_H := ((v149a_4 q cc gc z gc 0 ((nI 0), h)).1, (v149a_4 q cc gc z gc 0 ((nI 0), h)).2)
theorem v149a_ok {n fr lo sl cc gc : Nat} {q : QT} {h : pm_H} {R : pm_Rs} {z : Nat} (hw : HC q cc gc h) (hz : z ≤ 40) (e1 : Fi h 142 1 = nI z) (hol : NA h 17 0 8 6) (hh : pm_run PT n fr lo 149 (0, pm_l0 [.ref 0, .ref 142] 4, [], h, 198, sl) = some R) : R = (some (.int ((v149a q cc gc h z).1)), (v149a q cc gc h z).2, 198, sl) ∧ HC q cc gc ((v149a q cc gc h z).2) ∧ frm [12, 142, 144] [(142, 3)] h ((v149a q cc gc h z).2) := by
  have hcc := hw.cb
  have hgc := hw.gb
  have hzr := hw.zr
  obtain ⟨n, hh⟩ := rn_i rfl rfl rfl rfl hh
  obtain ⟨n, hh⟩ := rn_i rfl rfl rfl rfl hh
  obtain ⟨n, hh⟩ := rn_i rfl rfl rfl rfl hh
  obtain ⟨n, hh⟩ := rn_i rfl rfl rfl rfl hh
  have hh : pm_run PT n fr lo 149 (4, [some (.ref 0), some (.ref 142), some (.int (nI 0)), some (.int (nI 0))], [], h, 198, sl) = some R := hh
  obtain ⟨n, u1, hc3, hf4, _, hn2, hh⟩ := v149a_4_ok  (i := 0) (x2 := (nI 0)) (j := gc) (by omega) (by omega) hw hz e1 hol hh
  have hh : pm_run PT n fr lo 149 (46, [some (.ref 0), some (.ref 142), some (.int ((v149a_4 q cc gc z gc 0 ((nI 0), h)).1)), u1], [], (v149a_4 q cc gc z gc 0 ((nI 0), h)).2, 198, sl) = some R := hh
  obtain ⟨n, hh⟩ := rn_i rfl rfl rfl rfl hh
  have hh : pm_run PT n fr lo 149 (47, [some (.ref 0), some (.ref 142), some (.int ((v149a_4 q cc gc z gc 0 ((nI 0), h)).1)), u1], [.int ((v149a_4 q cc gc z gc 0 ((nI 0), h)).1)], (v149a_4 q cc gc z gc 0 ((nI 0), h)).2, 198, sl) = some R := hh
  have er5 : R = (some (.int ((v149a_4 q cc gc z gc 0 ((nI 0), h)).1)), (v149a_4 q cc gc z gc 0 ((nI 0), h)).2, 198, sl) := (rn_ret rfl (Or.inl rfl) hh).2
  have ed : v149a q cc gc h z = ((v149a_4 q cc gc z gc 0 ((nI 0), h)).1, (v149a_4 q cc gc z gc 0 ((nI 0), h)).2) := rfl
  refine ⟨?_, ?_, ?_⟩ <;> rw [ed]
  · exact er5
  · exact hc3
  · exact (fr_g rfl rfl hf4 fr_0)
def v122a (q : QT) (cc gc : Nat) (h : pm_H) (z : Nat) (r : Int32) : Int32 × pm_H := cond (pm_cmp .lt r 0) (((v149a q cc gc (fset h 1 1 (.int (nI 0))) z).1) - ((v149 q cc gc ((v149a q cc gc (fset h 1 1 (.int (nI 0))) z).2)).1), v56 q cc gc ((v149 q cc gc ((v149a q cc gc (fset h 1 1 (.int (nI 0))) z).2)).2) (((v149a q cc gc (fset h 1 1 (.int (nI 0))) z).1).toInt64) (((v149 q cc gc ((v149a q cc gc (fset h 1 1 (.int (nI 0))) z).2)).1).toInt64)) ((Int32.ofInt (-10000)) - r, fset h 1 1 (.int (nI 0)))
theorem v122a_ok {n fr lo sl cc gc : Nat} {q : QT} {h : pm_H} {R : pm_Rs} {z : Nat} {r : Int32} (hw : HC q cc gc h) (hz : z ≤ 40) (ho : OTp 142 h) (e1 : Fi h 142 1 = nI z) (hol : NA h 17 0 8 6) (hh : pm_run PT n fr lo 122 (8, [some (.ref 0), some (.int r), none, none], [], h, 198, sl) = some R) : R = (some (.int ((v122a q cc gc h z r).1)), (v122a q cc gc h z r).2, 198, sl) ∧ HC q cc gc ((v122a q cc gc h z r).2) ∧ frm [1, 3, 4, 12, 142, 144, 145, 147] [(1, 1), (3, 1), (142, 3), (145, 3)] h ((v122a q cc gc h z r).2) := by
  have hcc := hw.cb
  have hgc := hw.gb
  have hzr := hw.zr
  obtain ⟨n, hh⟩ := rn_i rfl rfl rfl rfl hh
  have hh : pm_run PT n fr lo 122 (9, [some (.ref 0), some (.int r), none, none], [.ref 0], h, 198, sl) = some R := hh
  obtain ⟨n, hh⟩ := rn_gr hw.wt rfl rfl (by decide) rfl (by decide) (show _ = some (2, ((1 : Nat) : Int), 1) from rfl) rfl hh
  obtain ⟨n, hh⟩ := rn_i rfl rfl rfl rfl hh
  have hh : pm_run PT n fr lo 122 (13, [some (.ref 0), some (.int r), none, none], [.int (nI 0), .ref 1], h, 198, sl) = some R := hh
  obtain ⟨n, hh⟩ := rn_pi hw.wt rfl rfl (by decide) rfl (by decide) rfl hh
  obtain ⟨n, hh⟩ := rn_i rfl rfl rfl rfl hh
  have hh : pm_run PT n fr lo 122 (17, [some (.ref 0), some (.int r), none, none], [.int r], fset h 1 1 (.int (nI 0)), 198, sl) = some R := hh
  obtain ⟨n, hh⟩ := en_zn (cc := .lt) (off := 9) (t := 26) (b := pm_cmp .lt r 0) rfl rfl rfl hh
  cases z1 : pm_cmp .lt r 0 with
  | true =>
    have hh := en_t z1 hh
    have hh : pm_run PT n fr lo 122 (26, [some (.ref 0), some (.int r), none, none], [], fset h 1 1 (.int (nI 0)), 198, sl) = some R := hh
    obtain ⟨n, hh⟩ := rn_i rfl rfl rfl rfl hh
    obtain ⟨n, hh⟩ := rn_i rfl rfl rfl rfl hh
    have hh : pm_run PT n fr lo 122 (28, [some (.ref 0), some (.int r), none, none], [.ref 0, .ref 0], fset h 1 1 (.int (nI 0)), 198, sl) = some R := hh
    obtain ⟨n, hh⟩ := rn_g9 (p := 142) ho (show (fset h 1 1 (.int (nI 0))) 0 = h 0 from (show frm [1] [(1, 1)] h (fset h 1 1 (.int (nI 0))) from (fr_f rfl rfl fr_0)).1 0 rfl) rfl rfl hh
    have hh : pm_run PT n fr lo 122 (31, [some (.ref 0), some (.int r), none, none], [.ref 142, .ref 0], fset h 1 1 (.int (nI 0)), 198, sl) = some R := hh
    obtain ⟨n, fr1, lo1, r1, hh1, hh⟩ := rn_call (w := 0) (t := 149) rfl rfl hh
    obtain ⟨er2, hc3, hf4⟩ := v149a_ok (z := z) (hc_f rfl rfl (by decide) rfl hw) hz ((Fi_n (Or.inl (by decide))).trans e1) (NA_e (Ar_f.trans rfl) hol) hh1
    subst er2
    obtain ⟨n, hh⟩ := rn_i rfl rfl rfl rfl hh
    obtain ⟨n, hh⟩ := rn_i rfl rfl rfl rfl hh
    obtain ⟨n, hh⟩ := rn_i rfl rfl rfl rfl hh
    have hh : pm_run PT n fr lo 122 (37, [some (.ref 0), some (.int r), some (.int ((v149a q cc gc (fset h 1 1 (.int (nI 0))) z).1)), none], [.ref 0, .ref 0], (v149a q cc gc (fset h 1 1 (.int (nI 0))) z).2, 198, sl) = some R := hh
    obtain ⟨n, hh⟩ := en_q hc3 rfl rfl hh
    have hh : pm_run PT n fr lo 122 (40, [some (.ref 0), some (.int r), some (.int ((v149a q cc gc (fset h 1 1 (.int (nI 0))) z).1)), none], [.ref q.1, .ref 0], (v149a q cc gc (fset h 1 1 (.int (nI 0))) z).2, 198, sl) = some R := hh
    obtain ⟨n, fr1, lo1, r1, hh1, hh⟩ := rn_call (w := 0) (t := 149) rfl rfl hh
    obtain ⟨er5, hc6, hf7⟩ := v149_ok hc3 (NA_e ((Ar_e (hf4.1 17 rfl)).trans (Ar_f.trans rfl)) hol) hh1
    subst er5
    obtain ⟨n, hh⟩ := rn_i rfl rfl rfl rfl hh
    obtain ⟨n, hh⟩ := rn_i rfl rfl rfl rfl hh
    have hh : pm_run PT n fr lo 122 (45, [some (.ref 0), some (.int r), some (.int ((v149a q cc gc (fset h 1 1 (.int (nI 0))) z).1)), some (.int ((v149 q cc gc ((v149a q cc gc (fset h 1 1 (.int (nI 0))) z).2)).1))], [.ref 0], (v149 q cc gc ((v149a q cc gc (fset h 1 1 (.int (nI 0))) z).2)).2, 198, sl) = some R := hh
    obtain ⟨n, hh⟩ := rn_gr hc6.wt rfl rfl (by decide) rfl (by decide) (show _ = some (2, ((3 : Nat) : Int), 1) from rfl) rfl hh
    obtain ⟨n, hh⟩ := rn_i rfl rfl rfl rfl hh
    obtain ⟨n, hh⟩ := rn_i rfl rfl rfl rfl hh
    obtain ⟨n, hh⟩ := rn_i rfl rfl rfl rfl hh
    obtain ⟨n, hh⟩ := rn_i rfl rfl rfl rfl hh
    have hh : pm_run PT n fr lo 122 (52, [some (.ref 0), some (.int r), some (.int ((v149a q cc gc (fset h 1 1 (.int (nI 0))) z).1)), some (.int ((v149 q cc gc ((v149a q cc gc (fset h 1 1 (.int (nI 0))) z).2)).1))], [.long (((v149 q cc gc ((v149a q cc gc (fset h 1 1 (.int (nI 0))) z).2)).1).toInt64), .long (((v149a q cc gc (fset h 1 1 (.int (nI 0))) z).1).toInt64), .ref 3], (v149 q cc gc ((v149a q cc gc (fset h 1 1 (.int (nI 0))) z).2)).2, 198, sl) = some R := hh
    obtain ⟨n, fr1, lo1, r1, hh1, hh⟩ := rn_call (w := 0) (t := 56) rfl rfl hh
    obtain ⟨er8, hc9, hf10⟩ := v56_ok (v := (((v149a q cc gc (fset h 1 1 (.int (nI 0))) z).1).toInt64)) (w := (((v149 q cc gc ((v149a q cc gc (fset h 1 1 (.int (nI 0))) z).2)).1).toInt64)) hc6 hh1
    subst er8
    obtain ⟨n, hh⟩ := rn_i rfl rfl rfl rfl hh
    obtain ⟨n, hh⟩ := rn_i rfl rfl rfl rfl hh
    obtain ⟨n, hh⟩ := rn_i rfl rfl rfl rfl hh
    have hh : pm_run PT n fr lo 122 (58, [some (.ref 0), some (.int r), some (.int ((v149a q cc gc (fset h 1 1 (.int (nI 0))) z).1)), some (.int ((v149 q cc gc ((v149a q cc gc (fset h 1 1 (.int (nI 0))) z).2)).1))], [.int (((v149a q cc gc (fset h 1 1 (.int (nI 0))) z).1) - ((v149 q cc gc ((v149a q cc gc (fset h 1 1 (.int (nI 0))) z).2)).1))], v56 q cc gc ((v149 q cc gc ((v149a q cc gc (fset h 1 1 (.int (nI 0))) z).2)).2) (((v149a q cc gc (fset h 1 1 (.int (nI 0))) z).1).toInt64) (((v149 q cc gc ((v149a q cc gc (fset h 1 1 (.int (nI 0))) z).2)).1).toInt64), 198, sl) = some R := hh
    have er11 : R = (some (.int (((v149a q cc gc (fset h 1 1 (.int (nI 0))) z).1) - ((v149 q cc gc ((v149a q cc gc (fset h 1 1 (.int (nI 0))) z).2)).1))), v56 q cc gc ((v149 q cc gc ((v149a q cc gc (fset h 1 1 (.int (nI 0))) z).2)).2) (((v149a q cc gc (fset h 1 1 (.int (nI 0))) z).1).toInt64) (((v149 q cc gc ((v149a q cc gc (fset h 1 1 (.int (nI 0))) z).2)).1).toInt64), 198, sl) := (rn_ret rfl (Or.inl rfl) hh).2
    have ed : v122a q cc gc h z r = (((v149a q cc gc (fset h 1 1 (.int (nI 0))) z).1) - ((v149 q cc gc ((v149a q cc gc (fset h 1 1 (.int (nI 0))) z).2)).1), v56 q cc gc ((v149 q cc gc ((v149a q cc gc (fset h 1 1 (.int (nI 0))) z).2)).2) (((v149a q cc gc (fset h 1 1 (.int (nI 0))) z).1).toInt64) (((v149 q cc gc ((v149a q cc gc (fset h 1 1 (.int (nI 0))) z).2)).1).toInt64)) := (ct z1).trans rfl
    refine ⟨?_, ?_, ?_⟩ <;> rw [ed]
    · exact er11
    · exact hc9
    · exact (fr_g rfl rfl hf10 (fr_g rfl rfl hf7 (fr_g rfl rfl hf4 (fr_f rfl rfl fr_0))))
  | false =>
    have hh := en_f z1 hh
    have hh : pm_run PT n fr lo 122 (20, [some (.ref 0), some (.int r), none, none], [], fset h 1 1 (.int (nI 0)), 198, sl) = some R := hh
    obtain ⟨n, hh⟩ := rn_i rfl rfl rfl rfl hh
    obtain ⟨n, hh⟩ := rn_i rfl rfl rfl rfl hh
    obtain ⟨n, hh⟩ := rn_i rfl rfl rfl rfl hh
    have hh : pm_run PT n fr lo 122 (25, [some (.ref 0), some (.int r), none, none], [.int ((Int32.ofInt (-10000)) - r)], fset h 1 1 (.int (nI 0)), 198, sl) = some R := hh
    have er12 : R = (some (.int ((Int32.ofInt (-10000)) - r)), fset h 1 1 (.int (nI 0)), 198, sl) := (rn_ret rfl (Or.inl rfl) hh).2
    have ed : v122a q cc gc h z r = ((Int32.ofInt (-10000)) - r, fset h 1 1 (.int (nI 0))) := (cf z1).trans rfl
    refine ⟨?_, ?_, ?_⟩ <;> rw [ed]
    · exact er12
    · exact (hc_f rfl rfl (by decide) rfl hw)
    · exact (fr_f rfl rfl fr_0)
def v39b (q : QT) (cc gc : Nat) (h : pm_H) (z : Nat) (g : Nat) (c : Nat) : Int32 × pm_H := (imax (nI 0) (imin (nI 999) ((v68b q cc gc (aset h 12 7 (upd (upd (upd (upd (upd (upd (upd (Ar h 12) 0 ((Ar h 10) g)) 1 (v28t q cc gc (Ar h 7) c ((Ar h 9) g))) 2 ((Ar h 6) c)) 3 ((Ar h 6) (((Ar h 17) g).toNatClampNeg))) 4 (v270 q cc gc ((Ar h 18) g))) 5 ((Ar h 11) g)) 6 (cond (cond (v74 q cc gc (Fi h 13 5) g) true false) 1 0))) z).1)), (v68b q cc gc (aset h 12 7 (upd (upd (upd (upd (upd (upd (upd (Ar h 12) 0 ((Ar h 10) g)) 1 (v28t q cc gc (Ar h 7) c ((Ar h 9) g))) 2 ((Ar h 6) c)) 3 ((Ar h 6) (((Ar h 17) g).toNatClampNeg))) 4 (v270 q cc gc ((Ar h 18) g))) 5 ((Ar h 11) g)) 6 (cond (cond (v74 q cc gc (Fi h 13 5) g) true false) 1 0))) z).2)
theorem v39b_ok {n fr lo sl cc gc : Nat} {q : QT} {h : pm_H} {R : pm_Rs} {z : Nat} {g : Nat} {c : Nat} (hw : HC q cc gc h) (h_g : g < 10000) (h_c : c < 10000) (hz : z ≤ 40) (e1 : Fi h 145 1 = nI z) (hh : pm_run PT n fr lo 39 (0, pm_l0 [.ref 5, .ref 145, .ref 13, .int (nI g), .int (nI c)] 5, [], h, 198, sl) = some R) : R = (some (.int ((v39b q cc gc h z g c).1)), (v39b q cc gc h z g c).2, 198, sl) ∧ HC q cc gc ((v39b q cc gc h z g c).2) ∧ frm [12, 145, 147] [(145, 3)] h ((v39b q cc gc h z g c).2) := by
  have hcc := hw.cb
  have hgc := hw.gb
  have hzr := hw.zr
  obtain ⟨n, hh⟩ := rn_i rfl rfl rfl rfl hh
  have hh : pm_run PT n fr lo 39 (1, [some (.ref 5), some (.ref 145), some (.ref 13), some (.int (nI g)), some (.int (nI c))], [.ref 5], h, 198, sl) = some R := hh
  obtain ⟨n, hh⟩ := rn_gr hw.wt rfl rfl (by decide) rfl (by decide) (show _ = some (2, ((12 : Nat) : Int), 1) from rfl) rfl hh
  obtain ⟨n, hh⟩ := rn_i rfl rfl rfl rfl hh
  obtain ⟨n, hh⟩ := rn_i rfl rfl rfl rfl hh
  have hh : pm_run PT n fr lo 39 (6, [some (.ref 5), some (.ref 145), some (.ref 13), some (.int (nI g)), some (.int (nI c))], [.ref 5, .int (nI 0), .ref 12], h, 198, sl) = some R := hh
  obtain ⟨n, hh⟩ := rn_gr hw.wt rfl rfl (by decide) rfl (by decide) (show _ = some (2, ((10 : Nat) : Int), 1) from rfl) rfl hh
  obtain ⟨n, hh⟩ := rn_i rfl rfl rfl rfl hh
  have hh : pm_run PT n fr lo 39 (10, [some (.ref 5), some (.ref 145), some (.ref 13), some (.int (nI g)), some (.int (nI c))], [.int (nI g), .ref 10, .int (nI 0), .ref 12], h, 198, sl) = some R := hh
  obtain ⟨n, hx1, hh⟩ := en_lu (t := g) (f := Ar h 10) (w := (Ar h 10) g) (nI_clamp (by omega)) hw.wt rfl (by decide) rfl (by decide) rfl (fun _ => rfl) hh
  have hh : pm_run PT n fr lo 39 (11, [some (.ref 5), some (.ref 145), some (.ref 13), some (.int (nI g)), some (.int (nI c))], [.int ((Ar h 10) g), .int (nI 0), .ref 12], h, 198, sl) = some R := hh
  obtain ⟨n, hx2, hh⟩ := en_st (t := 0) (f := Ar h 12) (nI_clamp (by omega)) hw.wt rfl (by decide) rfl (by decide) rfl hh
  obtain ⟨n, hh⟩ := rn_i rfl rfl rfl rfl hh
  have hh : pm_run PT n fr lo 39 (13, [some (.ref 5), some (.ref 145), some (.ref 13), some (.int (nI g)), some (.int (nI c))], [.ref 5], aset h 12 7 (upd (Ar h 12) 0 ((Ar h 10) g)), 198, sl) = some R := hh
  obtain ⟨n, hh⟩ := rn_gr (hc_a rfl rfl hw).wt rfl rfl (by decide) rfl (by decide) (show _ = some (2, ((12 : Nat) : Int), 1) from rfl) rfl hh
  obtain ⟨n, hh⟩ := rn_i rfl rfl rfl rfl hh
  obtain ⟨n, hh⟩ := rn_i rfl rfl rfl rfl hh
  obtain ⟨n, hh⟩ := rn_i rfl rfl rfl rfl hh
  obtain ⟨n, hh⟩ := rn_i rfl rfl rfl rfl hh
  have hh : pm_run PT n fr lo 39 (21, [some (.ref 5), some (.ref 145), some (.ref 13), some (.int (nI g)), some (.int (nI c))], [.ref 5, .int (nI c), .ref 5, .int (nI 1), .ref 12], aset h 12 7 (upd (Ar h 12) 0 ((Ar h 10) g)), 198, sl) = some R := hh
  obtain ⟨n, hh⟩ := rn_gr (hc_a rfl rfl hw).wt rfl rfl (by decide) rfl (by decide) (show _ = some (2, ((9 : Nat) : Int), 1) from rfl) rfl hh
  obtain ⟨n, hh⟩ := rn_i rfl rfl rfl rfl hh
  have hh : pm_run PT n fr lo 39 (25, [some (.ref 5), some (.ref 145), some (.ref 13), some (.int (nI g)), some (.int (nI c))], [.int (nI g), .ref 9, .int (nI c), .ref 5, .int (nI 1), .ref 12], aset h 12 7 (upd (Ar h 12) 0 ((Ar h 10) g)), 198, sl) = some R := hh
  obtain ⟨n, hx3, hh⟩ := en_lu (t := g) (f := Ar h 9) (w := (Ar h 9) g) (nI_clamp (by omega)) (hc_a rfl rfl hw).wt rfl (by decide) rfl (by decide) ((Ar_n (by decide)).trans rfl) (fun _ => rfl) hh
  have hh : pm_run PT n fr lo 39 (26, [some (.ref 5), some (.ref 145), some (.ref 13), some (.int (nI g)), some (.int (nI c))], [.int ((Ar h 9) g), .int (nI c), .ref 5, .int (nI 1), .ref 12], aset h 12 7 (upd (Ar h 12) 0 ((Ar h 10) g)), 198, sl) = some R := hh
  obtain ⟨n, fr1, lo1, r1, hh1, hh⟩ := rn_call (w := 0) (t := 28) rfl rfl hh
  have er4 := v28t_ok (c := c) (d := ((Ar h 9) g)) (hc_a rfl rfl hw) (by omega) hh1
  rw [show Ar (aset h 12 7 (upd (Ar h 12) 0 ((Ar h 10) g))) 7 = Ar h 7 from ((Ar_n (by decide)).trans rfl)] at er4
  subst er4
  have hh : pm_run PT n fr lo 39 (29, [some (.ref 5), some (.ref 145), some (.ref 13), some (.int (nI g)), some (.int (nI c))], [.int (v28t q cc gc (Ar h 7) c ((Ar h 9) g)), .int (nI 1), .ref 12], aset h 12 7 (upd (Ar h 12) 0 ((Ar h 10) g)), 198, sl) = some R := hh
  obtain ⟨n, hx5, hh⟩ := en_st (t := 1) (f := upd (Ar h 12) 0 ((Ar h 10) g)) (nI_clamp (by omega)) (hc_a rfl rfl hw).wt rfl (by decide) rfl (by decide) Ar_s hh
  have hh : pm_run PT n fr lo 39 (30, [some (.ref 5), some (.ref 145), some (.ref 13), some (.int (nI g)), some (.int (nI c))], [], aset (aset h 12 7 (upd (Ar h 12) 0 ((Ar h 10) g))) 12 7 (upd (upd (Ar h 12) 0 ((Ar h 10) g)) 1 (v28t q cc gc (Ar h 7) c ((Ar h 9) g))), 198, sl) = some R := hh
  rw [aset_aset] at hh
  obtain ⟨n, hh⟩ := rn_i rfl rfl rfl rfl hh
  have hh : pm_run PT n fr lo 39 (31, [some (.ref 5), some (.ref 145), some (.ref 13), some (.int (nI g)), some (.int (nI c))], [.ref 5], aset h 12 7 (upd (upd (Ar h 12) 0 ((Ar h 10) g)) 1 (v28t q cc gc (Ar h 7) c ((Ar h 9) g))), 198, sl) = some R := hh
  obtain ⟨n, hh⟩ := rn_gr (hc_a rfl rfl hw).wt rfl rfl (by decide) rfl (by decide) (show _ = some (2, ((12 : Nat) : Int), 1) from rfl) rfl hh
  obtain ⟨n, hh⟩ := rn_i rfl rfl rfl rfl hh
  obtain ⟨n, hh⟩ := rn_i rfl rfl rfl rfl hh
  have hh : pm_run PT n fr lo 39 (36, [some (.ref 5), some (.ref 145), some (.ref 13), some (.int (nI g)), some (.int (nI c))], [.ref 5, .int (nI 2), .ref 12], aset h 12 7 (upd (upd (Ar h 12) 0 ((Ar h 10) g)) 1 (v28t q cc gc (Ar h 7) c ((Ar h 9) g))), 198, sl) = some R := hh
  obtain ⟨n, hh⟩ := rn_gr (hc_a rfl rfl hw).wt rfl rfl (by decide) rfl (by decide) (show _ = some (2, ((6 : Nat) : Int), 1) from rfl) rfl hh
  obtain ⟨n, hh⟩ := rn_i rfl rfl rfl rfl hh
  have hh : pm_run PT n fr lo 39 (41, [some (.ref 5), some (.ref 145), some (.ref 13), some (.int (nI g)), some (.int (nI c))], [.int (nI c), .ref 6, .int (nI 2), .ref 12], aset h 12 7 (upd (upd (Ar h 12) 0 ((Ar h 10) g)) 1 (v28t q cc gc (Ar h 7) c ((Ar h 9) g))), 198, sl) = some R := hh
  obtain ⟨n, hx6, hh⟩ := en_lu (t := c) (f := Ar h 6) (w := (Ar h 6) c) (nI_clamp (by omega)) (hc_a rfl rfl hw).wt rfl (by decide) rfl (by decide) ((Ar_n (by decide)).trans rfl) (fun _ => rfl) hh
  have hh : pm_run PT n fr lo 39 (42, [some (.ref 5), some (.ref 145), some (.ref 13), some (.int (nI g)), some (.int (nI c))], [.int ((Ar h 6) c), .int (nI 2), .ref 12], aset h 12 7 (upd (upd (Ar h 12) 0 ((Ar h 10) g)) 1 (v28t q cc gc (Ar h 7) c ((Ar h 9) g))), 198, sl) = some R := hh
  obtain ⟨n, hx7, hh⟩ := en_st (t := 2) (f := upd (upd (Ar h 12) 0 ((Ar h 10) g)) 1 (v28t q cc gc (Ar h 7) c ((Ar h 9) g))) (nI_clamp (by omega)) (hc_a rfl rfl hw).wt rfl (by decide) rfl (by decide) Ar_s hh
  have hh : pm_run PT n fr lo 39 (43, [some (.ref 5), some (.ref 145), some (.ref 13), some (.int (nI g)), some (.int (nI c))], [], aset (aset h 12 7 (upd (upd (Ar h 12) 0 ((Ar h 10) g)) 1 (v28t q cc gc (Ar h 7) c ((Ar h 9) g)))) 12 7 (upd (upd (upd (Ar h 12) 0 ((Ar h 10) g)) 1 (v28t q cc gc (Ar h 7) c ((Ar h 9) g))) 2 ((Ar h 6) c)), 198, sl) = some R := hh
  rw [aset_aset] at hh
  obtain ⟨n, hh⟩ := rn_i rfl rfl rfl rfl hh
  have hh : pm_run PT n fr lo 39 (44, [some (.ref 5), some (.ref 145), some (.ref 13), some (.int (nI g)), some (.int (nI c))], [.ref 5], aset h 12 7 (upd (upd (upd (Ar h 12) 0 ((Ar h 10) g)) 1 (v28t q cc gc (Ar h 7) c ((Ar h 9) g))) 2 ((Ar h 6) c)), 198, sl) = some R := hh
  obtain ⟨n, hh⟩ := rn_gr (hc_a rfl rfl hw).wt rfl rfl (by decide) rfl (by decide) (show _ = some (2, ((12 : Nat) : Int), 1) from rfl) rfl hh
  obtain ⟨n, hh⟩ := rn_i rfl rfl rfl rfl hh
  obtain ⟨n, hh⟩ := rn_i rfl rfl rfl rfl hh
  have hh : pm_run PT n fr lo 39 (49, [some (.ref 5), some (.ref 145), some (.ref 13), some (.int (nI g)), some (.int (nI c))], [.ref 5, .int (nI 3), .ref 12], aset h 12 7 (upd (upd (upd (Ar h 12) 0 ((Ar h 10) g)) 1 (v28t q cc gc (Ar h 7) c ((Ar h 9) g))) 2 ((Ar h 6) c)), 198, sl) = some R := hh
  obtain ⟨n, hh⟩ := rn_gr (hc_a rfl rfl hw).wt rfl rfl (by decide) rfl (by decide) (show _ = some (2, ((6 : Nat) : Int), 1) from rfl) rfl hh
  obtain ⟨n, hh⟩ := rn_i rfl rfl rfl rfl hh
  have hh : pm_run PT n fr lo 39 (53, [some (.ref 5), some (.ref 145), some (.ref 13), some (.int (nI g)), some (.int (nI c))], [.ref 13, .ref 6, .int (nI 3), .ref 12], aset h 12 7 (upd (upd (upd (Ar h 12) 0 ((Ar h 10) g)) 1 (v28t q cc gc (Ar h 7) c ((Ar h 9) g))) 2 ((Ar h 6) c)), 198, sl) = some R := hh
  obtain ⟨n, hh⟩ := rn_gr (hc_a rfl rfl hw).wt rfl rfl (by decide) rfl (by decide) (show _ = some (2, ((17 : Nat) : Int), 1) from rfl) rfl hh
  obtain ⟨n, hh⟩ := rn_i rfl rfl rfl rfl hh
  have hh : pm_run PT n fr lo 39 (57, [some (.ref 5), some (.ref 145), some (.ref 13), some (.int (nI g)), some (.int (nI c))], [.int (nI g), .ref 17, .ref 6, .int (nI 3), .ref 12], aset h 12 7 (upd (upd (upd (Ar h 12) 0 ((Ar h 10) g)) 1 (v28t q cc gc (Ar h 7) c ((Ar h 9) g))) 2 ((Ar h 6) c)), 198, sl) = some R := hh
  obtain ⟨n, hx8, hh⟩ := en_lu (t := g) (f := Ar h 17) (w := (Ar h 17) g) (nI_clamp (by omega)) (hc_a rfl rfl hw).wt rfl (by decide) rfl (by decide) ((Ar_n (by decide)).trans rfl) (fun _ => rfl) hh
  have hh : pm_run PT n fr lo 39 (58, [some (.ref 5), some (.ref 145), some (.ref 13), some (.int (nI g)), some (.int (nI c))], [.int ((Ar h 17) g), .ref 6, .int (nI 3), .ref 12], aset h 12 7 (upd (upd (upd (Ar h 12) 0 ((Ar h 10) g)) 1 (v28t q cc gc (Ar h 7) c ((Ar h 9) g))) 2 ((Ar h 6) c)), 198, sl) = some R := hh
  obtain ⟨n, hx9, hh⟩ := en_lu (t := ((Ar h 17) g).toNatClampNeg) (f := Ar h 6) (w := (Ar h 6) (((Ar h 17) g).toNatClampNeg)) rfl (hc_a rfl rfl hw).wt rfl (by decide) rfl (by decide) ((Ar_n (by decide)).trans rfl) (fun _ => rfl) hh
  have hh : pm_run PT n fr lo 39 (59, [some (.ref 5), some (.ref 145), some (.ref 13), some (.int (nI g)), some (.int (nI c))], [.int ((Ar h 6) (((Ar h 17) g).toNatClampNeg)), .int (nI 3), .ref 12], aset h 12 7 (upd (upd (upd (Ar h 12) 0 ((Ar h 10) g)) 1 (v28t q cc gc (Ar h 7) c ((Ar h 9) g))) 2 ((Ar h 6) c)), 198, sl) = some R := hh
  obtain ⟨n, hx10, hh⟩ := en_st (t := 3) (f := upd (upd (upd (Ar h 12) 0 ((Ar h 10) g)) 1 (v28t q cc gc (Ar h 7) c ((Ar h 9) g))) 2 ((Ar h 6) c)) (nI_clamp (by omega)) (hc_a rfl rfl hw).wt rfl (by decide) rfl (by decide) Ar_s hh
  have hh : pm_run PT n fr lo 39 (60, [some (.ref 5), some (.ref 145), some (.ref 13), some (.int (nI g)), some (.int (nI c))], [], aset (aset h 12 7 (upd (upd (upd (Ar h 12) 0 ((Ar h 10) g)) 1 (v28t q cc gc (Ar h 7) c ((Ar h 9) g))) 2 ((Ar h 6) c))) 12 7 (upd (upd (upd (upd (Ar h 12) 0 ((Ar h 10) g)) 1 (v28t q cc gc (Ar h 7) c ((Ar h 9) g))) 2 ((Ar h 6) c)) 3 ((Ar h 6) (((Ar h 17) g).toNatClampNeg))), 198, sl) = some R := hh
  rw [aset_aset] at hh
  obtain ⟨n, hh⟩ := rn_i rfl rfl rfl rfl hh
  have hh : pm_run PT n fr lo 39 (61, [some (.ref 5), some (.ref 145), some (.ref 13), some (.int (nI g)), some (.int (nI c))], [.ref 5], aset h 12 7 (upd (upd (upd (upd (Ar h 12) 0 ((Ar h 10) g)) 1 (v28t q cc gc (Ar h 7) c ((Ar h 9) g))) 2 ((Ar h 6) c)) 3 ((Ar h 6) (((Ar h 17) g).toNatClampNeg))), 198, sl) = some R := hh
  obtain ⟨n, hh⟩ := rn_gr (hc_a rfl rfl hw).wt rfl rfl (by decide) rfl (by decide) (show _ = some (2, ((12 : Nat) : Int), 1) from rfl) rfl hh
  obtain ⟨n, hh⟩ := rn_i rfl rfl rfl rfl hh
  obtain ⟨n, hh⟩ := rn_i rfl rfl rfl rfl hh
  have hh : pm_run PT n fr lo 39 (66, [some (.ref 5), some (.ref 145), some (.ref 13), some (.int (nI g)), some (.int (nI c))], [.ref 13, .int (nI 4), .ref 12], aset h 12 7 (upd (upd (upd (upd (Ar h 12) 0 ((Ar h 10) g)) 1 (v28t q cc gc (Ar h 7) c ((Ar h 9) g))) 2 ((Ar h 6) c)) 3 ((Ar h 6) (((Ar h 17) g).toNatClampNeg))), 198, sl) = some R := hh
  obtain ⟨n, hh⟩ := rn_gr (hc_a rfl rfl hw).wt rfl rfl (by decide) rfl (by decide) (show _ = some (2, ((18 : Nat) : Int), 1) from rfl) rfl hh
  obtain ⟨n, hh⟩ := rn_i rfl rfl rfl rfl hh
  have hh : pm_run PT n fr lo 39 (70, [some (.ref 5), some (.ref 145), some (.ref 13), some (.int (nI g)), some (.int (nI c))], [.int (nI g), .ref 18, .int (nI 4), .ref 12], aset h 12 7 (upd (upd (upd (upd (Ar h 12) 0 ((Ar h 10) g)) 1 (v28t q cc gc (Ar h 7) c ((Ar h 9) g))) 2 ((Ar h 6) c)) 3 ((Ar h 6) (((Ar h 17) g).toNatClampNeg))), 198, sl) = some R := hh
  obtain ⟨n, hx11, hh⟩ := en_lu (t := g) (f := Ar h 18) (w := (Ar h 18) g) (nI_clamp (by omega)) (hc_a rfl rfl hw).wt rfl (by decide) rfl (by decide) ((Ar_n (by decide)).trans rfl) (fun _ => rfl) hh
  have hh : pm_run PT n fr lo 39 (71, [some (.ref 5), some (.ref 145), some (.ref 13), some (.int (nI g)), some (.int (nI c))], [.int ((Ar h 18) g), .int (nI 4), .ref 12], aset h 12 7 (upd (upd (upd (upd (Ar h 12) 0 ((Ar h 10) g)) 1 (v28t q cc gc (Ar h 7) c ((Ar h 9) g))) 2 ((Ar h 6) c)) 3 ((Ar h 6) (((Ar h 17) g).toNatClampNeg))), 198, sl) = some R := hh
  obtain ⟨n, fr1, lo1, r1, hh1, hh⟩ := rn_call (w := 2) (t := 270) rfl rfl hh
  have er12 := v270_ok (a := ((Ar h 18) g)) (hc_a rfl rfl hw) hh1
  subst er12
  have hh : pm_run PT n fr lo 39 (74, [some (.ref 5), some (.ref 145), some (.ref 13), some (.int (nI g)), some (.int (nI c))], [.int (v270 q cc gc ((Ar h 18) g)), .int (nI 4), .ref 12], aset h 12 7 (upd (upd (upd (upd (Ar h 12) 0 ((Ar h 10) g)) 1 (v28t q cc gc (Ar h 7) c ((Ar h 9) g))) 2 ((Ar h 6) c)) 3 ((Ar h 6) (((Ar h 17) g).toNatClampNeg))), 198, sl) = some R := hh
  obtain ⟨n, hx13, hh⟩ := en_st (t := 4) (f := upd (upd (upd (upd (Ar h 12) 0 ((Ar h 10) g)) 1 (v28t q cc gc (Ar h 7) c ((Ar h 9) g))) 2 ((Ar h 6) c)) 3 ((Ar h 6) (((Ar h 17) g).toNatClampNeg))) (nI_clamp (by omega)) (hc_a rfl rfl hw).wt rfl (by decide) rfl (by decide) Ar_s hh
  have hh : pm_run PT n fr lo 39 (75, [some (.ref 5), some (.ref 145), some (.ref 13), some (.int (nI g)), some (.int (nI c))], [], aset (aset h 12 7 (upd (upd (upd (upd (Ar h 12) 0 ((Ar h 10) g)) 1 (v28t q cc gc (Ar h 7) c ((Ar h 9) g))) 2 ((Ar h 6) c)) 3 ((Ar h 6) (((Ar h 17) g).toNatClampNeg)))) 12 7 (upd (upd (upd (upd (upd (Ar h 12) 0 ((Ar h 10) g)) 1 (v28t q cc gc (Ar h 7) c ((Ar h 9) g))) 2 ((Ar h 6) c)) 3 ((Ar h 6) (((Ar h 17) g).toNatClampNeg))) 4 (v270 q cc gc ((Ar h 18) g))), 198, sl) = some R := hh
  rw [aset_aset] at hh
  obtain ⟨n, hh⟩ := rn_i rfl rfl rfl rfl hh
  have hh : pm_run PT n fr lo 39 (76, [some (.ref 5), some (.ref 145), some (.ref 13), some (.int (nI g)), some (.int (nI c))], [.ref 5], aset h 12 7 (upd (upd (upd (upd (upd (Ar h 12) 0 ((Ar h 10) g)) 1 (v28t q cc gc (Ar h 7) c ((Ar h 9) g))) 2 ((Ar h 6) c)) 3 ((Ar h 6) (((Ar h 17) g).toNatClampNeg))) 4 (v270 q cc gc ((Ar h 18) g))), 198, sl) = some R := hh
  obtain ⟨n, hh⟩ := rn_gr (hc_a rfl rfl hw).wt rfl rfl (by decide) rfl (by decide) (show _ = some (2, ((12 : Nat) : Int), 1) from rfl) rfl hh
  obtain ⟨n, hh⟩ := rn_i rfl rfl rfl rfl hh
  obtain ⟨n, hh⟩ := rn_i rfl rfl rfl rfl hh
  have hh : pm_run PT n fr lo 39 (81, [some (.ref 5), some (.ref 145), some (.ref 13), some (.int (nI g)), some (.int (nI c))], [.ref 5, .int (nI 5), .ref 12], aset h 12 7 (upd (upd (upd (upd (upd (Ar h 12) 0 ((Ar h 10) g)) 1 (v28t q cc gc (Ar h 7) c ((Ar h 9) g))) 2 ((Ar h 6) c)) 3 ((Ar h 6) (((Ar h 17) g).toNatClampNeg))) 4 (v270 q cc gc ((Ar h 18) g))), 198, sl) = some R := hh
  obtain ⟨n, hh⟩ := rn_gr (hc_a rfl rfl hw).wt rfl rfl (by decide) rfl (by decide) (show _ = some (2, ((11 : Nat) : Int), 1) from rfl) rfl hh
  obtain ⟨n, hh⟩ := rn_i rfl rfl rfl rfl hh
  have hh : pm_run PT n fr lo 39 (85, [some (.ref 5), some (.ref 145), some (.ref 13), some (.int (nI g)), some (.int (nI c))], [.int (nI g), .ref 11, .int (nI 5), .ref 12], aset h 12 7 (upd (upd (upd (upd (upd (Ar h 12) 0 ((Ar h 10) g)) 1 (v28t q cc gc (Ar h 7) c ((Ar h 9) g))) 2 ((Ar h 6) c)) 3 ((Ar h 6) (((Ar h 17) g).toNatClampNeg))) 4 (v270 q cc gc ((Ar h 18) g))), 198, sl) = some R := hh
  obtain ⟨n, hx14, hh⟩ := en_lu (t := g) (f := Ar h 11) (w := (Ar h 11) g) (nI_clamp (by omega)) (hc_a rfl rfl hw).wt rfl (by decide) rfl (by decide) ((Ar_n (by decide)).trans rfl) (fun _ => rfl) hh
  have hh : pm_run PT n fr lo 39 (86, [some (.ref 5), some (.ref 145), some (.ref 13), some (.int (nI g)), some (.int (nI c))], [.int ((Ar h 11) g), .int (nI 5), .ref 12], aset h 12 7 (upd (upd (upd (upd (upd (Ar h 12) 0 ((Ar h 10) g)) 1 (v28t q cc gc (Ar h 7) c ((Ar h 9) g))) 2 ((Ar h 6) c)) 3 ((Ar h 6) (((Ar h 17) g).toNatClampNeg))) 4 (v270 q cc gc ((Ar h 18) g))), 198, sl) = some R := hh
  obtain ⟨n, hx15, hh⟩ := en_st (t := 5) (f := upd (upd (upd (upd (upd (Ar h 12) 0 ((Ar h 10) g)) 1 (v28t q cc gc (Ar h 7) c ((Ar h 9) g))) 2 ((Ar h 6) c)) 3 ((Ar h 6) (((Ar h 17) g).toNatClampNeg))) 4 (v270 q cc gc ((Ar h 18) g))) (nI_clamp (by omega)) (hc_a rfl rfl hw).wt rfl (by decide) rfl (by decide) Ar_s hh
  have hh : pm_run PT n fr lo 39 (87, [some (.ref 5), some (.ref 145), some (.ref 13), some (.int (nI g)), some (.int (nI c))], [], aset (aset h 12 7 (upd (upd (upd (upd (upd (Ar h 12) 0 ((Ar h 10) g)) 1 (v28t q cc gc (Ar h 7) c ((Ar h 9) g))) 2 ((Ar h 6) c)) 3 ((Ar h 6) (((Ar h 17) g).toNatClampNeg))) 4 (v270 q cc gc ((Ar h 18) g)))) 12 7 (upd (upd (upd (upd (upd (upd (Ar h 12) 0 ((Ar h 10) g)) 1 (v28t q cc gc (Ar h 7) c ((Ar h 9) g))) 2 ((Ar h 6) c)) 3 ((Ar h 6) (((Ar h 17) g).toNatClampNeg))) 4 (v270 q cc gc ((Ar h 18) g))) 5 ((Ar h 11) g)), 198, sl) = some R := hh
  rw [aset_aset] at hh
  obtain ⟨n, hh⟩ := rn_i rfl rfl rfl rfl hh
  have hh : pm_run PT n fr lo 39 (88, [some (.ref 5), some (.ref 145), some (.ref 13), some (.int (nI g)), some (.int (nI c))], [.ref 5], aset h 12 7 (upd (upd (upd (upd (upd (upd (Ar h 12) 0 ((Ar h 10) g)) 1 (v28t q cc gc (Ar h 7) c ((Ar h 9) g))) 2 ((Ar h 6) c)) 3 ((Ar h 6) (((Ar h 17) g).toNatClampNeg))) 4 (v270 q cc gc ((Ar h 18) g))) 5 ((Ar h 11) g)), 198, sl) = some R := hh
  obtain ⟨n, hh⟩ := rn_gr (hc_a rfl rfl hw).wt rfl rfl (by decide) rfl (by decide) (show _ = some (2, ((12 : Nat) : Int), 1) from rfl) rfl hh
  obtain ⟨n, hh⟩ := rn_i rfl rfl rfl rfl hh
  obtain ⟨n, hh⟩ := rn_i rfl rfl rfl rfl hh
  obtain ⟨n, hh⟩ := rn_i rfl rfl rfl rfl hh
  have hh : pm_run PT n fr lo 39 (95, [some (.ref 5), some (.ref 145), some (.ref 13), some (.int (nI g)), some (.int (nI c))], [.int (nI g), .ref 13, .int (nI 6), .ref 12], aset h 12 7 (upd (upd (upd (upd (upd (upd (Ar h 12) 0 ((Ar h 10) g)) 1 (v28t q cc gc (Ar h 7) c ((Ar h 9) g))) 2 ((Ar h 6) c)) 3 ((Ar h 6) (((Ar h 17) g).toNatClampNeg))) 4 (v270 q cc gc ((Ar h 18) g))) 5 ((Ar h 11) g)), 198, sl) = some R := hh
  obtain ⟨n, fr1, lo1, r1, hh1, hh⟩ := rn_call (w := 0) (t := 74) rfl rfl hh
  have er16 := v74_ok (g := g) (hc_a rfl rfl hw) (by omega) hh1
  rw [show Fi (aset h 12 7 (upd (upd (upd (upd (upd (upd (Ar h 12) 0 ((Ar h 10) g)) 1 (v28t q cc gc (Ar h 7) c ((Ar h 9) g))) 2 ((Ar h 6) c)) 3 ((Ar h 6) (((Ar h 17) g).toNatClampNeg))) 4 (v270 q cc gc ((Ar h 18) g))) 5 ((Ar h 11) g))) 13 5 = Fi h 13 5 from ((Fi_a (by decide)).trans rfl)] at er16
  subst er16
  have hh : pm_run PT n fr lo 39 (98, [some (.ref 5), some (.ref 145), some (.ref 13), some (.int (nI g)), some (.int (nI c))], [.int (cond (v74 q cc gc (Fi h 13 5) g) 1 0), .int (nI 6), .ref 12], aset h 12 7 (upd (upd (upd (upd (upd (upd (Ar h 12) 0 ((Ar h 10) g)) 1 (v28t q cc gc (Ar h 7) c ((Ar h 9) g))) 2 ((Ar h 6) c)) 3 ((Ar h 6) (((Ar h 17) g).toNatClampNeg))) 4 (v270 q cc gc ((Ar h 18) g))) 5 ((Ar h 11) g)), 198, sl) = some R := hh
  obtain ⟨n, hh⟩ := en_zn (cc := .eq) (off := 7) (t := 105) (b := !(v74 q cc gc (Fi h 13 5) g)) eb_eq rfl rfl hh
  have hj18 : ∃ mJ, pm_run PT mJ fr lo 39 (cond (v74 q cc gc (Fi h 13 5) g) (106, [some (.ref 5), some (.ref 145), some (.ref 13), some (.int (nI g)), some (.int (nI c))], [.int (nI 1), .int (nI 6), .ref 12], aset h 12 7 (upd (upd (upd (upd (upd (upd (Ar h 12) 0 ((Ar h 10) g)) 1 (v28t q cc gc (Ar h 7) c ((Ar h 9) g))) 2 ((Ar h 6) c)) 3 ((Ar h 6) (((Ar h 17) g).toNatClampNeg))) 4 (v270 q cc gc ((Ar h 18) g))) 5 ((Ar h 11) g)), 198, sl) (106, [some (.ref 5), some (.ref 145), some (.ref 13), some (.int (nI g)), some (.int (nI c))], [.int (nI 0), .int (nI 6), .ref 12], aset h 12 7 (upd (upd (upd (upd (upd (upd (Ar h 12) 0 ((Ar h 10) g)) 1 (v28t q cc gc (Ar h 7) c ((Ar h 9) g))) 2 ((Ar h 6) c)) 3 ((Ar h 6) (((Ar h 17) g).toNatClampNeg))) 4 (v270 q cc gc ((Ar h 18) g))) 5 ((Ar h 11) g)), 198, sl)) = some R := en_J (fun z17 => by
      have hh := en_nt z17 hh
      have hh : pm_run PT n fr lo 39 (101, [some (.ref 5), some (.ref 145), some (.ref 13), some (.int (nI g)), some (.int (nI c))], [.int (nI 6), .ref 12], aset h 12 7 (upd (upd (upd (upd (upd (upd (Ar h 12) 0 ((Ar h 10) g)) 1 (v28t q cc gc (Ar h 7) c ((Ar h 9) g))) 2 ((Ar h 6) c)) 3 ((Ar h 6) (((Ar h 17) g).toNatClampNeg))) 4 (v270 q cc gc ((Ar h 18) g))) 5 ((Ar h 11) g)), 198, sl) = some R := hh
      obtain ⟨n, hh⟩ := rn_i rfl rfl rfl rfl hh
      obtain ⟨n, hh⟩ := rn_i rfl rfl rfl rfl hh
      exact ⟨n, hh⟩) (fun z17 => by
      have hh := en_nf z17 hh
      have hh : pm_run PT n fr lo 39 (105, [some (.ref 5), some (.ref 145), some (.ref 13), some (.int (nI g)), some (.int (nI c))], [.int (nI 6), .ref 12], aset h 12 7 (upd (upd (upd (upd (upd (upd (Ar h 12) 0 ((Ar h 10) g)) 1 (v28t q cc gc (Ar h 7) c ((Ar h 9) g))) 2 ((Ar h 6) c)) 3 ((Ar h 6) (((Ar h 17) g).toNatClampNeg))) 4 (v270 q cc gc ((Ar h 18) g))) 5 ((Ar h 11) g)), 198, sl) = some R := hh
      obtain ⟨n, hh⟩ := rn_i rfl rfl rfl rfl hh
      exact ⟨n, hh⟩)
  obtain ⟨n, hh⟩ := hj18
  rw [show (cond (v74 q cc gc (Fi h 13 5) g) (106, [some (.ref 5), some (.ref 145), some (.ref 13), some (.int (nI g)), some (.int (nI c))], [.int (nI 1), .int (nI 6), .ref 12], aset h 12 7 (upd (upd (upd (upd (upd (upd (Ar h 12) 0 ((Ar h 10) g)) 1 (v28t q cc gc (Ar h 7) c ((Ar h 9) g))) 2 ((Ar h 6) c)) 3 ((Ar h 6) (((Ar h 17) g).toNatClampNeg))) 4 (v270 q cc gc ((Ar h 18) g))) 5 ((Ar h 11) g)), 198, sl) (106, [some (.ref 5), some (.ref 145), some (.ref 13), some (.int (nI g)), some (.int (nI c))], [.int (nI 0), .int (nI 6), .ref 12], aset h 12 7 (upd (upd (upd (upd (upd (upd (Ar h 12) 0 ((Ar h 10) g)) 1 (v28t q cc gc (Ar h 7) c ((Ar h 9) g))) 2 ((Ar h 6) c)) 3 ((Ar h 6) (((Ar h 17) g).toNatClampNeg))) 4 (v270 q cc gc ((Ar h 18) g))) 5 ((Ar h 11) g)), 198, sl) : pm_St) = (106, [some (.ref 5), some (.ref 145), some (.ref 13), some (.int (nI g)), some (.int (nI c))], [.int (cond (cond (v74 q cc gc (Fi h 13 5) g) true false) 1 0), .int (nI 6), .ref 12], aset h 12 7 (upd (upd (upd (upd (upd (upd (Ar h 12) 0 ((Ar h 10) g)) 1 (v28t q cc gc (Ar h 7) c ((Ar h 9) g))) 2 ((Ar h 6) c)) 3 ((Ar h 6) (((Ar h 17) g).toNatClampNeg))) 4 (v270 q cc gc ((Ar h 18) g))) 5 ((Ar h 11) g)), 198, sl) from by cases (v74 q cc gc (Fi h 13 5) g) <;> rfl] at hh
  have hh : pm_run PT n fr lo 39 (106, [some (.ref 5), some (.ref 145), some (.ref 13), some (.int (nI g)), some (.int (nI c))], [.int (cond (cond (v74 q cc gc (Fi h 13 5) g) true false) 1 0), .int (nI 6), .ref 12], aset h 12 7 (upd (upd (upd (upd (upd (upd (Ar h 12) 0 ((Ar h 10) g)) 1 (v28t q cc gc (Ar h 7) c ((Ar h 9) g))) 2 ((Ar h 6) c)) 3 ((Ar h 6) (((Ar h 17) g).toNatClampNeg))) 4 (v270 q cc gc ((Ar h 18) g))) 5 ((Ar h 11) g)), 198, sl) = some R := hh
  obtain ⟨n, hx19, hh⟩ := en_st (t := 6) (f := upd (upd (upd (upd (upd (upd (Ar h 12) 0 ((Ar h 10) g)) 1 (v28t q cc gc (Ar h 7) c ((Ar h 9) g))) 2 ((Ar h 6) c)) 3 ((Ar h 6) (((Ar h 17) g).toNatClampNeg))) 4 (v270 q cc gc ((Ar h 18) g))) 5 ((Ar h 11) g)) (nI_clamp (by omega)) (hc_a rfl rfl hw).wt rfl (by decide) rfl (by decide) Ar_s hh
  have hh : pm_run PT n fr lo 39 (107, [some (.ref 5), some (.ref 145), some (.ref 13), some (.int (nI g)), some (.int (nI c))], [], aset (aset h 12 7 (upd (upd (upd (upd (upd (upd (Ar h 12) 0 ((Ar h 10) g)) 1 (v28t q cc gc (Ar h 7) c ((Ar h 9) g))) 2 ((Ar h 6) c)) 3 ((Ar h 6) (((Ar h 17) g).toNatClampNeg))) 4 (v270 q cc gc ((Ar h 18) g))) 5 ((Ar h 11) g))) 12 7 (upd (upd (upd (upd (upd (upd (upd (Ar h 12) 0 ((Ar h 10) g)) 1 (v28t q cc gc (Ar h 7) c ((Ar h 9) g))) 2 ((Ar h 6) c)) 3 ((Ar h 6) (((Ar h 17) g).toNatClampNeg))) 4 (v270 q cc gc ((Ar h 18) g))) 5 ((Ar h 11) g)) 6 (cond (cond (v74 q cc gc (Fi h 13 5) g) true false) 1 0)), 198, sl) = some R := hh
  rw [aset_aset] at hh
  obtain ⟨n, hh⟩ := rn_i rfl rfl rfl rfl hh
  obtain ⟨n, hh⟩ := rn_i rfl rfl rfl rfl hh
  have hh : pm_run PT n fr lo 39 (109, [some (.ref 5), some (.ref 145), some (.ref 13), some (.int (nI g)), some (.int (nI c))], [.ref 5, .ref 145], aset h 12 7 (upd (upd (upd (upd (upd (upd (upd (Ar h 12) 0 ((Ar h 10) g)) 1 (v28t q cc gc (Ar h 7) c ((Ar h 9) g))) 2 ((Ar h 6) c)) 3 ((Ar h 6) (((Ar h 17) g).toNatClampNeg))) 4 (v270 q cc gc ((Ar h 18) g))) 5 ((Ar h 11) g)) 6 (cond (cond (v74 q cc gc (Fi h 13 5) g) true false) 1 0)), 198, sl) = some R := hh
  obtain ⟨n, hh⟩ := rn_gr (hc_a rfl rfl hw).wt rfl rfl (by decide) rfl (by decide) (show _ = some (2, ((12 : Nat) : Int), 1) from rfl) rfl hh
  have hh : pm_run PT n fr lo 39 (112, [some (.ref 5), some (.ref 145), some (.ref 13), some (.int (nI g)), some (.int (nI c))], [.ref 12, .ref 145], aset h 12 7 (upd (upd (upd (upd (upd (upd (upd (Ar h 12) 0 ((Ar h 10) g)) 1 (v28t q cc gc (Ar h 7) c ((Ar h 9) g))) 2 ((Ar h 6) c)) 3 ((Ar h 6) (((Ar h 17) g).toNatClampNeg))) 4 (v270 q cc gc ((Ar h 18) g))) 5 ((Ar h 11) g)) 6 (cond (cond (v74 q cc gc (Fi h 13 5) g) true false) 1 0)), 198, sl) = some R := hh
  obtain ⟨n, fr1, lo1, r1, hh1, hh⟩ := rn_call (w := 0) (t := 68) rfl rfl hh
  obtain ⟨er20, hc21, hf22⟩ := v68b_ok (z := z) (hc_a rfl rfl hw) hz ((Fi_a (by decide)).trans e1) hh1
  subst er20
  obtain ⟨n, hh⟩ := rn_i rfl rfl rfl rfl hh
  have hh : pm_run PT n fr lo 39 (118, [some (.ref 5), some (.ref 145), some (.ref 13), some (.int (nI g)), some (.int (nI c))], [.int (nI 999), .int ((v68b q cc gc (aset h 12 7 (upd (upd (upd (upd (upd (upd (upd (Ar h 12) 0 ((Ar h 10) g)) 1 (v28t q cc gc (Ar h 7) c ((Ar h 9) g))) 2 ((Ar h 6) c)) 3 ((Ar h 6) (((Ar h 17) g).toNatClampNeg))) 4 (v270 q cc gc ((Ar h 18) g))) 5 ((Ar h 11) g)) 6 (cond (cond (v74 q cc gc (Fi h 13 5) g) true false) 1 0))) z).1)], (v68b q cc gc (aset h 12 7 (upd (upd (upd (upd (upd (upd (upd (Ar h 12) 0 ((Ar h 10) g)) 1 (v28t q cc gc (Ar h 7) c ((Ar h 9) g))) 2 ((Ar h 6) c)) 3 ((Ar h 6) (((Ar h 17) g).toNatClampNeg))) 4 (v270 q cc gc ((Ar h 18) g))) 5 ((Ar h 11) g)) 6 (cond (cond (v74 q cc gc (Fi h 13 5) g) true false) 1 0))) z).2, 198, sl) = some R := hh
  obtain ⟨n, fr1, lo1, r1, hh1, hh⟩ := rn_call (w := 3) (t := 159) rfl rfl hh
  have hh1 : pm_run PT n fr1 lo1 159 (0, [some (.int ((v68b q cc gc (aset h 12 7 (upd (upd (upd (upd (upd (upd (upd (Ar h 12) 0 ((Ar h 10) g)) 1 (v28t q cc gc (Ar h 7) c ((Ar h 9) g))) 2 ((Ar h 6) c)) 3 ((Ar h 6) (((Ar h 17) g).toNatClampNeg))) 4 (v270 q cc gc ((Ar h 18) g))) 5 ((Ar h 11) g)) 6 (cond (cond (v74 q cc gc (Fi h 13 5) g) true false) 1 0))) z).1)), some (.int (nI 999))], [], (v68b q cc gc (aset h 12 7 (upd (upd (upd (upd (upd (upd (upd (Ar h 12) 0 ((Ar h 10) g)) 1 (v28t q cc gc (Ar h 7) c ((Ar h 9) g))) 2 ((Ar h 6) c)) 3 ((Ar h 6) (((Ar h 17) g).toNatClampNeg))) 4 (v270 q cc gc ((Ar h 18) g))) 5 ((Ar h 11) g)) 6 (cond (cond (v74 q cc gc (Fi h 13 5) g) true false) 1 0))) z).2, 198, sl) = some r1 := hh1
  obtain ⟨n1, hh1⟩ := rn_i rfl rfl rfl rfl hh1
  obtain ⟨n1, hh1⟩ := rn_i rfl rfl rfl rfl hh1
  obtain ⟨n1, hh1⟩ := rn_i rfl rfl rfl rfl hh1
  have hh1 : pm_run PT n1 fr1 lo1 159 (3, [some (.int ((v68b q cc gc (aset h 12 7 (upd (upd (upd (upd (upd (upd (upd (Ar h 12) 0 ((Ar h 10) g)) 1 (v28t q cc gc (Ar h 7) c ((Ar h 9) g))) 2 ((Ar h 6) c)) 3 ((Ar h 6) (((Ar h 17) g).toNatClampNeg))) 4 (v270 q cc gc ((Ar h 18) g))) 5 ((Ar h 11) g)) 6 (cond (cond (v74 q cc gc (Fi h 13 5) g) true false) 1 0))) z).1)), some (.int (nI 999))], [.int ((v68b q cc gc (aset h 12 7 (upd (upd (upd (upd (upd (upd (upd (Ar h 12) 0 ((Ar h 10) g)) 1 (v28t q cc gc (Ar h 7) c ((Ar h 9) g))) 2 ((Ar h 6) c)) 3 ((Ar h 6) (((Ar h 17) g).toNatClampNeg))) 4 (v270 q cc gc ((Ar h 18) g))) 5 ((Ar h 11) g)) 6 (cond (cond (v74 q cc gc (Fi h 13 5) g) true false) 1 0))) z).1), .int (nI 999), .int (nI 0)], (v68b q cc gc (aset h 12 7 (upd (upd (upd (upd (upd (upd (upd (Ar h 12) 0 ((Ar h 10) g)) 1 (v28t q cc gc (Ar h 7) c ((Ar h 9) g))) 2 ((Ar h 6) c)) 3 ((Ar h 6) (((Ar h 17) g).toNatClampNeg))) 4 (v270 q cc gc ((Ar h 18) g))) 5 ((Ar h 11) g)) 6 (cond (cond (v74 q cc gc (Fi h 13 5) g) true false) 1 0))) z).2, 198, sl) = some r1 := hh1
  obtain ⟨n1, hh1⟩ := en_min rfl rfl rfl hh1
  have hh1 : pm_run PT n1 fr1 lo1 159 (6, [some (.int ((v68b q cc gc (aset h 12 7 (upd (upd (upd (upd (upd (upd (upd (Ar h 12) 0 ((Ar h 10) g)) 1 (v28t q cc gc (Ar h 7) c ((Ar h 9) g))) 2 ((Ar h 6) c)) 3 ((Ar h 6) (((Ar h 17) g).toNatClampNeg))) 4 (v270 q cc gc ((Ar h 18) g))) 5 ((Ar h 11) g)) 6 (cond (cond (v74 q cc gc (Fi h 13 5) g) true false) 1 0))) z).1)), some (.int (nI 999))], [.int (imin (nI 999) ((v68b q cc gc (aset h 12 7 (upd (upd (upd (upd (upd (upd (upd (Ar h 12) 0 ((Ar h 10) g)) 1 (v28t q cc gc (Ar h 7) c ((Ar h 9) g))) 2 ((Ar h 6) c)) 3 ((Ar h 6) (((Ar h 17) g).toNatClampNeg))) 4 (v270 q cc gc ((Ar h 18) g))) 5 ((Ar h 11) g)) 6 (cond (cond (v74 q cc gc (Fi h 13 5) g) true false) 1 0))) z).1)), .int (nI 0)], (v68b q cc gc (aset h 12 7 (upd (upd (upd (upd (upd (upd (upd (Ar h 12) 0 ((Ar h 10) g)) 1 (v28t q cc gc (Ar h 7) c ((Ar h 9) g))) 2 ((Ar h 6) c)) 3 ((Ar h 6) (((Ar h 17) g).toNatClampNeg))) 4 (v270 q cc gc ((Ar h 18) g))) 5 ((Ar h 11) g)) 6 (cond (cond (v74 q cc gc (Fi h 13 5) g) true false) 1 0))) z).2, 198, sl) = some r1 := hh1
  obtain ⟨n1, hh1⟩ := en_max rfl rfl rfl hh1
  have hh1 : pm_run PT n1 fr1 lo1 159 (9, [some (.int ((v68b q cc gc (aset h 12 7 (upd (upd (upd (upd (upd (upd (upd (Ar h 12) 0 ((Ar h 10) g)) 1 (v28t q cc gc (Ar h 7) c ((Ar h 9) g))) 2 ((Ar h 6) c)) 3 ((Ar h 6) (((Ar h 17) g).toNatClampNeg))) 4 (v270 q cc gc ((Ar h 18) g))) 5 ((Ar h 11) g)) 6 (cond (cond (v74 q cc gc (Fi h 13 5) g) true false) 1 0))) z).1)), some (.int (nI 999))], [.int (imax (nI 0) (imin (nI 999) ((v68b q cc gc (aset h 12 7 (upd (upd (upd (upd (upd (upd (upd (Ar h 12) 0 ((Ar h 10) g)) 1 (v28t q cc gc (Ar h 7) c ((Ar h 9) g))) 2 ((Ar h 6) c)) 3 ((Ar h 6) (((Ar h 17) g).toNatClampNeg))) 4 (v270 q cc gc ((Ar h 18) g))) 5 ((Ar h 11) g)) 6 (cond (cond (v74 q cc gc (Fi h 13 5) g) true false) 1 0))) z).1)))], (v68b q cc gc (aset h 12 7 (upd (upd (upd (upd (upd (upd (upd (Ar h 12) 0 ((Ar h 10) g)) 1 (v28t q cc gc (Ar h 7) c ((Ar h 9) g))) 2 ((Ar h 6) c)) 3 ((Ar h 6) (((Ar h 17) g).toNatClampNeg))) 4 (v270 q cc gc ((Ar h 18) g))) 5 ((Ar h 11) g)) 6 (cond (cond (v74 q cc gc (Fi h 13 5) g) true false) 1 0))) z).2, 198, sl) = some r1 := hh1
  have er23 : r1 = (some (.int (imax (nI 0) (imin (nI 999) ((v68b q cc gc (aset h 12 7 (upd (upd (upd (upd (upd (upd (upd (Ar h 12) 0 ((Ar h 10) g)) 1 (v28t q cc gc (Ar h 7) c ((Ar h 9) g))) 2 ((Ar h 6) c)) 3 ((Ar h 6) (((Ar h 17) g).toNatClampNeg))) 4 (v270 q cc gc ((Ar h 18) g))) 5 ((Ar h 11) g)) 6 (cond (cond (v74 q cc gc (Fi h 13 5) g) true false) 1 0))) z).1)))), (v68b q cc gc (aset h 12 7 (upd (upd (upd (upd (upd (upd (upd (Ar h 12) 0 ((Ar h 10) g)) 1 (v28t q cc gc (Ar h 7) c ((Ar h 9) g))) 2 ((Ar h 6) c)) 3 ((Ar h 6) (((Ar h 17) g).toNatClampNeg))) 4 (v270 q cc gc ((Ar h 18) g))) 5 ((Ar h 11) g)) 6 (cond (cond (v74 q cc gc (Fi h 13 5) g) true false) 1 0))) z).2, 198, sl) := (rn_ret rfl (Or.inl rfl) hh1).2
  subst er23
  have hh : pm_run PT n fr lo 39 (121, [some (.ref 5), some (.ref 145), some (.ref 13), some (.int (nI g)), some (.int (nI c))], [.int (imax (nI 0) (imin (nI 999) ((v68b q cc gc (aset h 12 7 (upd (upd (upd (upd (upd (upd (upd (Ar h 12) 0 ((Ar h 10) g)) 1 (v28t q cc gc (Ar h 7) c ((Ar h 9) g))) 2 ((Ar h 6) c)) 3 ((Ar h 6) (((Ar h 17) g).toNatClampNeg))) 4 (v270 q cc gc ((Ar h 18) g))) 5 ((Ar h 11) g)) 6 (cond (cond (v74 q cc gc (Fi h 13 5) g) true false) 1 0))) z).1)))], (v68b q cc gc (aset h 12 7 (upd (upd (upd (upd (upd (upd (upd (Ar h 12) 0 ((Ar h 10) g)) 1 (v28t q cc gc (Ar h 7) c ((Ar h 9) g))) 2 ((Ar h 6) c)) 3 ((Ar h 6) (((Ar h 17) g).toNatClampNeg))) 4 (v270 q cc gc ((Ar h 18) g))) 5 ((Ar h 11) g)) 6 (cond (cond (v74 q cc gc (Fi h 13 5) g) true false) 1 0))) z).2, 198, sl) = some R := hh
  have er24 : R = (some (.int (imax (nI 0) (imin (nI 999) ((v68b q cc gc (aset h 12 7 (upd (upd (upd (upd (upd (upd (upd (Ar h 12) 0 ((Ar h 10) g)) 1 (v28t q cc gc (Ar h 7) c ((Ar h 9) g))) 2 ((Ar h 6) c)) 3 ((Ar h 6) (((Ar h 17) g).toNatClampNeg))) 4 (v270 q cc gc ((Ar h 18) g))) 5 ((Ar h 11) g)) 6 (cond (cond (v74 q cc gc (Fi h 13 5) g) true false) 1 0))) z).1)))), (v68b q cc gc (aset h 12 7 (upd (upd (upd (upd (upd (upd (upd (Ar h 12) 0 ((Ar h 10) g)) 1 (v28t q cc gc (Ar h 7) c ((Ar h 9) g))) 2 ((Ar h 6) c)) 3 ((Ar h 6) (((Ar h 17) g).toNatClampNeg))) 4 (v270 q cc gc ((Ar h 18) g))) 5 ((Ar h 11) g)) 6 (cond (cond (v74 q cc gc (Fi h 13 5) g) true false) 1 0))) z).2, 198, sl) := (rn_ret rfl (Or.inl rfl) hh).2
  have ed : v39b q cc gc h z g c = (imax (nI 0) (imin (nI 999) ((v68b q cc gc (aset h 12 7 (upd (upd (upd (upd (upd (upd (upd (Ar h 12) 0 ((Ar h 10) g)) 1 (v28t q cc gc (Ar h 7) c ((Ar h 9) g))) 2 ((Ar h 6) c)) 3 ((Ar h 6) (((Ar h 17) g).toNatClampNeg))) 4 (v270 q cc gc ((Ar h 18) g))) 5 ((Ar h 11) g)) 6 (cond (cond (v74 q cc gc (Fi h 13 5) g) true false) 1 0))) z).1)), (v68b q cc gc (aset h 12 7 (upd (upd (upd (upd (upd (upd (upd (Ar h 12) 0 ((Ar h 10) g)) 1 (v28t q cc gc (Ar h 7) c ((Ar h 9) g))) 2 ((Ar h 6) c)) 3 ((Ar h 6) (((Ar h 17) g).toNatClampNeg))) 4 (v270 q cc gc ((Ar h 18) g))) 5 ((Ar h 11) g)) 6 (cond (cond (v74 q cc gc (Fi h 13 5) g) true false) 1 0))) z).2) := rfl
  refine ⟨?_, ?_, ?_⟩ <;> rw [ed]
  · exact er24
  · exact hc21
  · exact (fr_g rfl rfl hf22 (fr_a rfl rfl fr_0))
def v149b_4b (q : QT) (cc gc : Nat) (h : pm_H) (z : Nat) (i : Nat) (x2 : Int32) : Int32 × pm_H := (x2 + ((v39b q cc gc h z i (((Ar h 17) i).toNatClampNeg)).1), (v39b q cc gc h z i (((Ar h 17) i).toNatClampNeg)).2)
def v149b_4 (q : QT) (cc gc : Nat) (z : Nat) (j i : Nat) (a : Int32 × pm_H) : Int32 × pm_H := lp (fun i a => v149b_4b q cc gc a.2 z i a.1) j i a
theorem v149b_4_e {n fr lo sl cc gc : Nat} {q : QT} {h : pm_H} {R : pm_Rs} {z : Nat} {i : Nat} {x2 : Int32} (hw : HC q cc gc h) (hz : z ≤ 40) (e1 : Fi h 145 1 = nI z) (hol : NA h 17 0 8 6) (hi : gc ≤ i) (hI : i < 1000000) (hh : pm_run PT n fr lo 149 (4, [some (.ref 0), some (.ref 145), some (.int x2), some (.int (nI i))], [], h, 198, sl) = some R) : ∃ m, pm_run PT m fr lo 149 (46, [some (.ref 0), some (.ref 145), some (.int x2), some (.int (nI i))], [], h, 198, sl) = some R := by
  have hcc := hw.cb
  have hgc := hw.gb
  have hzr := hw.zr
  obtain ⟨n, hh⟩ := rn_i rfl rfl rfl rfl hh
  obtain ⟨n, hh⟩ := rn_i rfl rfl rfl rfl hh
  have hh : pm_run PT n fr lo 149 (6, [some (.ref 0), some (.ref 145), some (.int x2), some (.int (nI i))], [.ref 0, .int (nI i)], h, 198, sl) = some R := hh
  obtain ⟨n, hh⟩ := rn_gr hw.wt rfl rfl (by decide) rfl (by decide) (show _ = some (2, ((5 : Nat) : Int), 1) from rfl) rfl hh
  have hh : pm_run PT n fr lo 149 (9, [some (.ref 0), some (.ref 145), some (.int x2), some (.int (nI i))], [.ref 5, .int (nI i)], h, 198, sl) = some R := hh
  obtain ⟨n, hh⟩ := rn_gi (x := nI gc) hw.wt rfl rfl (by decide) rfl (by decide) rfl hw.x1 hh
  have hh : pm_run PT n fr lo 149 (12, [some (.ref 0), some (.ref 145), some (.int x2), some (.int (nI i))], [.int (nI gc), .int (nI i)], h, 198, sl) = some R := hh
  obtain ⟨n, hh⟩ := en_cn (cc := .ge) (off := 34) (t := 46) (b := decide (gc ≤ i)) (hI_ge (by omega) (by omega)) rfl rfl hh
  have hh := en_t (show decide (gc ≤ i) = true from decide_eq_true (by omega)) hh
  have hh : pm_run PT n fr lo 149 (46, [some (.ref 0), some (.ref 145), some (.int x2), some (.int (nI i))], [], h, 198, sl) = some R := hh
  exact ⟨n, hh⟩
theorem v149b_4_s {n fr lo sl cc gc : Nat} {q : QT} {h : pm_H} {R : pm_Rs} {z : Nat} {i : Nat} {x2 : Int32} (hw : HC q cc gc h) (hz : z ≤ 40) (e1 : Fi h 145 1 = nI z) (hol : NA h 17 0 8 6) (hi : i < gc) (hI : i < 1000000) (hh : pm_run PT n fr lo 149 (4, [some (.ref 0), some (.ref 145), some (.int x2), some (.int (nI i))], [], h, 198, sl) = some R) : ∃ m, HC q cc gc ((v149b_4b q cc gc h z i x2).2) ∧ frm [12, 145, 147] [(145, 3)] h ((v149b_4b q cc gc h z i x2).2) ∧ Fi ((v149b_4b q cc gc h z i x2).2) 145 1 = nI z ∧ NA ((v149b_4b q cc gc h z i x2).2) 17 0 8 6 ∧ pm_run PT m fr lo 149 (4, [some (.ref 0), some (.ref 145), some (.int ((v149b_4b q cc gc h z i x2).1)), some (.int (nI (i + 1)))], [], (v149b_4b q cc gc h z i x2).2, 198, sl) = some R := by
  have hcc := hw.cb
  have hgc := hw.gb
  have hzr := hw.zr
  obtain ⟨n, hh⟩ := rn_i rfl rfl rfl rfl hh
  obtain ⟨n, hh⟩ := rn_i rfl rfl rfl rfl hh
  have hh : pm_run PT n fr lo 149 (6, [some (.ref 0), some (.ref 145), some (.int x2), some (.int (nI i))], [.ref 0, .int (nI i)], h, 198, sl) = some R := hh
  obtain ⟨n, hh⟩ := rn_gr hw.wt rfl rfl (by decide) rfl (by decide) (show _ = some (2, ((5 : Nat) : Int), 1) from rfl) rfl hh
  have hh : pm_run PT n fr lo 149 (9, [some (.ref 0), some (.ref 145), some (.int x2), some (.int (nI i))], [.ref 5, .int (nI i)], h, 198, sl) = some R := hh
  obtain ⟨n, hh⟩ := rn_gi (x := nI gc) hw.wt rfl rfl (by decide) rfl (by decide) rfl hw.x1 hh
  have hh : pm_run PT n fr lo 149 (12, [some (.ref 0), some (.ref 145), some (.int x2), some (.int (nI i))], [.int (nI gc), .int (nI i)], h, 198, sl) = some R := hh
  obtain ⟨n, hh⟩ := en_cn (cc := .ge) (off := 34) (t := 46) (b := decide (gc ≤ i)) (hI_ge (by omega) (by omega)) rfl rfl hh
  have hh := en_f (show decide (gc ≤ i) = false from decide_eq_false (by omega)) hh
  have hh : pm_run PT n fr lo 149 (15, [some (.ref 0), some (.ref 145), some (.int x2), some (.int (nI i))], [], h, 198, sl) = some R := hh
  obtain ⟨n, hh⟩ := rn_i rfl rfl rfl rfl hh
  obtain ⟨n, hh⟩ := rn_i rfl rfl rfl rfl hh
  have hh : pm_run PT n fr lo 149 (17, [some (.ref 0), some (.ref 145), some (.int x2), some (.int (nI i))], [.ref 0, .int x2], h, 198, sl) = some R := hh
  obtain ⟨n, hh⟩ := rn_gr hw.wt rfl rfl (by decide) rfl (by decide) (show _ = some (2, ((5 : Nat) : Int), 1) from rfl) rfl hh
  obtain ⟨n, hh⟩ := rn_i rfl rfl rfl rfl hh
  obtain ⟨n, hh⟩ := rn_i rfl rfl rfl rfl hh
  have hh : pm_run PT n fr lo 149 (22, [some (.ref 0), some (.ref 145), some (.int x2), some (.int (nI i))], [.ref 0, .ref 145, .ref 5, .int x2], h, 198, sl) = some R := hh
  obtain ⟨n, hh⟩ := rn_gr hw.wt rfl rfl (by decide) rfl (by decide) (show _ = some (2, ((13 : Nat) : Int), 1) from rfl) rfl hh
  obtain ⟨n, hh⟩ := rn_i rfl rfl rfl rfl hh
  obtain ⟨n, hh⟩ := rn_i rfl rfl rfl rfl hh
  have hh : pm_run PT n fr lo 149 (27, [some (.ref 0), some (.ref 145), some (.int x2), some (.int (nI i))], [.ref 0, .int (nI i), .ref 13, .ref 145, .ref 5, .int x2], h, 198, sl) = some R := hh
  obtain ⟨n, hh⟩ := rn_gr hw.wt rfl rfl (by decide) rfl (by decide) (show _ = some (2, ((13 : Nat) : Int), 1) from rfl) rfl hh
  have hh : pm_run PT n fr lo 149 (30, [some (.ref 0), some (.ref 145), some (.int x2), some (.int (nI i))], [.ref 13, .int (nI i), .ref 13, .ref 145, .ref 5, .int x2], h, 198, sl) = some R := hh
  obtain ⟨n, hh⟩ := rn_gr hw.wt rfl rfl (by decide) rfl (by decide) (show _ = some (2, ((17 : Nat) : Int), 1) from rfl) rfl hh
  obtain ⟨n, hh⟩ := rn_i rfl rfl rfl rfl hh
  have hh : pm_run PT n fr lo 149 (34, [some (.ref 0), some (.ref 145), some (.int x2), some (.int (nI i))], [.int (nI i), .ref 17, .int (nI i), .ref 13, .ref 145, .ref 5, .int x2], h, 198, sl) = some R := hh
  obtain ⟨n, hx1, hh⟩ := en_lu (t := i) (f := Ar h 17) (w := nI (((Ar h 17) i).toNatClampNeg)) (nI_clamp (by omega)) hw.wt rfl (by decide) rfl (by decide) rfl (fun z => (hol _ (by omega) (by omega)).1) hh
  have hb2 := (hol i (by omega) (by omega)).2
  have hh : pm_run PT n fr lo 149 (35, [some (.ref 0), some (.ref 145), some (.int x2), some (.int (nI i))], [.int (nI (((Ar h 17) i).toNatClampNeg)), .int (nI i), .ref 13, .ref 145, .ref 5, .int x2], h, 198, sl) = some R := hh
  obtain ⟨n, fr1, lo1, r1, hh1, hh⟩ := rn_call (w := 0) (t := 39) rfl rfl hh
  obtain ⟨er3, hc4, hf5⟩ := v39b_ok (z := z) (g := i) (c := (((Ar h 17) i).toNatClampNeg)) hw (by omega) (by omega) hz e1 hh1
  subst er3
  obtain ⟨n, hh⟩ := rn_i rfl rfl rfl rfl hh
  obtain ⟨n, hh⟩ := rn_i rfl rfl rfl rfl hh
  have hh : pm_run PT n fr lo 149 (40, [some (.ref 0), some (.ref 145), some (.int (x2 + ((v39b q cc gc h z i (((Ar h 17) i).toNatClampNeg)).1))), some (.int (nI i))], [], (v39b q cc gc h z i (((Ar h 17) i).toNatClampNeg)).2, 198, sl) = some R := hh
  obtain ⟨n, hh⟩ := en_inc (x := i) (c := 1) (j := 3) rfl rfl (by decide) hh
  have hh : pm_run PT n fr lo 149 (43, [some (.ref 0), some (.ref 145), some (.int (x2 + ((v39b q cc gc h z i (((Ar h 17) i).toNatClampNeg)).1))), some (.int (nI (i + 1)))], [], (v39b q cc gc h z i (((Ar h 17) i).toNatClampNeg)).2, 198, sl) = some R := hh
  obtain ⟨n, hh⟩ := rn_i rfl rfl rfl rfl hh
  have ed : v149b_4b q cc gc h z i x2 = (x2 + ((v39b q cc gc h z i (((Ar h 17) i).toNatClampNeg)).1), (v39b q cc gc h z i (((Ar h 17) i).toNatClampNeg)).2) := rfl
  rw [ed]
  exact ⟨n, hc4, (fr_g rfl rfl hf5 fr_0), ((hf5.2 145 1 (by decide +kernel) rfl).trans e1), (NA_e ((Ar_e (hf5.1 17 rfl)).trans rfl) hol), hh⟩
theorem v149b_4_ok {fr lo sl cc gc : Nat} {q : QT} {R : pm_Rs} {z : Nat} : ∀ {j i : Nat} {x2 : Int32} {h : pm_H} {n : Nat}, gc - i = j → i + j < 1000000 → HC q cc gc h → z ≤ 40 → Fi h 145 1 = nI z → NA h 17 0 8 6 → pm_run PT n fr lo 149 (4, [some (.ref 0), some (.ref 145), some (.int x2), some (.int (nI i))], [], h, 198, sl) = some R → ∃ m wc, HC q cc gc ((v149b_4 q cc gc z j i (x2, h)).2) ∧ frm [12, 145, 147] [(145, 3)] h ((v149b_4 q cc gc z j i (x2, h)).2) ∧ Fi ((v149b_4 q cc gc z j i (x2, h)).2) 145 1 = nI z ∧ NA ((v149b_4 q cc gc z j i (x2, h)).2) 17 0 8 6 ∧ pm_run PT m fr lo 149 (46, [some (.ref 0), some (.ref 145), some (.int ((v149b_4 q cc gc z j i (x2, h)).1)), wc], [], (v149b_4 q cc gc z j i (x2, h)).2, 198, sl) = some R := by
  intro j
  induction j with
  | zero =>
    intro i x2 h n e eI hw hz e1 hol hh
    obtain ⟨n, hh⟩ := v149b_4_e hw hz e1 hol (by omega) (by omega) hh
    exact ⟨n, _, hw, fr_0, e1, hol, hh⟩
  | succ j ih =>
    intro i x2 h n e eI hw hz e1 hol hh
    obtain ⟨n, hc, hf, e1', hol', hh⟩ := v149b_4_s hw hz e1 hol (by omega) (by omega) hh
    obtain ⟨n, wc, hc2, hf2, e1'', hol'', hh⟩ := ih (by omega) (by omega) hc hz e1' hol' hh
    exact ⟨n, wc, hc2, fr_t hf2 hf, e1'', hol'', hh⟩
def v149b (q : QT) (cc gc : Nat) (h : pm_H) (z : Nat) : Int32 × pm_H := ((v149b_4 q cc gc z gc 0 ((nI 0), h)).1, (v149b_4 q cc gc z gc 0 ((nI 0), h)).2)
theorem v149b_ok {n fr lo sl cc gc : Nat} {q : QT} {h : pm_H} {R : pm_Rs} {z : Nat} (hw : HC q cc gc h) (hz : z ≤ 40) (e1 : Fi h 145 1 = nI z) (hol : NA h 17 0 8 6) (hh : pm_run PT n fr lo 149 (0, pm_l0 [.ref 0, .ref 145] 4, [], h, 198, sl) = some R) : R = (some (.int ((v149b q cc gc h z).1)), (v149b q cc gc h z).2, 198, sl) ∧ HC q cc gc ((v149b q cc gc h z).2) ∧ frm [12, 145, 147] [(145, 3)] h ((v149b q cc gc h z).2) := by
  have hcc := hw.cb
  have hgc := hw.gb
  have hzr := hw.zr
  obtain ⟨n, hh⟩ := rn_i rfl rfl rfl rfl hh
  obtain ⟨n, hh⟩ := rn_i rfl rfl rfl rfl hh
  obtain ⟨n, hh⟩ := rn_i rfl rfl rfl rfl hh
  obtain ⟨n, hh⟩ := rn_i rfl rfl rfl rfl hh
  have hh : pm_run PT n fr lo 149 (4, [some (.ref 0), some (.ref 145), some (.int (nI 0)), some (.int (nI 0))], [], h, 198, sl) = some R := hh
  obtain ⟨n, u1, hc3, hf4, _, hn2, hh⟩ := v149b_4_ok  (i := 0) (x2 := (nI 0)) (j := gc) (by omega) (by omega) hw hz e1 hol hh
  have hh : pm_run PT n fr lo 149 (46, [some (.ref 0), some (.ref 145), some (.int ((v149b_4 q cc gc z gc 0 ((nI 0), h)).1)), u1], [], (v149b_4 q cc gc z gc 0 ((nI 0), h)).2, 198, sl) = some R := hh
  obtain ⟨n, hh⟩ := rn_i rfl rfl rfl rfl hh
  have hh : pm_run PT n fr lo 149 (47, [some (.ref 0), some (.ref 145), some (.int ((v149b_4 q cc gc z gc 0 ((nI 0), h)).1)), u1], [.int ((v149b_4 q cc gc z gc 0 ((nI 0), h)).1)], (v149b_4 q cc gc z gc 0 ((nI 0), h)).2, 198, sl) = some R := hh
  have er5 : R = (some (.int ((v149b_4 q cc gc z gc 0 ((nI 0), h)).1)), (v149b_4 q cc gc z gc 0 ((nI 0), h)).2, 198, sl) := (rn_ret rfl (Or.inl rfl) hh).2
  have ed : v149b q cc gc h z = ((v149b_4 q cc gc z gc 0 ((nI 0), h)).1, (v149b_4 q cc gc z gc 0 ((nI 0), h)).2) := rfl
  refine ⟨?_, ?_, ?_⟩ <;> rw [ed]
  · exact er5
  · exact hc3
  · exact (fr_g rfl rfl hf4 fr_0)
def v122b (q : QT) (cc gc : Nat) (h : pm_H) (z : Nat) (r : Int32) : Int32 × pm_H := cond (pm_cmp .lt r 0) (((v149b q cc gc (fset h 1 1 (.int (nI 0))) z).1) - ((v149 q cc gc ((v149b q cc gc (fset h 1 1 (.int (nI 0))) z).2)).1), v56 q cc gc ((v149 q cc gc ((v149b q cc gc (fset h 1 1 (.int (nI 0))) z).2)).2) (((v149b q cc gc (fset h 1 1 (.int (nI 0))) z).1).toInt64) (((v149 q cc gc ((v149b q cc gc (fset h 1 1 (.int (nI 0))) z).2)).1).toInt64)) ((Int32.ofInt (-10000)) - r, fset h 1 1 (.int (nI 0)))
theorem v122b_ok {n fr lo sl cc gc : Nat} {q : QT} {h : pm_H} {R : pm_Rs} {z : Nat} {r : Int32} (hw : HC q cc gc h) (hz : z ≤ 40) (ho : OTp 145 h) (e1 : Fi h 145 1 = nI z) (hol : NA h 17 0 8 6) (hh : pm_run PT n fr lo 122 (8, [some (.ref 0), some (.int r), none, none], [], h, 198, sl) = some R) : R = (some (.int ((v122b q cc gc h z r).1)), (v122b q cc gc h z r).2, 198, sl) ∧ HC q cc gc ((v122b q cc gc h z r).2) ∧ frm [1, 3, 4, 12, 142, 144, 145, 147] [(1, 1), (3, 1), (142, 3), (145, 3)] h ((v122b q cc gc h z r).2) := by
  have hcc := hw.cb
  have hgc := hw.gb
  have hzr := hw.zr
  obtain ⟨n, hh⟩ := rn_i rfl rfl rfl rfl hh
  have hh : pm_run PT n fr lo 122 (9, [some (.ref 0), some (.int r), none, none], [.ref 0], h, 198, sl) = some R := hh
  obtain ⟨n, hh⟩ := rn_gr hw.wt rfl rfl (by decide) rfl (by decide) (show _ = some (2, ((1 : Nat) : Int), 1) from rfl) rfl hh
  obtain ⟨n, hh⟩ := rn_i rfl rfl rfl rfl hh
  have hh : pm_run PT n fr lo 122 (13, [some (.ref 0), some (.int r), none, none], [.int (nI 0), .ref 1], h, 198, sl) = some R := hh
  obtain ⟨n, hh⟩ := rn_pi hw.wt rfl rfl (by decide) rfl (by decide) rfl hh
  obtain ⟨n, hh⟩ := rn_i rfl rfl rfl rfl hh
  have hh : pm_run PT n fr lo 122 (17, [some (.ref 0), some (.int r), none, none], [.int r], fset h 1 1 (.int (nI 0)), 198, sl) = some R := hh
  obtain ⟨n, hh⟩ := en_zn (cc := .lt) (off := 9) (t := 26) (b := pm_cmp .lt r 0) rfl rfl rfl hh
  cases z1 : pm_cmp .lt r 0 with
  | true =>
    have hh := en_t z1 hh
    have hh : pm_run PT n fr lo 122 (26, [some (.ref 0), some (.int r), none, none], [], fset h 1 1 (.int (nI 0)), 198, sl) = some R := hh
    obtain ⟨n, hh⟩ := rn_i rfl rfl rfl rfl hh
    obtain ⟨n, hh⟩ := rn_i rfl rfl rfl rfl hh
    have hh : pm_run PT n fr lo 122 (28, [some (.ref 0), some (.int r), none, none], [.ref 0, .ref 0], fset h 1 1 (.int (nI 0)), 198, sl) = some R := hh
    obtain ⟨n, hh⟩ := rn_g9 (p := 145) ho (show (fset h 1 1 (.int (nI 0))) 0 = h 0 from (show frm [1] [(1, 1)] h (fset h 1 1 (.int (nI 0))) from (fr_f rfl rfl fr_0)).1 0 rfl) rfl rfl hh
    have hh : pm_run PT n fr lo 122 (31, [some (.ref 0), some (.int r), none, none], [.ref 145, .ref 0], fset h 1 1 (.int (nI 0)), 198, sl) = some R := hh
    obtain ⟨n, fr1, lo1, r1, hh1, hh⟩ := rn_call (w := 0) (t := 149) rfl rfl hh
    obtain ⟨er2, hc3, hf4⟩ := v149b_ok (z := z) (hc_f rfl rfl (by decide) rfl hw) hz ((Fi_n (Or.inl (by decide))).trans e1) (NA_e (Ar_f.trans rfl) hol) hh1
    subst er2
    obtain ⟨n, hh⟩ := rn_i rfl rfl rfl rfl hh
    obtain ⟨n, hh⟩ := rn_i rfl rfl rfl rfl hh
    obtain ⟨n, hh⟩ := rn_i rfl rfl rfl rfl hh
    have hh : pm_run PT n fr lo 122 (37, [some (.ref 0), some (.int r), some (.int ((v149b q cc gc (fset h 1 1 (.int (nI 0))) z).1)), none], [.ref 0, .ref 0], (v149b q cc gc (fset h 1 1 (.int (nI 0))) z).2, 198, sl) = some R := hh
    obtain ⟨n, hh⟩ := en_q hc3 rfl rfl hh
    have hh : pm_run PT n fr lo 122 (40, [some (.ref 0), some (.int r), some (.int ((v149b q cc gc (fset h 1 1 (.int (nI 0))) z).1)), none], [.ref q.1, .ref 0], (v149b q cc gc (fset h 1 1 (.int (nI 0))) z).2, 198, sl) = some R := hh
    obtain ⟨n, fr1, lo1, r1, hh1, hh⟩ := rn_call (w := 0) (t := 149) rfl rfl hh
    obtain ⟨er5, hc6, hf7⟩ := v149_ok hc3 (NA_e ((Ar_e (hf4.1 17 rfl)).trans (Ar_f.trans rfl)) hol) hh1
    subst er5
    obtain ⟨n, hh⟩ := rn_i rfl rfl rfl rfl hh
    obtain ⟨n, hh⟩ := rn_i rfl rfl rfl rfl hh
    have hh : pm_run PT n fr lo 122 (45, [some (.ref 0), some (.int r), some (.int ((v149b q cc gc (fset h 1 1 (.int (nI 0))) z).1)), some (.int ((v149 q cc gc ((v149b q cc gc (fset h 1 1 (.int (nI 0))) z).2)).1))], [.ref 0], (v149 q cc gc ((v149b q cc gc (fset h 1 1 (.int (nI 0))) z).2)).2, 198, sl) = some R := hh
    obtain ⟨n, hh⟩ := rn_gr hc6.wt rfl rfl (by decide) rfl (by decide) (show _ = some (2, ((3 : Nat) : Int), 1) from rfl) rfl hh
    obtain ⟨n, hh⟩ := rn_i rfl rfl rfl rfl hh
    obtain ⟨n, hh⟩ := rn_i rfl rfl rfl rfl hh
    obtain ⟨n, hh⟩ := rn_i rfl rfl rfl rfl hh
    obtain ⟨n, hh⟩ := rn_i rfl rfl rfl rfl hh
    have hh : pm_run PT n fr lo 122 (52, [some (.ref 0), some (.int r), some (.int ((v149b q cc gc (fset h 1 1 (.int (nI 0))) z).1)), some (.int ((v149 q cc gc ((v149b q cc gc (fset h 1 1 (.int (nI 0))) z).2)).1))], [.long (((v149 q cc gc ((v149b q cc gc (fset h 1 1 (.int (nI 0))) z).2)).1).toInt64), .long (((v149b q cc gc (fset h 1 1 (.int (nI 0))) z).1).toInt64), .ref 3], (v149 q cc gc ((v149b q cc gc (fset h 1 1 (.int (nI 0))) z).2)).2, 198, sl) = some R := hh
    obtain ⟨n, fr1, lo1, r1, hh1, hh⟩ := rn_call (w := 0) (t := 56) rfl rfl hh
    obtain ⟨er8, hc9, hf10⟩ := v56_ok (v := (((v149b q cc gc (fset h 1 1 (.int (nI 0))) z).1).toInt64)) (w := (((v149 q cc gc ((v149b q cc gc (fset h 1 1 (.int (nI 0))) z).2)).1).toInt64)) hc6 hh1
    subst er8
    obtain ⟨n, hh⟩ := rn_i rfl rfl rfl rfl hh
    obtain ⟨n, hh⟩ := rn_i rfl rfl rfl rfl hh
    obtain ⟨n, hh⟩ := rn_i rfl rfl rfl rfl hh
    have hh : pm_run PT n fr lo 122 (58, [some (.ref 0), some (.int r), some (.int ((v149b q cc gc (fset h 1 1 (.int (nI 0))) z).1)), some (.int ((v149 q cc gc ((v149b q cc gc (fset h 1 1 (.int (nI 0))) z).2)).1))], [.int (((v149b q cc gc (fset h 1 1 (.int (nI 0))) z).1) - ((v149 q cc gc ((v149b q cc gc (fset h 1 1 (.int (nI 0))) z).2)).1))], v56 q cc gc ((v149 q cc gc ((v149b q cc gc (fset h 1 1 (.int (nI 0))) z).2)).2) (((v149b q cc gc (fset h 1 1 (.int (nI 0))) z).1).toInt64) (((v149 q cc gc ((v149b q cc gc (fset h 1 1 (.int (nI 0))) z).2)).1).toInt64), 198, sl) = some R := hh
    have er11 : R = (some (.int (((v149b q cc gc (fset h 1 1 (.int (nI 0))) z).1) - ((v149 q cc gc ((v149b q cc gc (fset h 1 1 (.int (nI 0))) z).2)).1))), v56 q cc gc ((v149 q cc gc ((v149b q cc gc (fset h 1 1 (.int (nI 0))) z).2)).2) (((v149b q cc gc (fset h 1 1 (.int (nI 0))) z).1).toInt64) (((v149 q cc gc ((v149b q cc gc (fset h 1 1 (.int (nI 0))) z).2)).1).toInt64), 198, sl) := (rn_ret rfl (Or.inl rfl) hh).2
    have ed : v122b q cc gc h z r = (((v149b q cc gc (fset h 1 1 (.int (nI 0))) z).1) - ((v149 q cc gc ((v149b q cc gc (fset h 1 1 (.int (nI 0))) z).2)).1), v56 q cc gc ((v149 q cc gc ((v149b q cc gc (fset h 1 1 (.int (nI 0))) z).2)).2) (((v149b q cc gc (fset h 1 1 (.int (nI 0))) z).1).toInt64) (((v149 q cc gc ((v149b q cc gc (fset h 1 1 (.int (nI 0))) z).2)).1).toInt64)) := (ct z1).trans rfl
    refine ⟨?_, ?_, ?_⟩ <;> rw [ed]
    · exact er11
    · exact hc9
    · exact (fr_g rfl rfl hf10 (fr_g rfl rfl hf7 (fr_g rfl rfl hf4 (fr_f rfl rfl fr_0))))
  | false =>
    have hh := en_f z1 hh
    have hh : pm_run PT n fr lo 122 (20, [some (.ref 0), some (.int r), none, none], [], fset h 1 1 (.int (nI 0)), 198, sl) = some R := hh
    obtain ⟨n, hh⟩ := rn_i rfl rfl rfl rfl hh
    obtain ⟨n, hh⟩ := rn_i rfl rfl rfl rfl hh
    obtain ⟨n, hh⟩ := rn_i rfl rfl rfl rfl hh
    have hh : pm_run PT n fr lo 122 (25, [some (.ref 0), some (.int r), none, none], [.int ((Int32.ofInt (-10000)) - r)], fset h 1 1 (.int (nI 0)), 198, sl) = some R := hh
    have er12 : R = (some (.int ((Int32.ofInt (-10000)) - r)), fset h 1 1 (.int (nI 0)), 198, sl) := (rn_ret rfl (Or.inl rfl) hh).2
    have ed : v122b q cc gc h z r = ((Int32.ofInt (-10000)) - r, fset h 1 1 (.int (nI 0))) := (cf z1).trans rfl
    refine ⟨?_, ?_, ?_⟩ <;> rw [ed]
    · exact er12
    · exact (hc_f rfl rfl (by decide) rfl hw)
    · exact (fr_f rfl rfl fr_0)
def v258e (q : QT) (cc gc : Nat) (h : pm_H) (r : Int32) (v : Int32) (l : Int32) (w : Int32) : Int32 × pm_H := (w - v, v167 q cc gc (v167 q cc gc (fset h 162 1 (.int (nI 0))) ((w).toInt64)) ((v).toInt64))
theorem v258e_ok {n fr lo sl cc gc : Nat} {q : QT} {h : pm_H} {R : pm_Rs} {r : Int32} {v : Int32} {l : Int32} {w : Int32} (hw : HC q cc gc h) (hh : pm_run PT n fr lo 258 (91, [some (.ref 162), some (.int r), some (.int v), some (.int l), some (.int w)], [], h, 198, sl) = some R) : R = (some (.int ((v258e q cc gc h r v l w).1)), (v258e q cc gc h r v l w).2, 198, sl) ∧ HC q cc gc ((v258e q cc gc h r v l w).2) ∧ frm [162, 163] [(162, 1)] h ((v258e q cc gc h r v l w).2) := by
  have hcc := hw.cb
  have hgc := hw.gb
  have hzr := hw.zr
  obtain ⟨n, hh⟩ := rn_i rfl rfl rfl rfl hh
  obtain ⟨n, hh⟩ := rn_i rfl rfl rfl rfl hh
  have hh : pm_run PT n fr lo 258 (93, [some (.ref 162), some (.int r), some (.int v), some (.int l), some (.int w)], [.int (nI 0), .ref 162], h, 198, sl) = some R := hh
  obtain ⟨n, hh⟩ := rn_pi hw.wt rfl rfl (by decide) rfl (by decide) rfl hh
  obtain ⟨n, hh⟩ := rn_i rfl rfl rfl rfl hh
  obtain ⟨n, hh⟩ := rn_i rfl rfl rfl rfl hh
  obtain ⟨n, hh⟩ := rn_i rfl rfl rfl rfl hh
  have hh : pm_run PT n fr lo 258 (100, [some (.ref 162), some (.int r), some (.int v), some (.int l), some (.int w)], [.long ((w).toInt64), .ref 162], fset h 162 1 (.int (nI 0)), 198, sl) = some R := hh
  obtain ⟨n, fr1, lo1, r1, hh1, hh⟩ := rn_call (w := 0) (t := 167) rfl rfl hh
  obtain ⟨er1, hc2, hf3⟩ := v167_ok (v := ((w).toInt64)) (hc_f rfl rfl (by decide) rfl hw) hh1
  subst er1
  obtain ⟨n, hh⟩ := rn_i rfl rfl rfl rfl hh
  obtain ⟨n, hh⟩ := rn_i rfl rfl rfl rfl hh
  obtain ⟨n, hh⟩ := rn_i rfl rfl rfl rfl hh
  have hh : pm_run PT n fr lo 258 (106, [some (.ref 162), some (.int r), some (.int v), some (.int l), some (.int w)], [.long ((v).toInt64), .ref 162], v167 q cc gc (fset h 162 1 (.int (nI 0))) ((w).toInt64), 198, sl) = some R := hh
  obtain ⟨n, fr1, lo1, r1, hh1, hh⟩ := rn_call (w := 0) (t := 167) rfl rfl hh
  obtain ⟨er4, hc5, hf6⟩ := v167_ok (v := ((v).toInt64)) hc2 hh1
  subst er4
  obtain ⟨n, hh⟩ := rn_i rfl rfl rfl rfl hh
  obtain ⟨n, hh⟩ := rn_i rfl rfl rfl rfl hh
  obtain ⟨n, hh⟩ := rn_i rfl rfl rfl rfl hh
  have hh : pm_run PT n fr lo 258 (113, [some (.ref 162), some (.int r), some (.int v), some (.int l), some (.int w)], [.int (w - v)], v167 q cc gc (v167 q cc gc (fset h 162 1 (.int (nI 0))) ((w).toInt64)) ((v).toInt64), 198, sl) = some R := hh
  have er7 : R = (some (.int (w - v)), v167 q cc gc (v167 q cc gc (fset h 162 1 (.int (nI 0))) ((w).toInt64)) ((v).toInt64), 198, sl) := (rn_ret rfl (Or.inl rfl) hh).2
  have ed : v258e q cc gc h r v l w = (w - v, v167 q cc gc (v167 q cc gc (fset h 162 1 (.int (nI 0))) ((w).toInt64)) ((v).toInt64)) := rfl
  refine ⟨?_, ?_, ?_⟩ <;> rw [ed]
  · exact er7
  · exact hc5
  · exact (fr_g rfl rfl hf6 (fr_g rfl rfl hf3 (fr_f rfl rfl fr_0)))
def v124w1 (q : QT) (cc gc : Nat) (r : Int32) (m : Int32) : Int32 := (Int32.ofInt (-1))
theorem v124w1_ok {n fr lo sl cc gc : Nat} {q : QT} {h : pm_H} {R : pm_Rs} {r : Int32} {m : Int32} (hw : HC q cc gc h) (hb : pm_cmp .lt m (nI 1) = true) (hh : pm_run PT n fr lo 124 (0, pm_l0 [.ref 0, .int r, .int m] 8, [], h, 198, sl) = some R) : R = (some (.int (v124w1 q cc gc r m)), h, 198, sl) := by
  have hcc := hw.cb
  have hgc := hw.gb
  have hzr := hw.zr
  obtain ⟨n, hh⟩ := rn_i rfl rfl rfl rfl hh
  obtain ⟨n, hh⟩ := rn_i rfl rfl rfl rfl hh
  have hh : pm_run PT n fr lo 124 (2, [some (.ref 0), some (.int r), some (.int m), none, none, none, none, none], [.int (nI 1), .int m], h, 198, sl) = some R := hh
  obtain ⟨n, hh⟩ := en_cn (cc := .lt) (off := 9) (t := 11) (b := pm_cmp .lt m (nI 1)) rfl rfl rfl hh
  have hh := en_t hb hh
  have hh : pm_run PT n fr lo 124 (11, [some (.ref 0), some (.int r), some (.int m), none, none, none, none, none], [], h, 198, sl) = some R := hh
  obtain ⟨n, hh⟩ := rn_i rfl rfl rfl rfl hh
  have hh : pm_run PT n fr lo 124 (12, [some (.ref 0), some (.int r), some (.int m), none, none, none, none, none], [.int (Int32.ofInt (-1))], h, 198, sl) = some R := hh
  have er1 : R = (some (.int (Int32.ofInt (-1))), h, 198, sl) := (rn_ret rfl (Or.inl rfl) hh).2
  have ed : v124w1 q cc gc r m = (Int32.ofInt (-1)) := rfl
  rw [ed]
  exact er1
theorem v124w2_ok {n fr lo sl cc gc : Nat} {q : QT} {h : pm_H} {R : pm_Rs} {r : Int32} {m : Int32} (hw : HC q cc gc h) (hb1 : pm_cmp .lt m (nI 1) = false) (hb2 : pm_cmp .le m (nI 60) = false) (hh : pm_run PT n fr lo 124 (0, pm_l0 [.ref 0, .int r, .int m] 8, [], h, 198, sl) = some R) : R = (some (.int (v124w1 q cc gc r m)), h, 198, sl) := by
  have hcc := hw.cb
  have hgc := hw.gb
  have hzr := hw.zr
  obtain ⟨n, hh⟩ := rn_i rfl rfl rfl rfl hh
  obtain ⟨n, hh⟩ := rn_i rfl rfl rfl rfl hh
  have hh : pm_run PT n fr lo 124 (2, [some (.ref 0), some (.int r), some (.int m), none, none, none, none, none], [.int (nI 1), .int m], h, 198, sl) = some R := hh
  obtain ⟨n, hh⟩ := en_cn (cc := .lt) (off := 9) (t := 11) (b := pm_cmp .lt m (nI 1)) rfl rfl rfl hh
  have hh := en_f hb1 hh
  have hh : pm_run PT n fr lo 124 (5, [some (.ref 0), some (.int r), some (.int m), none, none, none, none, none], [], h, 198, sl) = some R := hh
  obtain ⟨n, hh⟩ := rn_i rfl rfl rfl rfl hh
  obtain ⟨n, hh⟩ := rn_i rfl rfl rfl rfl hh
  have hh : pm_run PT n fr lo 124 (8, [some (.ref 0), some (.int r), some (.int m), none, none, none, none, none], [.int (nI 60), .int m], h, 198, sl) = some R := hh
  obtain ⟨n, hh⟩ := en_cn (cc := .le) (off := 5) (t := 13) (b := pm_cmp .le m (nI 60)) rfl rfl rfl hh
  have hh := en_f hb2 hh
  have hh : pm_run PT n fr lo 124 (11, [some (.ref 0), some (.int r), some (.int m), none, none, none, none, none], [], h, 198, sl) = some R := hh
  obtain ⟨n, hh⟩ := rn_i rfl rfl rfl rfl hh
  have hh : pm_run PT n fr lo 124 (12, [some (.ref 0), some (.int r), some (.int m), none, none, none, none, none], [.int (Int32.ofInt (-1))], h, 198, sl) = some R := hh
  have er1 : R = (some (.int (Int32.ofInt (-1))), h, 198, sl) := (rn_ret rfl (Or.inl rfl) hh).2
  have ed : v124w1 q cc gc r m = (Int32.ofInt (-1)) := rfl
  rw [ed]
  exact er1
def v263w (q : QT) (cc gc : Nat) (h : pm_H) (r : Int32) (m : Int32) : Int32 × pm_H := ((Int32.ofInt (-1)), fset h 162 0 (.int (nI 0)))
theorem v263w_ok {n fr lo sl cc gc : Nat} {q : QT} {h : pm_H} {R : pm_Rs} {r : Int32} {m : Int32} (hw : HC q cc gc h) (hb : in_b ((m).toInt64) (Int64.ofNat 1) (60 : Int64) = false) (hh : pm_run PT n fr lo 263 (0, pm_l0 [.ref 162, .int r, .int m] 7, [], h, 198, sl) = some R) : R = (some (.int ((v263w q cc gc h r m).1)), (v263w q cc gc h r m).2, 198, sl) ∧ HC q cc gc ((v263w q cc gc h r m).2) ∧ frm [162] [(162, 0)] h ((v263w q cc gc h r m).2) := by
  have hcc := hw.cb
  have hgc := hw.gb
  have hzr := hw.zr
  obtain ⟨n, hh⟩ := rn_i rfl rfl rfl rfl hh
  obtain ⟨n, hh⟩ := rn_i rfl rfl rfl rfl hh
  have hh : pm_run PT n fr lo 263 (2, [some (.ref 162), some (.int r), some (.int m), none, none, none, none], [.int (nI 0), .ref 162], h, 198, sl) = some R := hh
  obtain ⟨n, hh⟩ := rn_pi hw.wt rfl rfl (by decide) rfl (by decide) rfl hh
  obtain ⟨n, hh⟩ := rn_i rfl rfl rfl rfl hh
  obtain ⟨n, hh⟩ := rn_i rfl rfl rfl rfl hh
  obtain ⟨n, hh⟩ := rn_i rfl rfl rfl rfl hh
  obtain ⟨n, hh⟩ := rn_i rfl rfl rfl rfl hh
  have hh : pm_run PT n fr lo 263 (11, [some (.ref 162), some (.int r), some (.int m), none, none, none, none], [.long (60 : Int64), .long (Int64.ofNat 1), .long ((m).toInt64)], fset h 162 0 (.int (nI 0)), 198, sl) = some R := hh
  obtain ⟨n, fr1, lo1, r1, hh1, hh⟩ := rn_call (w := 2) (t := 163) rfl rfl hh
  have er1 := rn_dt (F := 10) (Lo := 1000) (hd_in (fr := 10) (lo := 1000) (h := fset h 162 0 (.int (nI 0))) (sl := sl) ((m).toInt64) (Int64.ofNat 1) (60 : Int64)) hh1
  subst er1
  have hh : pm_run PT n fr lo 263 (14, [some (.ref 162), some (.int r), some (.int m), none, none, none, none], [.int (cond (in_b ((m).toInt64) (Int64.ofNat 1) (60 : Int64)) 1 0)], fset h 162 0 (.int (nI 0)), 198, sl) = some R := hh
  obtain ⟨n, hh⟩ := en_zn (cc := .ne) (off := 5) (t := 19) (b := in_b ((m).toInt64) (Int64.ofNat 1) (60 : Int64)) eb_ne rfl rfl hh
  have hh := en_f hb hh
  have hh : pm_run PT n fr lo 263 (17, [some (.ref 162), some (.int r), some (.int m), none, none, none, none], [], fset h 162 0 (.int (nI 0)), 198, sl) = some R := hh
  obtain ⟨n, hh⟩ := rn_i rfl rfl rfl rfl hh
  have hh : pm_run PT n fr lo 263 (18, [some (.ref 162), some (.int r), some (.int m), none, none, none, none], [.int (Int32.ofInt (-1))], fset h 162 0 (.int (nI 0)), 198, sl) = some R := hh
  have er2 : R = (some (.int (Int32.ofInt (-1))), fset h 162 0 (.int (nI 0)), 198, sl) := (rn_ret rfl (Or.inl rfl) hh).2
  have ed : v263w q cc gc h r m = ((Int32.ofInt (-1)), fset h 162 0 (.int (nI 0))) := rfl
  refine ⟨?_, ?_, ?_⟩ <;> rw [ed]
  · exact er2
  · exact (hc_f rfl rfl (by decide) rfl hw)
  · exact (fr_f rfl rfl fr_0)
def v135 (q : QT) (cc gc : Nat) (x : Int32) : Int32 := cond (pm_cmp .eq x (nI 102)) (nI 3) (cond (pm_cmp .eq x (nI 109)) (nI 2) (cond (pm_cmp .eq x (nI 112)) (nI 4) (cond (pm_cmp .eq x (nI 113)) (nI 4) (cond (pm_cmp .eq x (nI 115)) (nI 3) (nI 0)))))
theorem v135_ok {n fr lo sl cc gc : Nat} {q : QT} {h : pm_H} {R : pm_Rs} {x : Int32} (hw : HC q cc gc h) (hh : pm_run PT n fr lo 135 (0, pm_l0 [.int x] 1, [], h, 198, sl) = some R) : R = (some (.int (v135 q cc gc x)), h, 198, sl) := by
  have hcc := hw.cb
  have hgc := hw.gb
  have hzr := hw.zr
  obtain ⟨n, hh⟩ := rn_i rfl rfl rfl rfl hh
  have hh : pm_run PT n fr lo 135 (1, [some (.int x)], [.int x], h, 198, sl) = some R := hh
  cases z1 : pm_cmp .eq x (nI 102) with
  | true =>
    obtain ⟨n, hh⟩ := en_tsc (c := 102) (t := 74) rfl (en_xc (c := 102) (by decide) z1) (by decide) rfl rfl hh
    have hh : pm_run PT n fr lo 135 (74, [some (.int x)], [], h, 198, sl) = some R := hh
    obtain ⟨n, hh⟩ := rn_i rfl rfl rfl rfl hh
    have hh : pm_run PT n fr lo 135 (75, [some (.int x)], [.int (nI 3)], h, 198, sl) = some R := hh
    have er2 : R = (some (.int (nI 3)), h, 198, sl) := (rn_ret rfl (Or.inl rfl) hh).2
    have ed : v135 q cc gc x = nI 3 := (ct z1).trans rfl
    rw [ed]
    exact er2
  | false =>
    cases z3 : pm_cmp .eq x (nI 109) with
    | true =>
      obtain ⟨n, hh⟩ := en_tsc (c := 109) (t := 72) rfl (en_xc (c := 109) (by decide) z3) (by decide) rfl rfl hh
      have hh : pm_run PT n fr lo 135 (72, [some (.int x)], [], h, 198, sl) = some R := hh
      obtain ⟨n, hh⟩ := rn_i rfl rfl rfl rfl hh
      have hh : pm_run PT n fr lo 135 (73, [some (.int x)], [.int (nI 2)], h, 198, sl) = some R := hh
      have er4 : R = (some (.int (nI 2)), h, 198, sl) := (rn_ret rfl (Or.inl rfl) hh).2
      have ed : v135 q cc gc x = nI 2 := (cf z1).trans ((ct z3).trans rfl)
      rw [ed]
      exact er4
    | false =>
      cases z5 : pm_cmp .eq x (nI 112) with
      | true =>
        obtain ⟨n, hh⟩ := en_tsc (c := 112) (t := 76) rfl (en_xc (c := 112) (by decide) z5) (by decide) rfl rfl hh
        have hh : pm_run PT n fr lo 135 (76, [some (.int x)], [], h, 198, sl) = some R := hh
        obtain ⟨n, hh⟩ := rn_i rfl rfl rfl rfl hh
        have hh : pm_run PT n fr lo 135 (77, [some (.int x)], [.int (nI 4)], h, 198, sl) = some R := hh
        have er6 : R = (some (.int (nI 4)), h, 198, sl) := (rn_ret rfl (Or.inl rfl) hh).2
        have ed : v135 q cc gc x = nI 4 := (cf z1).trans ((cf z3).trans ((ct z5).trans rfl))
        rw [ed]
        exact er6
      | false =>
        cases z7 : pm_cmp .eq x (nI 113) with
        | true =>
          obtain ⟨n, hh⟩ := en_tsc (c := 113) (t := 76) rfl (en_xc (c := 113) (by decide) z7) (by decide) rfl rfl hh
          have hh : pm_run PT n fr lo 135 (76, [some (.int x)], [], h, 198, sl) = some R := hh
          obtain ⟨n, hh⟩ := rn_i rfl rfl rfl rfl hh
          have hh : pm_run PT n fr lo 135 (77, [some (.int x)], [.int (nI 4)], h, 198, sl) = some R := hh
          have er8 : R = (some (.int (nI 4)), h, 198, sl) := (rn_ret rfl (Or.inl rfl) hh).2
          have ed : v135 q cc gc x = nI 4 := (cf z1).trans ((cf z3).trans ((cf z5).trans ((ct z7).trans rfl)))
          rw [ed]
          exact er8
        | false =>
          cases z9 : pm_cmp .eq x (nI 115) with
          | true =>
            obtain ⟨n, hh⟩ := en_tsc (c := 115) (t := 74) rfl (en_xc (c := 115) (by decide) z9) (by decide) rfl rfl hh
            have hh : pm_run PT n fr lo 135 (74, [some (.int x)], [], h, 198, sl) = some R := hh
            obtain ⟨n, hh⟩ := rn_i rfl rfl rfl rfl hh
            have hh : pm_run PT n fr lo 135 (75, [some (.int x)], [.int (nI 3)], h, 198, sl) = some R := hh
            have er10 : R = (some (.int (nI 3)), h, 198, sl) := (rn_ret rfl (Or.inl rfl) hh).2
            have ed : v135 q cc gc x = nI 3 := (cf z1).trans ((cf z3).trans ((cf z5).trans ((cf z7).trans ((ct z9).trans rfl))))
            rw [ed]
            exact er10
          | false =>
            obtain ⟨n, hh⟩ := en_tsd (t := 78) [102, 109, 112, 113, 115] rfl (by decide) (by decide) (en_l1 (en_xn (c := 102) (by decide) z1) (en_l1 (en_xn (c := 109) (by decide) z3) (en_l1 (en_xn (c := 112) (by decide) z5) (en_l1 (en_xn (c := 113) (by decide) z7) (en_l1 (en_xn (c := 115) (by decide) z9) en_l0))))) rfl hh
            have hh : pm_run PT n fr lo 135 (78, [some (.int x)], [], h, 198, sl) = some R := hh
            obtain ⟨n, hh⟩ := rn_i rfl rfl rfl rfl hh
            have hh : pm_run PT n fr lo 135 (79, [some (.int x)], [.int (nI 0)], h, 198, sl) = some R := hh
            have er11 : R = (some (.int (nI 0)), h, 198, sl) := (rn_ret rfl (Or.inl rfl) hh).2
            have ed : v135 q cc gc x = nI 0 := (cf z1).trans ((cf z3).trans ((cf z5).trans ((cf z7).trans ((cf z9).trans rfl))))
            rw [ed]
            exact er11
def v16 (q : QT) (cc gc : Nat) (h : pm_H) (fi : Nat) (si : Nat) : pm_H := cp73 h (27 + 6 * ((fi + si) % 16)) 13
theorem v16_ok {n fr lo sl cc gc : Nat} {q : QT} {h : pm_H} {R : pm_Rs} {fi : Nat} {si : Nat} (hw : HC q cc gc h) (hfi : fi < 16) (hsi : si ≤ 15) (e1 : Fi h 25 1 = nI fi) (e2 : Fi h 25 2 = nI si) (hh : pm_run PT n fr lo 16 (0, pm_l0 [.ref 25, .ref 13] 2, [], h, 198, sl) = some R) : R = (none, v16 q cc gc h fi si, 198, sl) ∧ HC q cc gc (v16 q cc gc h fi si) ∧ frm [27, 28, 29, 30, 31, 32, 33, 34, 35, 36, 37, 38, 39, 40, 41, 42, 43, 44, 45, 46, 47, 48, 49, 50, 51, 52, 53, 54, 55, 56, 57, 58, 59, 60, 61, 62, 63, 64, 65, 66, 67, 68, 69, 70, 71, 72, 73, 74, 75, 76, 77, 78, 79, 80, 81, 82, 83, 84, 85, 86, 87, 88, 89, 90, 91, 92, 93, 94, 95, 96, 97, 98, 99, 100, 101, 102, 103, 104, 105, 106, 107, 108, 109, 110, 111, 112, 113, 114, 115, 116, 117, 118, 119, 120, 121, 122] [(27, 5), (27, 6), (33, 5), (33, 6), (39, 5), (39, 6), (45, 5), (45, 6), (51, 5), (51, 6), (57, 5), (57, 6), (63, 5), (63, 6), (69, 5), (69, 6), (75, 5), (75, 6), (81, 5), (81, 6), (87, 5), (87, 6), (93, 5), (93, 6), (99, 5), (99, 6), (105, 5), (105, 6), (111, 5), (111, 6), (117, 5), (117, 6)] h (v16 q cc gc h fi si) := by
  have hcc := hw.cb
  have hgc := hw.gb
  have hzr := hw.zr
  obtain ⟨n, hh⟩ := rn_i rfl rfl rfl rfl hh
  have hh : pm_run PT n fr lo 16 (1, [some (.ref 25), some (.ref 13)], [.ref 25], h, 198, sl) = some R := hh
  obtain ⟨n, hh⟩ := rn_gr hw.wt rfl rfl (by decide) rfl (by decide) (show _ = some (2, ((26 : Nat) : Int), 1) from rfl) rfl hh
  obtain ⟨n, hh⟩ := rn_i rfl rfl rfl rfl hh
  obtain ⟨n, hh⟩ := rn_i rfl rfl rfl rfl hh
  have hh : pm_run PT n fr lo 16 (6, [some (.ref 25), some (.ref 13)], [.ref 25, .ref 25, .ref 26], h, 198, sl) = some R := hh
  obtain ⟨n, hh⟩ := rn_gi (x := nI si) hw.wt rfl rfl (by decide) rfl (by decide) rfl e2 hh
  have hh : pm_run PT n fr lo 16 (9, [some (.ref 25), some (.ref 13)], [.int (nI si), .ref 25, .ref 26], h, 198, sl) = some R := hh
  obtain ⟨n, fr1, lo1, r1, hh1, hh⟩ := rn_call (w := 0) (t := 21) rfl rfl hh
  have hh1 : pm_run PT n fr1 lo1 21 (0, [some (.ref 25), some (.int (nI si))], [], h, 198, sl) = some r1 := hh1
  obtain ⟨n1, hh1⟩ := rn_i rfl rfl rfl rfl hh1
  have hh1 : pm_run PT n1 fr1 lo1 21 (1, [some (.ref 25), some (.int (nI si))], [.ref 25], h, 198, sl) = some r1 := hh1
  obtain ⟨n1, hh1⟩ := rn_gi (x := nI fi) hw.wt rfl rfl (by decide) rfl (by decide) rfl e1 hh1
  obtain ⟨n1, hh1⟩ := rn_i rfl rfl rfl rfl hh1
  have hh1 : pm_run PT n1 fr1 lo1 21 (5, [some (.ref 25), some (.int (nI si))], [.int (nI si), .int (nI fi)], h, 198, sl) = some r1 := hh1
  obtain ⟨n1, hh1⟩ := en_add rfl hh1
  have hh1 : pm_run PT n1 fr1 lo1 21 (6, [some (.ref 25), some (.int (nI si))], [.int (nI (fi + si))], h, 198, sl) = some r1 := hh1
  obtain ⟨n1, hh1⟩ := rn_i rfl rfl rfl rfl hh1
  have hh1 : pm_run PT n1 fr1 lo1 21 (8, [some (.ref 25), some (.int (nI si))], [.int (nI 16), .int (nI (fi + si))], h, 198, sl) = some r1 := hh1
  obtain ⟨n1, hh1⟩ := en_r16 (x := fi + si) (by omega) rfl hh1
  have hh1 : pm_run PT n1 fr1 lo1 21 (9, [some (.ref 25), some (.int (nI si))], [.int (nI ((fi + si) % 16))], h, 198, sl) = some r1 := hh1
  have hh1 : pm_run PT n1 fr1 lo1 21 (9, [some (.ref 25), some (.int (nI si))], [.int (nI ((fi + si) % 16))], h, 198, sl) = some r1 := hh1
  have er1 : r1 = (some (.int (nI ((fi + si) % 16))), h, 198, sl) := (rn_ret rfl (Or.inl rfl) hh1).2
  subst er1
  have hh : pm_run PT n fr lo 16 (12, [some (.ref 25), some (.ref 13)], [.int (nI ((fi + si) % 16)), .ref 26], h, 198, sl) = some R := hh
  obtain ⟨n, hx2, hh⟩ := en_q26 (t := (fi + si) % 16) (by omega) hw.wt rfl hh
  have hh : pm_run PT n fr lo 16 (13, [some (.ref 25), some (.ref 13)], [.ref (27 + 6 * ((fi + si) % 16))], h, 198, sl) = some R := hh
  obtain ⟨n, hh⟩ := rn_i rfl rfl rfl rfl hh
  have hh : pm_run PT n fr lo 16 (14, [some (.ref 25), some (.ref 13)], [.ref 13, .ref (27 + 6 * ((fi + si) % 16))], h, 198, sl) = some R := hh
  obtain ⟨n, fr1, lo1, r1, hh1, hh⟩ := rn_call (w := 0) (t := 73) rfl rfl hh
  obtain ⟨er3, hc4⟩ := cp73_ok (xst_27 (by omega)) rfl (by omega) hw hh1
  subst er3
  have er5 : R = (none, cp73 h (27 + 6 * ((fi + si) % 16)) 13, 198, sl) := rn_vret rfl rfl hh
  have ed : v16 q cc gc h fi si = cp73 h (27 + 6 * ((fi + si) % 16)) 13 := rfl
  refine ⟨?_, ?_, ?_⟩ <;> rw [ed]
  · exact er5
  · exact hc4
  · exact (fr_c27 (by omega) hw.wt rfl rfl fr_0)
theorem v16_fr {cc gc : Nat} {q : QT} {h : pm_H} {fi : Nat} {si : Nat} (hw : HC q cc gc h) (hfi : fi < 16) (hsi : si ≤ 15) : HC q cc gc (v16 q cc gc h fi si) ∧ frm [27, 28, 29, 30, 31, 32, 33, 34, 35, 36, 37, 38, 39, 40, 41, 42, 43, 44, 45, 46, 47, 48, 49, 50, 51, 52, 53, 54, 55, 56, 57, 58, 59, 60, 61, 62, 63, 64, 65, 66, 67, 68, 69, 70, 71, 72, 73, 74, 75, 76, 77, 78, 79, 80, 81, 82, 83, 84, 85, 86, 87, 88, 89, 90, 91, 92, 93, 94, 95, 96, 97, 98, 99, 100, 101, 102, 103, 104, 105, 106, 107, 108, 109, 110, 111, 112, 113, 114, 115, 116, 117, 118, 119, 120, 121, 122] [(27, 5), (27, 6), (33, 5), (33, 6), (39, 5), (39, 6), (45, 5), (45, 6), (51, 5), (51, 6), (57, 5), (57, 6), (63, 5), (63, 6), (69, 5), (69, 6), (75, 5), (75, 6), (81, 5), (81, 6), (87, 5), (87, 6), (93, 5), (93, 6), (99, 5), (99, 6), (105, 5), (105, 6), (111, 5), (111, 6), (117, 5), (117, 6)] h (v16 q cc gc h fi si) := by
  unfold v16
  show HC q cc gc (cp73 h (27 + 6 * ((fi + si) % 16)) 13) ∧ frm [27, 28, 29, 30, 31, 32, 33, 34, 35, 36, 37, 38, 39, 40, 41, 42, 43, 44, 45, 46, 47, 48, 49, 50, 51, 52, 53, 54, 55, 56, 57, 58, 59, 60, 61, 62, 63, 64, 65, 66, 67, 68, 69, 70, 71, 72, 73, 74, 75, 76, 77, 78, 79, 80, 81, 82, 83, 84, 85, 86, 87, 88, 89, 90, 91, 92, 93, 94, 95, 96, 97, 98, 99, 100, 101, 102, 103, 104, 105, 106, 107, 108, 109, 110, 111, 112, 113, 114, 115, 116, 117, 118, 119, 120, 121, 122] [(27, 5), (27, 6), (33, 5), (33, 6), (39, 5), (39, 6), (45, 5), (45, 6), (51, 5), (51, 6), (57, 5), (57, 6), (63, 5), (63, 6), (69, 5), (69, 6), (75, 5), (75, 6), (81, 5), (81, 6), (87, 5), (87, 6), (93, 5), (93, 6), (99, 5), (99, 6), (105, 5), (105, 6), (111, 5), (111, 6), (117, 5), (117, 6)] h (cp73 h (27 + 6 * ((fi + si) % 16)) 13)
  exact ⟨(cp73_hc (xst_27 (by omega)) hw), (fr_c27 (by omega) hw.wt rfl rfl fr_0)⟩
def v17 (q : QT) (cc gc : Nat) (h : pm_H) (fi : Nat) (si : Nat) : pm_H := cond (decide (15 ≤ si)) (fset h 25 1 (.int (nI ((fi + 1) % 16)))) (fset h 25 2 (.int (nI (si + 1))))
theorem v17_ok {n fr lo sl cc gc : Nat} {q : QT} {h : pm_H} {R : pm_Rs} {fi : Nat} {si : Nat} (hw : HC q cc gc h) (hfi : fi < 16) (hsi : si ≤ 15) (e1 : Fi h 25 1 = nI fi) (e2 : Fi h 25 2 = nI si) (hh : pm_run PT n fr lo 17 (0, pm_l0 [.ref 25] 1, [], h, 198, sl) = some R) : R = (none, v17 q cc gc h fi si, 198, sl) ∧ HC q cc gc (v17 q cc gc h fi si) ∧ frm [25] [(25, 1), (25, 2)] h (v17 q cc gc h fi si) := by
  have hcc := hw.cb
  have hgc := hw.gb
  have hzr := hw.zr
  obtain ⟨n, hh⟩ := rn_i rfl rfl rfl rfl hh
  have hh : pm_run PT n fr lo 17 (1, [some (.ref 25)], [.ref 25], h, 198, sl) = some R := hh
  obtain ⟨n, hh⟩ := rn_gi (x := nI si) hw.wt rfl rfl (by decide) rfl (by decide) rfl e2 hh
  obtain ⟨n, hh⟩ := rn_i rfl rfl rfl rfl hh
  have hh : pm_run PT n fr lo 17 (6, [some (.ref 25)], [.int (nI 15), .int (nI si)], h, 198, sl) = some R := hh
  obtain ⟨n, hh⟩ := en_cn (cc := .ge) (off := 16) (t := 22) (b := decide (15 ≤ si)) (hI_ge (by omega) (by omega)) rfl rfl hh
  cases z1 : decide (15 ≤ si) with
  | true =>
    have hh := en_t z1 hh
    have hh : pm_run PT n fr lo 17 (22, [some (.ref 25)], [], h, 198, sl) = some R := hh
    have y2 := of_decide_eq_true z1
    obtain ⟨n, hh⟩ := rn_i rfl rfl rfl rfl hh
    obtain ⟨n, hh⟩ := rn_i rfl rfl rfl rfl hh
    obtain ⟨n, hh⟩ := rn_i rfl rfl rfl rfl hh
    have hh : pm_run PT n fr lo 17 (25, [some (.ref 25)], [.int (nI 1), .ref 25, .ref 25], h, 198, sl) = some R := hh
    obtain ⟨n, fr1, lo1, r1, hh1, hh⟩ := rn_call (w := 0) (t := 21) rfl rfl hh
    have hh1 : pm_run PT n fr1 lo1 21 (0, [some (.ref 25), some (.int (nI 1))], [], h, 198, sl) = some r1 := hh1
    obtain ⟨n1, hh1⟩ := rn_i rfl rfl rfl rfl hh1
    have hh1 : pm_run PT n1 fr1 lo1 21 (1, [some (.ref 25), some (.int (nI 1))], [.ref 25], h, 198, sl) = some r1 := hh1
    obtain ⟨n1, hh1⟩ := rn_gi (x := nI fi) hw.wt rfl rfl (by decide) rfl (by decide) rfl e1 hh1
    obtain ⟨n1, hh1⟩ := rn_i rfl rfl rfl rfl hh1
    have hh1 : pm_run PT n1 fr1 lo1 21 (5, [some (.ref 25), some (.int (nI 1))], [.int (nI 1), .int (nI fi)], h, 198, sl) = some r1 := hh1
    obtain ⟨n1, hh1⟩ := en_add rfl hh1
    have hh1 : pm_run PT n1 fr1 lo1 21 (6, [some (.ref 25), some (.int (nI 1))], [.int (nI (fi + 1))], h, 198, sl) = some r1 := hh1
    obtain ⟨n1, hh1⟩ := rn_i rfl rfl rfl rfl hh1
    have hh1 : pm_run PT n1 fr1 lo1 21 (8, [some (.ref 25), some (.int (nI 1))], [.int (nI 16), .int (nI (fi + 1))], h, 198, sl) = some r1 := hh1
    obtain ⟨n1, hh1⟩ := en_r16 (x := fi + 1) (by omega) rfl hh1
    have hh1 : pm_run PT n1 fr1 lo1 21 (9, [some (.ref 25), some (.int (nI 1))], [.int (nI ((fi + 1) % 16))], h, 198, sl) = some r1 := hh1
    have hh1 : pm_run PT n1 fr1 lo1 21 (9, [some (.ref 25), some (.int (nI 1))], [.int (nI ((fi + 1) % 16))], h, 198, sl) = some r1 := hh1
    have er3 : r1 = (some (.int (nI ((fi + 1) % 16))), h, 198, sl) := (rn_ret rfl (Or.inl rfl) hh1).2
    subst er3
    have hh : pm_run PT n fr lo 17 (28, [some (.ref 25)], [.int (nI ((fi + 1) % 16)), .ref 25], h, 198, sl) = some R := hh
    obtain ⟨n, hh⟩ := rn_pi hw.wt rfl rfl (by decide) rfl (by decide) rfl hh
    have er4 : R = (none, fset h 25 1 (.int (nI ((fi + 1) % 16))), 198, sl) := rn_vret rfl rfl hh
    have ed : v17 q cc gc h fi si = fset h 25 1 (.int (nI ((fi + 1) % 16))) := (ct z1).trans rfl
    refine ⟨?_, ?_, ?_⟩ <;> rw [ed]
    · exact er4
    · exact (hc_f rfl rfl (by decide) rfl hw)
    · exact (fr_f rfl rfl fr_0)
  | false =>
    have hh := en_f z1 hh
    have hh : pm_run PT n fr lo 17 (9, [some (.ref 25)], [], h, 198, sl) = some R := hh
    have y5 := of_decide_eq_false z1
    obtain ⟨n, hh⟩ := rn_i rfl rfl rfl rfl hh
    obtain ⟨n, hh⟩ := rn_i rfl rfl rfl rfl hh
    have hh : pm_run PT n fr lo 17 (11, [some (.ref 25)], [.ref 25, .ref 25], h, 198, sl) = some R := hh
    obtain ⟨n, hh⟩ := rn_gi (x := nI si) hw.wt rfl rfl (by decide) rfl (by decide) rfl e2 hh
    obtain ⟨n, hh⟩ := rn_i rfl rfl rfl rfl hh
    have hh : pm_run PT n fr lo 17 (15, [some (.ref 25)], [.int (nI 1), .int (nI si), .ref 25], h, 198, sl) = some R := hh
    obtain ⟨n, hh⟩ := en_add rfl hh
    have hh : pm_run PT n fr lo 17 (16, [some (.ref 25)], [.int (nI (si + 1)), .ref 25], h, 198, sl) = some R := hh
    have hh : pm_run PT n fr lo 17 (16, [some (.ref 25)], [.int (nI (si + 1)), .ref 25], h, 198, sl) = some R := hh
    obtain ⟨n, hh⟩ := rn_pi hw.wt rfl rfl (by decide) rfl (by decide) rfl hh
    obtain ⟨n, hh⟩ := rn_i rfl rfl rfl rfl hh
    have er6 : R = (none, fset h 25 2 (.int (nI (si + 1))), 198, sl) := rn_vret rfl rfl hh
    have ed : v17 q cc gc h fi si = fset h 25 2 (.int (nI (si + 1))) := (cf z1).trans rfl
    refine ⟨?_, ?_, ?_⟩ <;> rw [ed]
    · exact er6
    · exact (hc_f rfl rfl (by decide) rfl hw)
    · exact (fr_f rfl rfl fr_0)
theorem v17_fr {cc gc : Nat} {q : QT} {h : pm_H} {fi : Nat} {si : Nat} (hw : HC q cc gc h) (hfi : fi < 16) (hsi : si ≤ 15) : HC q cc gc (v17 q cc gc h fi si) ∧ frm [25] [(25, 1), (25, 2)] h (v17 q cc gc h fi si) := by
  unfold v17
  refine cd_s (P := fun (p : pm_H) => HC q cc gc (p) ∧ frm [25] [(25, 1), (25, 2)] h (p)) (b := decide (15 ≤ si)) (fun _ => ?_) (fun _ => ?_)
  · show HC q cc gc (fset h 25 1 (.int (nI ((fi + 1) % 16)))) ∧ frm [25] [(25, 1), (25, 2)] h (fset h 25 1 (.int (nI ((fi + 1) % 16))))
    exact ⟨(hc_f rfl rfl (by decide) rfl hw), (fr_f rfl rfl fr_0)⟩
  · show HC q cc gc (fset h 25 2 (.int (nI (si + 1)))) ∧ frm [25] [(25, 1), (25, 2)] h (fset h 25 2 (.int (nI (si + 1))))
    exact ⟨(hc_f rfl rfl (by decide) rfl hw), (fr_f rfl rfl fr_0)⟩
def v100e (q : QT) (cc gc : Nat) (h : pm_H) (fi : Nat) (si : Nat) (a : Int32) (k : Nat) (s : Int32) (p : Int32) (i : Int32) : Int32 × pm_H := cond (decide (k ≤ 0)) (cond (pm_cmp .eq s 0) (nI k, v56 q cc gc (fset h 1 1 (.int (nI 0))) (Int64.ofNat 0) ((v270 q cc gc (Fi h 13 5)).toInt64)) (nI k, v56 q cc gc (fset h 1 1 (.int (nI 0))) (Int64.ofNat 1) ((v270 q cc gc (Fi h 13 5)).toInt64))) (cond (pm_cmp .eq s 0) (nI k, v56 q cc gc (v17 q cc gc (fset h 1 1 (.int (nI 0))) fi si) (Int64.ofNat 0) ((v270 q cc gc (Fi h 13 5)).toInt64)) (nI k, v56 q cc gc (v17 q cc gc (fset h 1 1 (.int (nI 0))) fi si) (Int64.ofNat 1) ((v270 q cc gc (Fi h 13 5)).toInt64)))
theorem v100e_ok {n fr lo sl cc gc : Nat} {q : QT} {h : pm_H} {R : pm_Rs} {fi : Nat} {si : Nat} {a : Int32} {k : Nat} {s : Int32} {p : Int32} {i : Int32} (hw : HC q cc gc h) (h_k : k < 60) (hfi : fi < 16) (hsi : si ≤ 15) (e1 : Fi h 25 1 = nI fi) (e2 : Fi h 25 2 = nI si) (hh : pm_run PT n fr lo 100 (107, [some (.ref 0), some (.int a), some (.int (nI k)), some (.int s), some (.int p), some (.int i)], [], h, 198, sl) = some R) : R = (some (.int ((v100e q cc gc h fi si a k s p i).1)), (v100e q cc gc h fi si a k s p i).2, 198, sl) ∧ HC q cc gc ((v100e q cc gc h fi si a k s p i).2) ∧ frm [1, 3, 4, 25] [(1, 1), (3, 1), (25, 1), (25, 2)] h ((v100e q cc gc h fi si a k s p i).2) := by
  have hcc := hw.cb
  have hgc := hw.gb
  have hzr := hw.zr
  obtain ⟨n, hh⟩ := rn_i rfl rfl rfl rfl hh
  have hh : pm_run PT n fr lo 100 (108, [some (.ref 0), some (.int a), some (.int (nI k)), some (.int s), some (.int p), some (.int i)], [.ref 0], h, 198, sl) = some R := hh
  obtain ⟨n, hh⟩ := rn_gr hw.wt rfl rfl (by decide) rfl (by decide) (show _ = some (2, ((1 : Nat) : Int), 1) from rfl) rfl hh
  obtain ⟨n, hh⟩ := rn_i rfl rfl rfl rfl hh
  have hh : pm_run PT n fr lo 100 (112, [some (.ref 0), some (.int a), some (.int (nI k)), some (.int s), some (.int p), some (.int i)], [.int (nI 0), .ref 1], h, 198, sl) = some R := hh
  obtain ⟨n, hh⟩ := rn_pi hw.wt rfl rfl (by decide) rfl (by decide) rfl hh
  obtain ⟨n, hh⟩ := rn_i rfl rfl rfl rfl hh
  have hh : pm_run PT n fr lo 100 (116, [some (.ref 0), some (.int a), some (.int (nI k)), some (.int s), some (.int p), some (.int i)], [.int (nI k)], fset h 1 1 (.int (nI 0)), 198, sl) = some R := hh
  obtain ⟨n, hh⟩ := en_zn (cc := .le) (off := 10) (t := 126) (b := decide (k ≤ 0)) (hI_le (b := 0) (by omega) (by omega)) rfl rfl hh
  cases z1 : decide (k ≤ 0) with
  | true =>
    have hh := en_t z1 hh
    have hh : pm_run PT n fr lo 100 (126, [some (.ref 0), some (.int a), some (.int (nI k)), some (.int s), some (.int p), some (.int i)], [], fset h 1 1 (.int (nI 0)), 198, sl) = some R := hh
    have y2 := of_decide_eq_true z1
    obtain ⟨n, hh⟩ := rn_i rfl rfl rfl rfl hh
    have hh : pm_run PT n fr lo 100 (127, [some (.ref 0), some (.int a), some (.int (nI k)), some (.int s), some (.int p), some (.int i)], [.ref 0], fset h 1 1 (.int (nI 0)), 198, sl) = some R := hh
    obtain ⟨n, hh⟩ := rn_gr (hc_f rfl rfl (by decide) rfl hw).wt rfl rfl (by decide) rfl (by decide) (show _ = some (2, ((3 : Nat) : Int), 1) from rfl) rfl hh
    obtain ⟨n, hh⟩ := rn_i rfl rfl rfl rfl hh
    have hh : pm_run PT n fr lo 100 (131, [some (.ref 0), some (.int a), some (.int (nI k)), some (.int s), some (.int p), some (.int i)], [.int s, .ref 3], fset h 1 1 (.int (nI 0)), 198, sl) = some R := hh
    obtain ⟨n, hh⟩ := en_zn (cc := .eq) (off := 7) (t := 138) (b := pm_cmp .eq s 0) rfl rfl rfl hh
    cases z3 : pm_cmp .eq s 0 with
    | true =>
      have hh := en_t z3 hh
      have hh : pm_run PT n fr lo 100 (138, [some (.ref 0), some (.int a), some (.int (nI k)), some (.int s), some (.int p), some (.int i)], [.ref 3], fset h 1 1 (.int (nI 0)), 198, sl) = some R := hh
      obtain ⟨n, hh⟩ := rn_i rfl rfl rfl rfl hh
      obtain ⟨n, hh⟩ := rn_i rfl rfl rfl rfl hh
      have hh : pm_run PT n fr lo 100 (140, [some (.ref 0), some (.int a), some (.int (nI k)), some (.int s), some (.int p), some (.int i)], [.ref 0, .long (Int64.ofNat 0), .ref 3], fset h 1 1 (.int (nI 0)), 198, sl) = some R := hh
      obtain ⟨n, hh⟩ := rn_gr (hc_f rfl rfl (by decide) rfl hw).wt rfl rfl (by decide) rfl (by decide) (show _ = some (2, ((13 : Nat) : Int), 1) from rfl) rfl hh
      have hh : pm_run PT n fr lo 100 (143, [some (.ref 0), some (.int a), some (.int (nI k)), some (.int s), some (.int p), some (.int i)], [.ref 13, .long (Int64.ofNat 0), .ref 3], fset h 1 1 (.int (nI 0)), 198, sl) = some R := hh
      obtain ⟨n, hh⟩ := rn_gi (x := Fi h 13 5) (hc_f rfl rfl (by decide) rfl hw).wt rfl rfl (by decide) rfl (by decide) rfl ((Fi_n (Or.inl (by decide))).trans rfl) hh
      have hh : pm_run PT n fr lo 100 (146, [some (.ref 0), some (.int a), some (.int (nI k)), some (.int s), some (.int p), some (.int i)], [.int (Fi h 13 5), .long (Int64.ofNat 0), .ref 3], fset h 1 1 (.int (nI 0)), 198, sl) = some R := hh
      obtain ⟨n, fr1, lo1, r1, hh1, hh⟩ := rn_call (w := 2) (t := 270) rfl rfl hh
      have er4 := v270_ok (a := (Fi h 13 5)) (hc_f rfl rfl (by decide) rfl hw) hh1
      subst er4
      obtain ⟨n, hh⟩ := rn_i rfl rfl rfl rfl hh
      have hh : pm_run PT n fr lo 100 (150, [some (.ref 0), some (.int a), some (.int (nI k)), some (.int s), some (.int p), some (.int i)], [.long ((v270 q cc gc (Fi h 13 5)).toInt64), .long (Int64.ofNat 0), .ref 3], fset h 1 1 (.int (nI 0)), 198, sl) = some R := hh
      obtain ⟨n, fr1, lo1, r1, hh1, hh⟩ := rn_call (w := 0) (t := 56) rfl rfl hh
      obtain ⟨er5, hc6, hf7⟩ := v56_ok (v := (Int64.ofNat 0)) (w := ((v270 q cc gc (Fi h 13 5)).toInt64)) (hc_f rfl rfl (by decide) rfl hw) hh1
      subst er5
      obtain ⟨n, hh⟩ := rn_i rfl rfl rfl rfl hh
      have hh : pm_run PT n fr lo 100 (154, [some (.ref 0), some (.int a), some (.int (nI k)), some (.int s), some (.int p), some (.int i)], [.int (nI k)], v56 q cc gc (fset h 1 1 (.int (nI 0))) (Int64.ofNat 0) ((v270 q cc gc (Fi h 13 5)).toInt64), 198, sl) = some R := hh
      have er8 : R = (some (.int (nI k)), v56 q cc gc (fset h 1 1 (.int (nI 0))) (Int64.ofNat 0) ((v270 q cc gc (Fi h 13 5)).toInt64), 198, sl) := (rn_ret rfl (Or.inl rfl) hh).2
      have ed : v100e q cc gc h fi si a k s p i = (nI k, v56 q cc gc (fset h 1 1 (.int (nI 0))) (Int64.ofNat 0) ((v270 q cc gc (Fi h 13 5)).toInt64)) := (ct z1).trans ((ct z3).trans rfl)
      refine ⟨?_, ?_, ?_⟩ <;> rw [ed]
      · exact er8
      · exact hc6
      · exact (fr_g rfl rfl hf7 (fr_f rfl rfl fr_0))
    | false =>
      have hh := en_f z3 hh
      have hh : pm_run PT n fr lo 100 (134, [some (.ref 0), some (.int a), some (.int (nI k)), some (.int s), some (.int p), some (.int i)], [.ref 3], fset h 1 1 (.int (nI 0)), 198, sl) = some R := hh
      obtain ⟨n, hh⟩ := rn_i rfl rfl rfl rfl hh
      obtain ⟨n, hh⟩ := rn_i rfl rfl rfl rfl hh
      obtain ⟨n, hh⟩ := rn_i rfl rfl rfl rfl hh
      have hh : pm_run PT n fr lo 100 (140, [some (.ref 0), some (.int a), some (.int (nI k)), some (.int s), some (.int p), some (.int i)], [.ref 0, .long (Int64.ofNat 1), .ref 3], fset h 1 1 (.int (nI 0)), 198, sl) = some R := hh
      obtain ⟨n, hh⟩ := rn_gr (hc_f rfl rfl (by decide) rfl hw).wt rfl rfl (by decide) rfl (by decide) (show _ = some (2, ((13 : Nat) : Int), 1) from rfl) rfl hh
      have hh : pm_run PT n fr lo 100 (143, [some (.ref 0), some (.int a), some (.int (nI k)), some (.int s), some (.int p), some (.int i)], [.ref 13, .long (Int64.ofNat 1), .ref 3], fset h 1 1 (.int (nI 0)), 198, sl) = some R := hh
      obtain ⟨n, hh⟩ := rn_gi (x := Fi h 13 5) (hc_f rfl rfl (by decide) rfl hw).wt rfl rfl (by decide) rfl (by decide) rfl ((Fi_n (Or.inl (by decide))).trans rfl) hh
      have hh : pm_run PT n fr lo 100 (146, [some (.ref 0), some (.int a), some (.int (nI k)), some (.int s), some (.int p), some (.int i)], [.int (Fi h 13 5), .long (Int64.ofNat 1), .ref 3], fset h 1 1 (.int (nI 0)), 198, sl) = some R := hh
      obtain ⟨n, fr1, lo1, r1, hh1, hh⟩ := rn_call (w := 2) (t := 270) rfl rfl hh
      have er9 := v270_ok (a := (Fi h 13 5)) (hc_f rfl rfl (by decide) rfl hw) hh1
      subst er9
      obtain ⟨n, hh⟩ := rn_i rfl rfl rfl rfl hh
      have hh : pm_run PT n fr lo 100 (150, [some (.ref 0), some (.int a), some (.int (nI k)), some (.int s), some (.int p), some (.int i)], [.long ((v270 q cc gc (Fi h 13 5)).toInt64), .long (Int64.ofNat 1), .ref 3], fset h 1 1 (.int (nI 0)), 198, sl) = some R := hh
      obtain ⟨n, fr1, lo1, r1, hh1, hh⟩ := rn_call (w := 0) (t := 56) rfl rfl hh
      obtain ⟨er10, hc11, hf12⟩ := v56_ok (v := (Int64.ofNat 1)) (w := ((v270 q cc gc (Fi h 13 5)).toInt64)) (hc_f rfl rfl (by decide) rfl hw) hh1
      subst er10
      obtain ⟨n, hh⟩ := rn_i rfl rfl rfl rfl hh
      have hh : pm_run PT n fr lo 100 (154, [some (.ref 0), some (.int a), some (.int (nI k)), some (.int s), some (.int p), some (.int i)], [.int (nI k)], v56 q cc gc (fset h 1 1 (.int (nI 0))) (Int64.ofNat 1) ((v270 q cc gc (Fi h 13 5)).toInt64), 198, sl) = some R := hh
      have er13 : R = (some (.int (nI k)), v56 q cc gc (fset h 1 1 (.int (nI 0))) (Int64.ofNat 1) ((v270 q cc gc (Fi h 13 5)).toInt64), 198, sl) := (rn_ret rfl (Or.inl rfl) hh).2
      have ed : v100e q cc gc h fi si a k s p i = (nI k, v56 q cc gc (fset h 1 1 (.int (nI 0))) (Int64.ofNat 1) ((v270 q cc gc (Fi h 13 5)).toInt64)) := (ct z1).trans ((cf z3).trans rfl)
      refine ⟨?_, ?_, ?_⟩ <;> rw [ed]
      · exact er13
      · exact hc11
      · exact (fr_g rfl rfl hf12 (fr_f rfl rfl fr_0))
  | false =>
    have hh := en_f z1 hh
    have hh : pm_run PT n fr lo 100 (119, [some (.ref 0), some (.int a), some (.int (nI k)), some (.int s), some (.int p), some (.int i)], [], fset h 1 1 (.int (nI 0)), 198, sl) = some R := hh
    have y14 := of_decide_eq_false z1
    obtain ⟨n, hh⟩ := rn_i rfl rfl rfl rfl hh
    have hh : pm_run PT n fr lo 100 (120, [some (.ref 0), some (.int a), some (.int (nI k)), some (.int s), some (.int p), some (.int i)], [.ref 0], fset h 1 1 (.int (nI 0)), 198, sl) = some R := hh
    obtain ⟨n, hh⟩ := rn_gr (hc_f rfl rfl (by decide) rfl hw).wt rfl rfl (by decide) rfl (by decide) (show _ = some (2, ((25 : Nat) : Int), 1) from rfl) rfl hh
    have hh : pm_run PT n fr lo 100 (123, [some (.ref 0), some (.int a), some (.int (nI k)), some (.int s), some (.int p), some (.int i)], [.ref 25], fset h 1 1 (.int (nI 0)), 198, sl) = some R := hh
    obtain ⟨n, fr1, lo1, r1, hh1, hh⟩ := rn_call (w := 0) (t := 17) rfl rfl hh
    obtain ⟨er15, hc16, hf17⟩ := v17_ok (fi := fi) (si := si) (hc_f rfl rfl (by decide) rfl hw) hfi hsi ((Fi_n (Or.inl (by decide))).trans e1) ((Fi_n (Or.inl (by decide))).trans e2) hh1
    subst er15
    obtain ⟨n, hh⟩ := rn_i rfl rfl rfl rfl hh
    have hh : pm_run PT n fr lo 100 (127, [some (.ref 0), some (.int a), some (.int (nI k)), some (.int s), some (.int p), some (.int i)], [.ref 0], v17 q cc gc (fset h 1 1 (.int (nI 0))) fi si, 198, sl) = some R := hh
    obtain ⟨n, hh⟩ := rn_gr hc16.wt rfl rfl (by decide) rfl (by decide) (show _ = some (2, ((3 : Nat) : Int), 1) from rfl) rfl hh
    obtain ⟨n, hh⟩ := rn_i rfl rfl rfl rfl hh
    have hh : pm_run PT n fr lo 100 (131, [some (.ref 0), some (.int a), some (.int (nI k)), some (.int s), some (.int p), some (.int i)], [.int s, .ref 3], v17 q cc gc (fset h 1 1 (.int (nI 0))) fi si, 198, sl) = some R := hh
    obtain ⟨n, hh⟩ := en_zn (cc := .eq) (off := 7) (t := 138) (b := pm_cmp .eq s 0) rfl rfl rfl hh
    cases z18 : pm_cmp .eq s 0 with
    | true =>
      have hh := en_t z18 hh
      have hh : pm_run PT n fr lo 100 (138, [some (.ref 0), some (.int a), some (.int (nI k)), some (.int s), some (.int p), some (.int i)], [.ref 3], v17 q cc gc (fset h 1 1 (.int (nI 0))) fi si, 198, sl) = some R := hh
      obtain ⟨n, hh⟩ := rn_i rfl rfl rfl rfl hh
      obtain ⟨n, hh⟩ := rn_i rfl rfl rfl rfl hh
      have hh : pm_run PT n fr lo 100 (140, [some (.ref 0), some (.int a), some (.int (nI k)), some (.int s), some (.int p), some (.int i)], [.ref 0, .long (Int64.ofNat 0), .ref 3], v17 q cc gc (fset h 1 1 (.int (nI 0))) fi si, 198, sl) = some R := hh
      obtain ⟨n, hh⟩ := rn_gr hc16.wt rfl rfl (by decide) rfl (by decide) (show _ = some (2, ((13 : Nat) : Int), 1) from rfl) rfl hh
      have hh : pm_run PT n fr lo 100 (143, [some (.ref 0), some (.int a), some (.int (nI k)), some (.int s), some (.int p), some (.int i)], [.ref 13, .long (Int64.ofNat 0), .ref 3], v17 q cc gc (fset h 1 1 (.int (nI 0))) fi si, 198, sl) = some R := hh
      obtain ⟨n, hh⟩ := rn_gi (x := Fi h 13 5) hc16.wt rfl rfl (by decide) rfl (by decide) rfl ((hf17.2 13 5 (by decide +kernel) rfl).trans ((Fi_n (Or.inl (by decide))).trans rfl)) hh
      have hh : pm_run PT n fr lo 100 (146, [some (.ref 0), some (.int a), some (.int (nI k)), some (.int s), some (.int p), some (.int i)], [.int (Fi h 13 5), .long (Int64.ofNat 0), .ref 3], v17 q cc gc (fset h 1 1 (.int (nI 0))) fi si, 198, sl) = some R := hh
      obtain ⟨n, fr1, lo1, r1, hh1, hh⟩ := rn_call (w := 2) (t := 270) rfl rfl hh
      have er19 := v270_ok (a := (Fi h 13 5)) hc16 hh1
      subst er19
      obtain ⟨n, hh⟩ := rn_i rfl rfl rfl rfl hh
      have hh : pm_run PT n fr lo 100 (150, [some (.ref 0), some (.int a), some (.int (nI k)), some (.int s), some (.int p), some (.int i)], [.long ((v270 q cc gc (Fi h 13 5)).toInt64), .long (Int64.ofNat 0), .ref 3], v17 q cc gc (fset h 1 1 (.int (nI 0))) fi si, 198, sl) = some R := hh
      obtain ⟨n, fr1, lo1, r1, hh1, hh⟩ := rn_call (w := 0) (t := 56) rfl rfl hh
      obtain ⟨er20, hc21, hf22⟩ := v56_ok (v := (Int64.ofNat 0)) (w := ((v270 q cc gc (Fi h 13 5)).toInt64)) hc16 hh1
      subst er20
      obtain ⟨n, hh⟩ := rn_i rfl rfl rfl rfl hh
      have hh : pm_run PT n fr lo 100 (154, [some (.ref 0), some (.int a), some (.int (nI k)), some (.int s), some (.int p), some (.int i)], [.int (nI k)], v56 q cc gc (v17 q cc gc (fset h 1 1 (.int (nI 0))) fi si) (Int64.ofNat 0) ((v270 q cc gc (Fi h 13 5)).toInt64), 198, sl) = some R := hh
      have er23 : R = (some (.int (nI k)), v56 q cc gc (v17 q cc gc (fset h 1 1 (.int (nI 0))) fi si) (Int64.ofNat 0) ((v270 q cc gc (Fi h 13 5)).toInt64), 198, sl) := (rn_ret rfl (Or.inl rfl) hh).2
      have ed : v100e q cc gc h fi si a k s p i = (nI k, v56 q cc gc (v17 q cc gc (fset h 1 1 (.int (nI 0))) fi si) (Int64.ofNat 0) ((v270 q cc gc (Fi h 13 5)).toInt64)) := (cf z1).trans ((ct z18).trans rfl)
      refine ⟨?_, ?_, ?_⟩ <;> rw [ed]
      · exact er23
      · exact hc21
      · exact (fr_g rfl rfl hf22 (fr_g rfl rfl hf17 (fr_f rfl rfl fr_0)))
    | false =>
      have hh := en_f z18 hh
      have hh : pm_run PT n fr lo 100 (134, [some (.ref 0), some (.int a), some (.int (nI k)), some (.int s), some (.int p), some (.int i)], [.ref 3], v17 q cc gc (fset h 1 1 (.int (nI 0))) fi si, 198, sl) = some R := hh
      obtain ⟨n, hh⟩ := rn_i rfl rfl rfl rfl hh
      obtain ⟨n, hh⟩ := rn_i rfl rfl rfl rfl hh
      obtain ⟨n, hh⟩ := rn_i rfl rfl rfl rfl hh
      have hh : pm_run PT n fr lo 100 (140, [some (.ref 0), some (.int a), some (.int (nI k)), some (.int s), some (.int p), some (.int i)], [.ref 0, .long (Int64.ofNat 1), .ref 3], v17 q cc gc (fset h 1 1 (.int (nI 0))) fi si, 198, sl) = some R := hh
      obtain ⟨n, hh⟩ := rn_gr hc16.wt rfl rfl (by decide) rfl (by decide) (show _ = some (2, ((13 : Nat) : Int), 1) from rfl) rfl hh
      have hh : pm_run PT n fr lo 100 (143, [some (.ref 0), some (.int a), some (.int (nI k)), some (.int s), some (.int p), some (.int i)], [.ref 13, .long (Int64.ofNat 1), .ref 3], v17 q cc gc (fset h 1 1 (.int (nI 0))) fi si, 198, sl) = some R := hh
      obtain ⟨n, hh⟩ := rn_gi (x := Fi h 13 5) hc16.wt rfl rfl (by decide) rfl (by decide) rfl ((hf17.2 13 5 (by decide +kernel) rfl).trans ((Fi_n (Or.inl (by decide))).trans rfl)) hh
      have hh : pm_run PT n fr lo 100 (146, [some (.ref 0), some (.int a), some (.int (nI k)), some (.int s), some (.int p), some (.int i)], [.int (Fi h 13 5), .long (Int64.ofNat 1), .ref 3], v17 q cc gc (fset h 1 1 (.int (nI 0))) fi si, 198, sl) = some R := hh
      obtain ⟨n, fr1, lo1, r1, hh1, hh⟩ := rn_call (w := 2) (t := 270) rfl rfl hh
      have er24 := v270_ok (a := (Fi h 13 5)) hc16 hh1
      subst er24
      obtain ⟨n, hh⟩ := rn_i rfl rfl rfl rfl hh
      have hh : pm_run PT n fr lo 100 (150, [some (.ref 0), some (.int a), some (.int (nI k)), some (.int s), some (.int p), some (.int i)], [.long ((v270 q cc gc (Fi h 13 5)).toInt64), .long (Int64.ofNat 1), .ref 3], v17 q cc gc (fset h 1 1 (.int (nI 0))) fi si, 198, sl) = some R := hh
      obtain ⟨n, fr1, lo1, r1, hh1, hh⟩ := rn_call (w := 0) (t := 56) rfl rfl hh
      obtain ⟨er25, hc26, hf27⟩ := v56_ok (v := (Int64.ofNat 1)) (w := ((v270 q cc gc (Fi h 13 5)).toInt64)) hc16 hh1
      subst er25
      obtain ⟨n, hh⟩ := rn_i rfl rfl rfl rfl hh
      have hh : pm_run PT n fr lo 100 (154, [some (.ref 0), some (.int a), some (.int (nI k)), some (.int s), some (.int p), some (.int i)], [.int (nI k)], v56 q cc gc (v17 q cc gc (fset h 1 1 (.int (nI 0))) fi si) (Int64.ofNat 1) ((v270 q cc gc (Fi h 13 5)).toInt64), 198, sl) = some R := hh
      have er28 : R = (some (.int (nI k)), v56 q cc gc (v17 q cc gc (fset h 1 1 (.int (nI 0))) fi si) (Int64.ofNat 1) ((v270 q cc gc (Fi h 13 5)).toInt64), 198, sl) := (rn_ret rfl (Or.inl rfl) hh).2
      have ed : v100e q cc gc h fi si a k s p i = (nI k, v56 q cc gc (v17 q cc gc (fset h 1 1 (.int (nI 0))) fi si) (Int64.ofNat 1) ((v270 q cc gc (Fi h 13 5)).toInt64)) := (cf z1).trans ((cf z18).trans rfl)
      refine ⟨?_, ?_, ?_⟩ <;> rw [ed]
      · exact er28
      · exact hc26
      · exact (fr_g rfl rfl hf27 (fr_g rfl rfl hf17 (fr_f rfl rfl fr_0)))
def v228e (q : QT) (cc gc : Nat) (h : pm_H) (c : Nat) (u : Nat) (a : Int32) (b : Int32) (d : Int32) (k : Nat) : Int32 × pm_H := cond (decide (k ≤ 0)) (nI 0, v167 q cc gc (v167 q cc gc (fset h 162 1 (.int (nI 0))) ((cond (cond (decide (c ≤ k)) false true) 1 0 : Int32).toInt64)) ((v270 q cc gc ((Ar h 170) 94)).toInt64)) ((v212 q cc gc (v167 q cc gc (v167 q cc gc (fset h 162 1 (.int (nI 0))) ((cond (cond (decide (c ≤ k)) false true) 1 0 : Int32).toInt64)) ((v270 q cc gc ((Ar h 170) 94)).toInt64)) u (nI k)).1, (v212 q cc gc (v167 q cc gc (v167 q cc gc (fset h 162 1 (.int (nI 0))) ((cond (cond (decide (c ≤ k)) false true) 1 0 : Int32).toInt64)) ((v270 q cc gc ((Ar h 170) 94)).toInt64)) u (nI k)).2)
theorem v228e_ok {n fr lo sl cc gc : Nat} {q : QT} {h : pm_H} {R : pm_Rs} {c : Nat} {u : Nat} {a : Int32} {b : Int32} {d : Int32} {k : Nat} (hw : HC q cc gc h) (h_k : k < 60) (hc : c < 60) (hu : u ≤ 15) (e35 : Fi h 162 35 = nI c) (e1 : Fi h 162 27 = nI u) (hh : pm_run PT n fr lo 228 (88, [some (.ref 162), some (.int a), some (.int b), some (.int d), some (.int (nI k))], [], h, 198, sl) = some R) : R = (some (.int ((v228e q cc gc h c u a b d k).1)), (v228e q cc gc h c u a b d k).2, 198, sl) ∧ HC q cc gc ((v228e q cc gc h c u a b d k).2) ∧ frm [162, 163, 178] [(162, 1), (162, 27)] h ((v228e q cc gc h c u a b d k).2) := by
  have hcc := hw.cb
  have hgc := hw.gb
  have hzr := hw.zr
  obtain ⟨n, hh⟩ := rn_i rfl rfl rfl rfl hh
  obtain ⟨n, hh⟩ := rn_i rfl rfl rfl rfl hh
  have hh : pm_run PT n fr lo 228 (90, [some (.ref 162), some (.int a), some (.int b), some (.int d), some (.int (nI k))], [.int (nI 0), .ref 162], h, 198, sl) = some R := hh
  obtain ⟨n, hh⟩ := rn_pi hw.wt rfl rfl (by decide) rfl (by decide) rfl hh
  obtain ⟨n, hh⟩ := rn_i rfl rfl rfl rfl hh
  obtain ⟨n, hh⟩ := rn_i rfl rfl rfl rfl hh
  obtain ⟨n, hh⟩ := rn_i rfl rfl rfl rfl hh
  have hh : pm_run PT n fr lo 228 (97, [some (.ref 162), some (.int a), some (.int b), some (.int d), some (.int (nI k))], [.ref 162, .int (nI k), .ref 162], fset h 162 1 (.int (nI 0)), 198, sl) = some R := hh
  obtain ⟨n, hh⟩ := rn_gi (x := nI c) (hc_f rfl rfl (by decide) rfl hw).wt rfl rfl (by decide) rfl (by decide) rfl ((Fi_n (Or.inr (by decide))).trans e35) hh
  have hh : pm_run PT n fr lo 228 (100, [some (.ref 162), some (.int a), some (.int b), some (.int d), some (.int (nI k))], [.int (nI c), .int (nI k), .ref 162], fset h 162 1 (.int (nI 0)), 198, sl) = some R := hh
  obtain ⟨n, hh⟩ := en_cn (cc := .ge) (off := 7) (t := 107) (b := decide (c ≤ k)) (hI_ge (by omega) (by omega)) rfl rfl hh
  have hj2 : ∃ mJ, pm_run PT mJ fr lo 228 (cond (decide (c ≤ k)) (108, [some (.ref 162), some (.int a), some (.int b), some (.int d), some (.int (nI k))], [.int (nI 0), .ref 162], fset h 162 1 (.int (nI 0)), 198, sl) (108, [some (.ref 162), some (.int a), some (.int b), some (.int d), some (.int (nI k))], [.int (nI 1), .ref 162], fset h 162 1 (.int (nI 0)), 198, sl)) = some R := en_J (fun z1 => by
      have hh := en_t z1 hh
      have hh : pm_run PT n fr lo 228 (107, [some (.ref 162), some (.int a), some (.int b), some (.int d), some (.int (nI k))], [.ref 162], fset h 162 1 (.int (nI 0)), 198, sl) = some R := hh
      have y_z1 := of_decide_eq_true z1
      obtain ⟨n, hh⟩ := rn_i rfl rfl rfl rfl hh
      exact ⟨n, hh⟩) (fun z1 => by
      have hh := en_f z1 hh
      have hh : pm_run PT n fr lo 228 (103, [some (.ref 162), some (.int a), some (.int b), some (.int d), some (.int (nI k))], [.ref 162], fset h 162 1 (.int (nI 0)), 198, sl) = some R := hh
      have y_z1 := of_decide_eq_false z1
      obtain ⟨n, hh⟩ := rn_i rfl rfl rfl rfl hh
      obtain ⟨n, hh⟩ := rn_i rfl rfl rfl rfl hh
      exact ⟨n, hh⟩)
  obtain ⟨n, hh⟩ := hj2
  rw [show (cond (decide (c ≤ k)) (108, [some (.ref 162), some (.int a), some (.int b), some (.int d), some (.int (nI k))], [.int (nI 0), .ref 162], fset h 162 1 (.int (nI 0)), 198, sl) (108, [some (.ref 162), some (.int a), some (.int b), some (.int d), some (.int (nI k))], [.int (nI 1), .ref 162], fset h 162 1 (.int (nI 0)), 198, sl) : pm_St) = (108, [some (.ref 162), some (.int a), some (.int b), some (.int d), some (.int (nI k))], [.int (cond (cond (decide (c ≤ k)) false true) 1 0), .ref 162], fset h 162 1 (.int (nI 0)), 198, sl) from by cases (decide (c ≤ k)) <;> rfl] at hh
  have hh : pm_run PT n fr lo 228 (108, [some (.ref 162), some (.int a), some (.int b), some (.int d), some (.int (nI k))], [.int (cond (cond (decide (c ≤ k)) false true) 1 0), .ref 162], fset h 162 1 (.int (nI 0)), 198, sl) = some R := hh
  obtain ⟨n, fr1, lo1, r1, hh1, hh⟩ := rn_call (w := 2) (t := 165) rfl rfl hh
  have er3 := rn_dt (F := 10) (Lo := 1000) (hd_flag (fr := 10) (lo := 1000) (h := fset h 162 1 (.int (nI 0))) (sl := sl) (cond (decide (c ≤ k)) false true)) hh1
  subst er3
  obtain ⟨n, hh⟩ := rn_i rfl rfl rfl rfl hh
  have hh : pm_run PT n fr lo 228 (112, [some (.ref 162), some (.int a), some (.int b), some (.int d), some (.int (nI k))], [.long ((cond (cond (decide (c ≤ k)) false true) 1 0 : Int32).toInt64), .ref 162], fset h 162 1 (.int (nI 0)), 198, sl) = some R := hh
  obtain ⟨n, fr1, lo1, r1, hh1, hh⟩ := rn_call (w := 0) (t := 167) rfl rfl hh
  obtain ⟨er4, hc5, hf6⟩ := v167_ok (v := ((cond (cond (decide (c ≤ k)) false true) 1 0 : Int32).toInt64)) (hc_f rfl rfl (by decide) rfl hw) hh1
  subst er4
  obtain ⟨n, hh⟩ := rn_i rfl rfl rfl rfl hh
  obtain ⟨n, hh⟩ := rn_i rfl rfl rfl rfl hh
  have hh : pm_run PT n fr lo 228 (117, [some (.ref 162), some (.int a), some (.int b), some (.int d), some (.int (nI k))], [.ref 162, .ref 162], v167 q cc gc (fset h 162 1 (.int (nI 0))) ((cond (cond (decide (c ≤ k)) false true) 1 0 : Int32).toInt64), 198, sl) = some R := hh
  obtain ⟨n, hh⟩ := rn_gr hc5.wt rfl rfl (by decide) rfl (by decide) (show _ = some (2, ((170 : Nat) : Int), 1) from rfl) rfl hh
  obtain ⟨n, hh⟩ := rn_i rfl rfl rfl rfl hh
  have hh : pm_run PT n fr lo 228 (122, [some (.ref 162), some (.int a), some (.int b), some (.int d), some (.int (nI k))], [.int (nI 94), .ref 170, .ref 162], v167 q cc gc (fset h 162 1 (.int (nI 0))) ((cond (cond (decide (c ≤ k)) false true) 1 0 : Int32).toInt64), 198, sl) = some R := hh
  obtain ⟨n, hx7, hh⟩ := en_lu (t := 94) (f := Ar h 170) (w := (Ar h 170) 94) (nI_clamp (by omega)) hc5.wt rfl (by decide) rfl (by decide) ((Ar_e (hf6.1 170 rfl)).trans (Ar_f.trans rfl)) (fun _ => rfl) hh
  have hh : pm_run PT n fr lo 228 (123, [some (.ref 162), some (.int a), some (.int b), some (.int d), some (.int (nI k))], [.int ((Ar h 170) 94), .ref 162], v167 q cc gc (fset h 162 1 (.int (nI 0))) ((cond (cond (decide (c ≤ k)) false true) 1 0 : Int32).toInt64), 198, sl) = some R := hh
  obtain ⟨n, fr1, lo1, r1, hh1, hh⟩ := rn_call (w := 2) (t := 270) rfl rfl hh
  have er8 := v270_ok (a := ((Ar h 170) 94)) hc5 hh1
  subst er8
  obtain ⟨n, hh⟩ := rn_i rfl rfl rfl rfl hh
  have hh : pm_run PT n fr lo 228 (127, [some (.ref 162), some (.int a), some (.int b), some (.int d), some (.int (nI k))], [.long ((v270 q cc gc ((Ar h 170) 94)).toInt64), .ref 162], v167 q cc gc (fset h 162 1 (.int (nI 0))) ((cond (cond (decide (c ≤ k)) false true) 1 0 : Int32).toInt64), 198, sl) = some R := hh
  obtain ⟨n, fr1, lo1, r1, hh1, hh⟩ := rn_call (w := 0) (t := 167) rfl rfl hh
  obtain ⟨er9, hc10, hf11⟩ := v167_ok (v := ((v270 q cc gc ((Ar h 170) 94)).toInt64)) hc5 hh1
  subst er9
  obtain ⟨n, hh⟩ := rn_i rfl rfl rfl rfl hh
  have hh : pm_run PT n fr lo 228 (132, [some (.ref 162), some (.int a), some (.int b), some (.int d), some (.int (nI k))], [.int (nI k)], v167 q cc gc (v167 q cc gc (fset h 162 1 (.int (nI 0))) ((cond (cond (decide (c ≤ k)) false true) 1 0 : Int32).toInt64)) ((v270 q cc gc ((Ar h 170) 94)).toInt64), 198, sl) = some R := hh
  obtain ⟨n, hh⟩ := en_zn (cc := .le) (off := 12) (t := 144) (b := decide (k ≤ 0)) (hI_le (b := 0) (by omega) (by omega)) rfl rfl hh
  cases z12 : decide (k ≤ 0) with
  | true =>
    have hh := en_t z12 hh
    have hh : pm_run PT n fr lo 228 (144, [some (.ref 162), some (.int a), some (.int b), some (.int d), some (.int (nI k))], [], v167 q cc gc (v167 q cc gc (fset h 162 1 (.int (nI 0))) ((cond (cond (decide (c ≤ k)) false true) 1 0 : Int32).toInt64)) ((v270 q cc gc ((Ar h 170) 94)).toInt64), 198, sl) = some R := hh
    have y13 := of_decide_eq_true z12
    obtain ⟨n, hh⟩ := rn_i rfl rfl rfl rfl hh
    have hh : pm_run PT n fr lo 228 (145, [some (.ref 162), some (.int a), some (.int b), some (.int d), some (.int (nI k))], [.int (nI 0)], v167 q cc gc (v167 q cc gc (fset h 162 1 (.int (nI 0))) ((cond (cond (decide (c ≤ k)) false true) 1 0 : Int32).toInt64)) ((v270 q cc gc ((Ar h 170) 94)).toInt64), 198, sl) = some R := hh
    have er14 : R = (some (.int (nI 0)), v167 q cc gc (v167 q cc gc (fset h 162 1 (.int (nI 0))) ((cond (cond (decide (c ≤ k)) false true) 1 0 : Int32).toInt64)) ((v270 q cc gc ((Ar h 170) 94)).toInt64), 198, sl) := (rn_ret rfl (Or.inl rfl) hh).2
    have ed : v228e q cc gc h c u a b d k = (nI 0, v167 q cc gc (v167 q cc gc (fset h 162 1 (.int (nI 0))) ((cond (cond (decide (c ≤ k)) false true) 1 0 : Int32).toInt64)) ((v270 q cc gc ((Ar h 170) 94)).toInt64)) := (ct z12).trans rfl
    refine ⟨?_, ?_, ?_⟩ <;> rw [ed]
    · exact er14
    · exact hc10
    · exact (fr_g rfl rfl hf11 (fr_g rfl rfl hf6 (fr_f rfl rfl fr_0)))
  | false =>
    have hh := en_f z12 hh
    have hh : pm_run PT n fr lo 228 (135, [some (.ref 162), some (.int a), some (.int b), some (.int d), some (.int (nI k))], [], v167 q cc gc (v167 q cc gc (fset h 162 1 (.int (nI 0))) ((cond (cond (decide (c ≤ k)) false true) 1 0 : Int32).toInt64)) ((v270 q cc gc ((Ar h 170) 94)).toInt64), 198, sl) = some R := hh
    have y15 := of_decide_eq_false z12
    obtain ⟨n, hh⟩ := rn_i rfl rfl rfl rfl hh
    obtain ⟨n, hh⟩ := rn_i rfl rfl rfl rfl hh
    have hh : pm_run PT n fr lo 228 (138, [some (.ref 162), some (.int a), some (.int b), some (.int d), some (.int (nI k))], [.int (nI k), .ref 162], v167 q cc gc (v167 q cc gc (fset h 162 1 (.int (nI 0))) ((cond (cond (decide (c ≤ k)) false true) 1 0 : Int32).toInt64)) ((v270 q cc gc ((Ar h 170) 94)).toInt64), 198, sl) = some R := hh
    obtain ⟨n, fr1, lo1, r1, hh1, hh⟩ := rn_call (w := 0) (t := 212) rfl rfl hh
    obtain ⟨er16, hc17, hf18⟩ := v212_ok (u := u) (v := (nI k)) hc10 hu ((hf11.2 162 27 (by decide +kernel) rfl).trans ((hf6.2 162 27 (by decide +kernel) rfl).trans ((Fi_n (Or.inr (by decide))).trans e1))) hh1
    subst er16
    obtain ⟨n, hh⟩ := rn_i rfl rfl rfl rfl hh
    have hh : pm_run PT n fr lo 228 (145, [some (.ref 162), some (.int a), some (.int b), some (.int d), some (.int (nI k))], [.int ((v212 q cc gc (v167 q cc gc (v167 q cc gc (fset h 162 1 (.int (nI 0))) ((cond (cond (decide (c ≤ k)) false true) 1 0 : Int32).toInt64)) ((v270 q cc gc ((Ar h 170) 94)).toInt64)) u (nI k)).1)], (v212 q cc gc (v167 q cc gc (v167 q cc gc (fset h 162 1 (.int (nI 0))) ((cond (cond (decide (c ≤ k)) false true) 1 0 : Int32).toInt64)) ((v270 q cc gc ((Ar h 170) 94)).toInt64)) u (nI k)).2, 198, sl) = some R := hh
    have er19 : R = (some (.int ((v212 q cc gc (v167 q cc gc (v167 q cc gc (fset h 162 1 (.int (nI 0))) ((cond (cond (decide (c ≤ k)) false true) 1 0 : Int32).toInt64)) ((v270 q cc gc ((Ar h 170) 94)).toInt64)) u (nI k)).1)), (v212 q cc gc (v167 q cc gc (v167 q cc gc (fset h 162 1 (.int (nI 0))) ((cond (cond (decide (c ≤ k)) false true) 1 0 : Int32).toInt64)) ((v270 q cc gc ((Ar h 170) 94)).toInt64)) u (nI k)).2, 198, sl) := (rn_ret rfl (Or.inl rfl) hh).2
    have ed : v228e q cc gc h c u a b d k = ((v212 q cc gc (v167 q cc gc (v167 q cc gc (fset h 162 1 (.int (nI 0))) ((cond (cond (decide (c ≤ k)) false true) 1 0 : Int32).toInt64)) ((v270 q cc gc ((Ar h 170) 94)).toInt64)) u (nI k)).1, (v212 q cc gc (v167 q cc gc (v167 q cc gc (fset h 162 1 (.int (nI 0))) ((cond (cond (decide (c ≤ k)) false true) 1 0 : Int32).toInt64)) ((v270 q cc gc ((Ar h 170) 94)).toInt64)) u (nI k)).2) := (cf z12).trans rfl
    refine ⟨?_, ?_, ?_⟩ <;> rw [ed]
    · exact er19
    · exact hc17
    · exact (fr_g rfl rfl hf18 (fr_g rfl rfl hf11 (fr_g rfl rfl hf6 (fr_f rfl rfl fr_0))))
def v141s (q : QT) (cc gc : Nat) (h : pm_H) (p : Nat) (n0 : Nat) (a : Nat) (b : Nat) : Bool × pm_H := ((v142 q cc gc h a b).1, (v142 q cc gc h a b).2)
theorem v141s_ok {n fr lo sl cc gc : Nat} {q : QT} {h : pm_H} {R : pm_Rs} {p : Nat} {n0 : Nat} {a : Nat} {b : Nat} (hw : HC q cc gc h) (h_p : p < 100) (hn : n0 ≤ 80) (px : pX h n0 cc (Ar h 2)) (hs : sgA (Ar h 2) n0 p 60 = nI 115) (hd1 : dgA (Ar h 2) n0 (p + 1) 60 = nI a) (ha : a < 10) (hd2 : dgA (Ar h 2) n0 (p + 2) 60 = nI b) (hb : b < 10) (hol : NA h 17 0 8 6) (hh : pm_run PT n fr lo 141 (0, pm_l0 [.ref 0, .int (nI p)] 5, [], h, 198, sl) = some R) : R = (some (.int (cond (v141s q cc gc h p n0 a b).1 1 0)), (v141s q cc gc h p n0 a b).2, 198, sl) ∧ HC q cc gc ((v141s q cc gc h p n0 a b).2) ∧ frm [12, 15, 16, 17, 18, 142, 144, 145, 147] [(142, 3), (145, 3)] h ((v141s q cc gc h p n0 a b).2) := by
  have hcc := hw.cb
  have hgc := hw.gb
  have hzr := hw.zr
  obtain ⟨n, hh⟩ := rn_i rfl rfl rfl rfl hh
  have hh : pm_run PT n fr lo 141 (1, [some (.ref 0), some (.int (nI p)), none, none, none], [.ref 0], h, 198, sl) = some R := hh
  obtain ⟨n, hh⟩ := rn_gr hw.wt rfl rfl (by decide) rfl (by decide) (show _ = some (2, ((1 : Nat) : Int), 1) from rfl) rfl hh
  obtain ⟨n, hh⟩ := rn_i rfl rfl rfl rfl hh
  obtain ⟨n, hh⟩ := rn_i rfl rfl rfl rfl hh
  have hh : pm_run PT n fr lo 141 (6, [some (.ref 0), some (.int (nI p)), none, none, none], [.int (nI 1), .int (nI p), .ref 1], h, 198, sl) = some R := hh
  obtain ⟨n, hh⟩ := en_add rfl hh
  have hh : pm_run PT n fr lo 141 (7, [some (.ref 0), some (.int (nI p)), none, none, none], [.int (nI (p + 1)), .ref 1], h, 198, sl) = some R := hh
  obtain ⟨n, hh⟩ := rn_i rfl rfl rfl rfl hh
  have hh : pm_run PT n fr lo 141 (9, [some (.ref 0), some (.int (nI p)), none, none, none], [.int (nI 60), .int (nI (p + 1)), .ref 1], h, 198, sl) = some R := hh
  obtain ⟨n, fr1, lo1, r1, hh1, hh⟩ := rn_call (w := 0) (t := 81) rfl rfl hh
  have er1 := dgA_run (n0 := n0) (l := 60) (p := p + 1) hn (by decide) (by omega) px hh1
  rw [hd1] at er1
  subst er1
  obtain ⟨n, hh⟩ := rn_i rfl rfl rfl rfl hh
  obtain ⟨n, hh⟩ := rn_i rfl rfl rfl rfl hh
  have hh : pm_run PT n fr lo 141 (14, [some (.ref 0), some (.int (nI p)), some (.int (nI a)), none, none], [.ref 0], h, 198, sl) = some R := hh
  obtain ⟨n, hh⟩ := rn_gr hw.wt rfl rfl (by decide) rfl (by decide) (show _ = some (2, ((1 : Nat) : Int), 1) from rfl) rfl hh
  obtain ⟨n, hh⟩ := rn_i rfl rfl rfl rfl hh
  obtain ⟨n, hh⟩ := rn_i rfl rfl rfl rfl hh
  have hh : pm_run PT n fr lo 141 (19, [some (.ref 0), some (.int (nI p)), some (.int (nI a)), none, none], [.int (nI 2), .int (nI p), .ref 1], h, 198, sl) = some R := hh
  obtain ⟨n, hh⟩ := en_add rfl hh
  have hh : pm_run PT n fr lo 141 (20, [some (.ref 0), some (.int (nI p)), some (.int (nI a)), none, none], [.int (nI (p + 2)), .ref 1], h, 198, sl) = some R := hh
  obtain ⟨n, hh⟩ := rn_i rfl rfl rfl rfl hh
  have hh : pm_run PT n fr lo 141 (22, [some (.ref 0), some (.int (nI p)), some (.int (nI a)), none, none], [.int (nI 60), .int (nI (p + 2)), .ref 1], h, 198, sl) = some R := hh
  obtain ⟨n, fr1, lo1, r1, hh1, hh⟩ := rn_call (w := 0) (t := 81) rfl rfl hh
  have er2 := dgA_run (n0 := n0) (l := 60) (p := p + 2) hn (by decide) (by omega) px hh1
  rw [hd2] at er2
  subst er2
  obtain ⟨n, hh⟩ := rn_i rfl rfl rfl rfl hh
  obtain ⟨n, hh⟩ := rn_i rfl rfl rfl rfl hh
  have hh : pm_run PT n fr lo 141 (27, [some (.ref 0), some (.int (nI p)), some (.int (nI a)), some (.int (nI b)), none], [.ref 0], h, 198, sl) = some R := hh
  obtain ⟨n, hh⟩ := rn_gr hw.wt rfl rfl (by decide) rfl (by decide) (show _ = some (2, ((1 : Nat) : Int), 1) from rfl) rfl hh
  obtain ⟨n, hh⟩ := rn_i rfl rfl rfl rfl hh
  obtain ⟨n, hh⟩ := rn_i rfl rfl rfl rfl hh
  have hh : pm_run PT n fr lo 141 (32, [some (.ref 0), some (.int (nI p)), some (.int (nI a)), some (.int (nI b)), none], [.int (nI 3), .int (nI p), .ref 1], h, 198, sl) = some R := hh
  obtain ⟨n, hh⟩ := en_add rfl hh
  have hh : pm_run PT n fr lo 141 (33, [some (.ref 0), some (.int (nI p)), some (.int (nI a)), some (.int (nI b)), none], [.int (nI (p + 3)), .ref 1], h, 198, sl) = some R := hh
  obtain ⟨n, hh⟩ := rn_i rfl rfl rfl rfl hh
  have hh : pm_run PT n fr lo 141 (35, [some (.ref 0), some (.int (nI p)), some (.int (nI a)), some (.int (nI b)), none], [.int (nI 60), .int (nI (p + 3)), .ref 1], h, 198, sl) = some R := hh
  obtain ⟨n, fr1, lo1, r1, hh1, hh⟩ := rn_call (w := 0) (t := 81) rfl rfl hh
  have er3 := dgA_run (n0 := n0) (l := 60) (p := p + 3) hn (by decide) (by omega) px hh1
  subst er3
  obtain ⟨n, hh⟩ := rn_i rfl rfl rfl rfl hh
  obtain ⟨n, hh⟩ := rn_i rfl rfl rfl rfl hh
  have hh : pm_run PT n fr lo 141 (41, [some (.ref 0), some (.int (nI p)), some (.int (nI a)), some (.int (nI b)), some (.int (dgA (Ar h 2) n0 (p + 3) 60))], [.ref 0], h, 198, sl) = some R := hh
  obtain ⟨n, hh⟩ := rn_gr hw.wt rfl rfl (by decide) rfl (by decide) (show _ = some (2, ((1 : Nat) : Int), 1) from rfl) rfl hh
  obtain ⟨n, hh⟩ := rn_i rfl rfl rfl rfl hh
  obtain ⟨n, hh⟩ := rn_i rfl rfl rfl rfl hh
  have hh : pm_run PT n fr lo 141 (47, [some (.ref 0), some (.int (nI p)), some (.int (nI a)), some (.int (nI b)), some (.int (dgA (Ar h 2) n0 (p + 3) 60))], [.int (nI 60), .int (nI p), .ref 1], h, 198, sl) = some R := hh
  obtain ⟨n, fr1, lo1, r1, hh1, hh⟩ := rn_call (w := 0) (t := 80) rfl rfl hh
  have er4 := sgA_run (n0 := n0) (l := 60) (p := p) hn (by decide) (by omega) px hh1
  rw [hs] at er4
  subst er4
  have hh : pm_run PT n fr lo 141 (50, [some (.ref 0), some (.int (nI p)), some (.int (nI a)), some (.int (nI b)), some (.int (dgA (Ar h 2) n0 (p + 3) 60))], [.int (nI 115)], h, 198, sl) = some R := hh
  obtain ⟨n, hh⟩ := rn_i rfl rfl rfl rfl hh
  have hh : pm_run PT n fr lo 141 (120, [some (.ref 0), some (.int (nI p)), some (.int (nI a)), some (.int (nI b)), some (.int (dgA (Ar h 2) n0 (p + 3) 60))], [], h, 198, sl) = some R := hh
  obtain ⟨n, hh⟩ := rn_i rfl rfl rfl rfl hh
  obtain ⟨n, hh⟩ := rn_i rfl rfl rfl rfl hh
  obtain ⟨n, hh⟩ := rn_i rfl rfl rfl rfl hh
  have hh : pm_run PT n fr lo 141 (123, [some (.ref 0), some (.int (nI p)), some (.int (nI a)), some (.int (nI b)), some (.int (dgA (Ar h 2) n0 (p + 3) 60))], [.int (nI b), .int (nI a), .ref 0], h, 198, sl) = some R := hh
  obtain ⟨n, fr1, lo1, r1, hh1, hh⟩ := rn_call (w := 0) (t := 142) rfl rfl hh
  obtain ⟨er5, hc6, hf7⟩ := v142_ok (g := a) (c := b) hw (by omega) (by omega) hol hh1
  subst er5
  have hh : pm_run PT n fr lo 141 (126, [some (.ref 0), some (.int (nI p)), some (.int (nI a)), some (.int (nI b)), some (.int (dgA (Ar h 2) n0 (p + 3) 60))], [.int (cond ((v142 q cc gc h a b).1) 1 0)], (v142 q cc gc h a b).2, 198, sl) = some R := hh
  have er8 : R = (some (.int (cond ((v142 q cc gc h a b).1) 1 0)), (v142 q cc gc h a b).2, 198, sl) := (rn_ret rfl (Or.inr rfl) hh).2
  have ed : v141s q cc gc h p n0 a b = ((v142 q cc gc h a b).1, (v142 q cc gc h a b).2) := rfl
  refine ⟨?_, ?_, ?_⟩ <;> rw [ed]
  · exact er8
  · exact hc6
  · exact (fr_g rfl rfl hf7 fr_0)
def v141m (q : QT) (cc gc : Nat) (h : pm_H) (p : Nat) (n0 : Nat) (a : Nat) : Bool × pm_H := (true, v140 q cc gc h a)
theorem v141m_ok {n fr lo sl cc gc : Nat} {q : QT} {h : pm_H} {R : pm_Rs} {p : Nat} {n0 : Nat} {a : Nat} (hw : HC q cc gc h) (h_p : p < 100) (hn : n0 ≤ 80) (px : pX h n0 cc (Ar h 2)) (hs : sgA (Ar h 2) n0 p 60 = nI 109) (hd1 : dgA (Ar h 2) n0 (p + 1) 60 = nI a) (ha : a < 10) (hol : NA h 17 0 8 6) (hh : pm_run PT n fr lo 141 (0, pm_l0 [.ref 0, .int (nI p)] 5, [], h, 198, sl) = some R) : R = (some (.int (cond (v141m q cc gc h p n0 a).1 1 0)), (v141m q cc gc h p n0 a).2, 198, sl) ∧ HC q cc gc ((v141m q cc gc h p n0 a).2) ∧ frm [13, 14] [(13, 5), (13, 6)] h ((v141m q cc gc h p n0 a).2) := by
  have hcc := hw.cb
  have hgc := hw.gb
  have hzr := hw.zr
  obtain ⟨n, hh⟩ := rn_i rfl rfl rfl rfl hh
  have hh : pm_run PT n fr lo 141 (1, [some (.ref 0), some (.int (nI p)), none, none, none], [.ref 0], h, 198, sl) = some R := hh
  obtain ⟨n, hh⟩ := rn_gr hw.wt rfl rfl (by decide) rfl (by decide) (show _ = some (2, ((1 : Nat) : Int), 1) from rfl) rfl hh
  obtain ⟨n, hh⟩ := rn_i rfl rfl rfl rfl hh
  obtain ⟨n, hh⟩ := rn_i rfl rfl rfl rfl hh
  have hh : pm_run PT n fr lo 141 (6, [some (.ref 0), some (.int (nI p)), none, none, none], [.int (nI 1), .int (nI p), .ref 1], h, 198, sl) = some R := hh
  obtain ⟨n, hh⟩ := en_add rfl hh
  have hh : pm_run PT n fr lo 141 (7, [some (.ref 0), some (.int (nI p)), none, none, none], [.int (nI (p + 1)), .ref 1], h, 198, sl) = some R := hh
  obtain ⟨n, hh⟩ := rn_i rfl rfl rfl rfl hh
  have hh : pm_run PT n fr lo 141 (9, [some (.ref 0), some (.int (nI p)), none, none, none], [.int (nI 60), .int (nI (p + 1)), .ref 1], h, 198, sl) = some R := hh
  obtain ⟨n, fr1, lo1, r1, hh1, hh⟩ := rn_call (w := 0) (t := 81) rfl rfl hh
  have er1 := dgA_run (n0 := n0) (l := 60) (p := p + 1) hn (by decide) (by omega) px hh1
  rw [hd1] at er1
  subst er1
  obtain ⟨n, hh⟩ := rn_i rfl rfl rfl rfl hh
  obtain ⟨n, hh⟩ := rn_i rfl rfl rfl rfl hh
  have hh : pm_run PT n fr lo 141 (14, [some (.ref 0), some (.int (nI p)), some (.int (nI a)), none, none], [.ref 0], h, 198, sl) = some R := hh
  obtain ⟨n, hh⟩ := rn_gr hw.wt rfl rfl (by decide) rfl (by decide) (show _ = some (2, ((1 : Nat) : Int), 1) from rfl) rfl hh
  obtain ⟨n, hh⟩ := rn_i rfl rfl rfl rfl hh
  obtain ⟨n, hh⟩ := rn_i rfl rfl rfl rfl hh
  have hh : pm_run PT n fr lo 141 (19, [some (.ref 0), some (.int (nI p)), some (.int (nI a)), none, none], [.int (nI 2), .int (nI p), .ref 1], h, 198, sl) = some R := hh
  obtain ⟨n, hh⟩ := en_add rfl hh
  have hh : pm_run PT n fr lo 141 (20, [some (.ref 0), some (.int (nI p)), some (.int (nI a)), none, none], [.int (nI (p + 2)), .ref 1], h, 198, sl) = some R := hh
  obtain ⟨n, hh⟩ := rn_i rfl rfl rfl rfl hh
  have hh : pm_run PT n fr lo 141 (22, [some (.ref 0), some (.int (nI p)), some (.int (nI a)), none, none], [.int (nI 60), .int (nI (p + 2)), .ref 1], h, 198, sl) = some R := hh
  obtain ⟨n, fr1, lo1, r1, hh1, hh⟩ := rn_call (w := 0) (t := 81) rfl rfl hh
  have er2 := dgA_run (n0 := n0) (l := 60) (p := p + 2) hn (by decide) (by omega) px hh1
  subst er2
  obtain ⟨n, hh⟩ := rn_i rfl rfl rfl rfl hh
  obtain ⟨n, hh⟩ := rn_i rfl rfl rfl rfl hh
  have hh : pm_run PT n fr lo 141 (27, [some (.ref 0), some (.int (nI p)), some (.int (nI a)), some (.int (dgA (Ar h 2) n0 (p + 2) 60)), none], [.ref 0], h, 198, sl) = some R := hh
  obtain ⟨n, hh⟩ := rn_gr hw.wt rfl rfl (by decide) rfl (by decide) (show _ = some (2, ((1 : Nat) : Int), 1) from rfl) rfl hh
  obtain ⟨n, hh⟩ := rn_i rfl rfl rfl rfl hh
  obtain ⟨n, hh⟩ := rn_i rfl rfl rfl rfl hh
  have hh : pm_run PT n fr lo 141 (32, [some (.ref 0), some (.int (nI p)), some (.int (nI a)), some (.int (dgA (Ar h 2) n0 (p + 2) 60)), none], [.int (nI 3), .int (nI p), .ref 1], h, 198, sl) = some R := hh
  obtain ⟨n, hh⟩ := en_add rfl hh
  have hh : pm_run PT n fr lo 141 (33, [some (.ref 0), some (.int (nI p)), some (.int (nI a)), some (.int (dgA (Ar h 2) n0 (p + 2) 60)), none], [.int (nI (p + 3)), .ref 1], h, 198, sl) = some R := hh
  obtain ⟨n, hh⟩ := rn_i rfl rfl rfl rfl hh
  have hh : pm_run PT n fr lo 141 (35, [some (.ref 0), some (.int (nI p)), some (.int (nI a)), some (.int (dgA (Ar h 2) n0 (p + 2) 60)), none], [.int (nI 60), .int (nI (p + 3)), .ref 1], h, 198, sl) = some R := hh
  obtain ⟨n, fr1, lo1, r1, hh1, hh⟩ := rn_call (w := 0) (t := 81) rfl rfl hh
  have er3 := dgA_run (n0 := n0) (l := 60) (p := p + 3) hn (by decide) (by omega) px hh1
  subst er3
  obtain ⟨n, hh⟩ := rn_i rfl rfl rfl rfl hh
  obtain ⟨n, hh⟩ := rn_i rfl rfl rfl rfl hh
  have hh : pm_run PT n fr lo 141 (41, [some (.ref 0), some (.int (nI p)), some (.int (nI a)), some (.int (dgA (Ar h 2) n0 (p + 2) 60)), some (.int (dgA (Ar h 2) n0 (p + 3) 60))], [.ref 0], h, 198, sl) = some R := hh
  obtain ⟨n, hh⟩ := rn_gr hw.wt rfl rfl (by decide) rfl (by decide) (show _ = some (2, ((1 : Nat) : Int), 1) from rfl) rfl hh
  obtain ⟨n, hh⟩ := rn_i rfl rfl rfl rfl hh
  obtain ⟨n, hh⟩ := rn_i rfl rfl rfl rfl hh
  have hh : pm_run PT n fr lo 141 (47, [some (.ref 0), some (.int (nI p)), some (.int (nI a)), some (.int (dgA (Ar h 2) n0 (p + 2) 60)), some (.int (dgA (Ar h 2) n0 (p + 3) 60))], [.int (nI 60), .int (nI p), .ref 1], h, 198, sl) = some R := hh
  obtain ⟨n, fr1, lo1, r1, hh1, hh⟩ := rn_call (w := 0) (t := 80) rfl rfl hh
  have er4 := sgA_run (n0 := n0) (l := 60) (p := p) hn (by decide) (by omega) px hh1
  rw [hs] at er4
  subst er4
  have hh : pm_run PT n fr lo 141 (50, [some (.ref 0), some (.int (nI p)), some (.int (nI a)), some (.int (dgA (Ar h 2) n0 (p + 2) 60)), some (.int (dgA (Ar h 2) n0 (p + 3) 60))], [.int (nI 109)], h, 198, sl) = some R := hh
  obtain ⟨n, hh⟩ := rn_i rfl rfl rfl rfl hh
  have hh : pm_run PT n fr lo 141 (127, [some (.ref 0), some (.int (nI p)), some (.int (nI a)), some (.int (dgA (Ar h 2) n0 (p + 2) 60)), some (.int (dgA (Ar h 2) n0 (p + 3) 60))], [], h, 198, sl) = some R := hh
  obtain ⟨n, hh⟩ := rn_i rfl rfl rfl rfl hh
  obtain ⟨n, hh⟩ := rn_i rfl rfl rfl rfl hh
  have hh : pm_run PT n fr lo 141 (129, [some (.ref 0), some (.int (nI p)), some (.int (nI a)), some (.int (dgA (Ar h 2) n0 (p + 2) 60)), some (.int (dgA (Ar h 2) n0 (p + 3) 60))], [.int (nI a), .ref 0], h, 198, sl) = some R := hh
  obtain ⟨n, fr1, lo1, r1, hh1, hh⟩ := rn_call (w := 0) (t := 140) rfl rfl hh
  obtain ⟨er5, hc6, hf7⟩ := v140_ok (m := a) hw (by omega) hh1
  subst er5
  obtain ⟨n, hh⟩ := rn_i rfl rfl rfl rfl hh
  have hh : pm_run PT n fr lo 141 (133, [some (.ref 0), some (.int (nI p)), some (.int (nI a)), some (.int (dgA (Ar h 2) n0 (p + 2) 60)), some (.int (dgA (Ar h 2) n0 (p + 3) 60))], [.int (nI 1)], v140 q cc gc h a, 198, sl) = some R := hh
  have er8 : R = (some (.int (nI 1)), v140 q cc gc h a, 198, sl) := (rn_ret rfl (Or.inr rfl) hh).2
  have ed : v141m q cc gc h p n0 a = (true, v140 q cc gc h a) := rfl
  refine ⟨?_, ?_, ?_⟩ <;> rw [ed]
  · exact er8
  · exact hc6
  · exact (fr_g rfl rfl hf7 fr_0)
def v141f (q : QT) (cc gc : Nat) (h : pm_H) (p : Nat) (n0 : Nat) (a : Nat) (b : Nat) : Bool × pm_H := ((v143 q cc gc h a b).1, (v143 q cc gc h a b).2)
theorem v141f_ok {n fr lo sl cc gc : Nat} {q : QT} {h : pm_H} {R : pm_Rs} {p : Nat} {n0 : Nat} {a : Nat} {b : Nat} (hw : HC q cc gc h) (h_p : p < 100) (hn : n0 ≤ 80) (px : pX h n0 cc (Ar h 2)) (hs : sgA (Ar h 2) n0 p 60 = nI 102) (hd1 : dgA (Ar h 2) n0 (p + 1) 60 = nI a) (ha : a < 10) (hd2 : dgA (Ar h 2) n0 (p + 2) 60 = nI b) (hb : b < 10) (hol : NA h 17 0 8 6) (hh : pm_run PT n fr lo 141 (0, pm_l0 [.ref 0, .int (nI p)] 5, [], h, 198, sl) = some R) : R = (some (.int (cond (v141f q cc gc h p n0 a b).1 1 0)), (v141f q cc gc h p n0 a b).2, 198, sl) ∧ HC q cc gc ((v141f q cc gc h p n0 a b).2) ∧ frm [16] [] h ((v141f q cc gc h p n0 a b).2) := by
  have hcc := hw.cb
  have hgc := hw.gb
  have hzr := hw.zr
  obtain ⟨n, hh⟩ := rn_i rfl rfl rfl rfl hh
  have hh : pm_run PT n fr lo 141 (1, [some (.ref 0), some (.int (nI p)), none, none, none], [.ref 0], h, 198, sl) = some R := hh
  obtain ⟨n, hh⟩ := rn_gr hw.wt rfl rfl (by decide) rfl (by decide) (show _ = some (2, ((1 : Nat) : Int), 1) from rfl) rfl hh
  obtain ⟨n, hh⟩ := rn_i rfl rfl rfl rfl hh
  obtain ⟨n, hh⟩ := rn_i rfl rfl rfl rfl hh
  have hh : pm_run PT n fr lo 141 (6, [some (.ref 0), some (.int (nI p)), none, none, none], [.int (nI 1), .int (nI p), .ref 1], h, 198, sl) = some R := hh
  obtain ⟨n, hh⟩ := en_add rfl hh
  have hh : pm_run PT n fr lo 141 (7, [some (.ref 0), some (.int (nI p)), none, none, none], [.int (nI (p + 1)), .ref 1], h, 198, sl) = some R := hh
  obtain ⟨n, hh⟩ := rn_i rfl rfl rfl rfl hh
  have hh : pm_run PT n fr lo 141 (9, [some (.ref 0), some (.int (nI p)), none, none, none], [.int (nI 60), .int (nI (p + 1)), .ref 1], h, 198, sl) = some R := hh
  obtain ⟨n, fr1, lo1, r1, hh1, hh⟩ := rn_call (w := 0) (t := 81) rfl rfl hh
  have er1 := dgA_run (n0 := n0) (l := 60) (p := p + 1) hn (by decide) (by omega) px hh1
  rw [hd1] at er1
  subst er1
  obtain ⟨n, hh⟩ := rn_i rfl rfl rfl rfl hh
  obtain ⟨n, hh⟩ := rn_i rfl rfl rfl rfl hh
  have hh : pm_run PT n fr lo 141 (14, [some (.ref 0), some (.int (nI p)), some (.int (nI a)), none, none], [.ref 0], h, 198, sl) = some R := hh
  obtain ⟨n, hh⟩ := rn_gr hw.wt rfl rfl (by decide) rfl (by decide) (show _ = some (2, ((1 : Nat) : Int), 1) from rfl) rfl hh
  obtain ⟨n, hh⟩ := rn_i rfl rfl rfl rfl hh
  obtain ⟨n, hh⟩ := rn_i rfl rfl rfl rfl hh
  have hh : pm_run PT n fr lo 141 (19, [some (.ref 0), some (.int (nI p)), some (.int (nI a)), none, none], [.int (nI 2), .int (nI p), .ref 1], h, 198, sl) = some R := hh
  obtain ⟨n, hh⟩ := en_add rfl hh
  have hh : pm_run PT n fr lo 141 (20, [some (.ref 0), some (.int (nI p)), some (.int (nI a)), none, none], [.int (nI (p + 2)), .ref 1], h, 198, sl) = some R := hh
  obtain ⟨n, hh⟩ := rn_i rfl rfl rfl rfl hh
  have hh : pm_run PT n fr lo 141 (22, [some (.ref 0), some (.int (nI p)), some (.int (nI a)), none, none], [.int (nI 60), .int (nI (p + 2)), .ref 1], h, 198, sl) = some R := hh
  obtain ⟨n, fr1, lo1, r1, hh1, hh⟩ := rn_call (w := 0) (t := 81) rfl rfl hh
  have er2 := dgA_run (n0 := n0) (l := 60) (p := p + 2) hn (by decide) (by omega) px hh1
  rw [hd2] at er2
  subst er2
  obtain ⟨n, hh⟩ := rn_i rfl rfl rfl rfl hh
  obtain ⟨n, hh⟩ := rn_i rfl rfl rfl rfl hh
  have hh : pm_run PT n fr lo 141 (27, [some (.ref 0), some (.int (nI p)), some (.int (nI a)), some (.int (nI b)), none], [.ref 0], h, 198, sl) = some R := hh
  obtain ⟨n, hh⟩ := rn_gr hw.wt rfl rfl (by decide) rfl (by decide) (show _ = some (2, ((1 : Nat) : Int), 1) from rfl) rfl hh
  obtain ⟨n, hh⟩ := rn_i rfl rfl rfl rfl hh
  obtain ⟨n, hh⟩ := rn_i rfl rfl rfl rfl hh
  have hh : pm_run PT n fr lo 141 (32, [some (.ref 0), some (.int (nI p)), some (.int (nI a)), some (.int (nI b)), none], [.int (nI 3), .int (nI p), .ref 1], h, 198, sl) = some R := hh
  obtain ⟨n, hh⟩ := en_add rfl hh
  have hh : pm_run PT n fr lo 141 (33, [some (.ref 0), some (.int (nI p)), some (.int (nI a)), some (.int (nI b)), none], [.int (nI (p + 3)), .ref 1], h, 198, sl) = some R := hh
  obtain ⟨n, hh⟩ := rn_i rfl rfl rfl rfl hh
  have hh : pm_run PT n fr lo 141 (35, [some (.ref 0), some (.int (nI p)), some (.int (nI a)), some (.int (nI b)), none], [.int (nI 60), .int (nI (p + 3)), .ref 1], h, 198, sl) = some R := hh
  obtain ⟨n, fr1, lo1, r1, hh1, hh⟩ := rn_call (w := 0) (t := 81) rfl rfl hh
  have er3 := dgA_run (n0 := n0) (l := 60) (p := p + 3) hn (by decide) (by omega) px hh1
  subst er3
  obtain ⟨n, hh⟩ := rn_i rfl rfl rfl rfl hh
  obtain ⟨n, hh⟩ := rn_i rfl rfl rfl rfl hh
  have hh : pm_run PT n fr lo 141 (41, [some (.ref 0), some (.int (nI p)), some (.int (nI a)), some (.int (nI b)), some (.int (dgA (Ar h 2) n0 (p + 3) 60))], [.ref 0], h, 198, sl) = some R := hh
  obtain ⟨n, hh⟩ := rn_gr hw.wt rfl rfl (by decide) rfl (by decide) (show _ = some (2, ((1 : Nat) : Int), 1) from rfl) rfl hh
  obtain ⟨n, hh⟩ := rn_i rfl rfl rfl rfl hh
  obtain ⟨n, hh⟩ := rn_i rfl rfl rfl rfl hh
  have hh : pm_run PT n fr lo 141 (47, [some (.ref 0), some (.int (nI p)), some (.int (nI a)), some (.int (nI b)), some (.int (dgA (Ar h 2) n0 (p + 3) 60))], [.int (nI 60), .int (nI p), .ref 1], h, 198, sl) = some R := hh
  obtain ⟨n, fr1, lo1, r1, hh1, hh⟩ := rn_call (w := 0) (t := 80) rfl rfl hh
  have er4 := sgA_run (n0 := n0) (l := 60) (p := p) hn (by decide) (by omega) px hh1
  rw [hs] at er4
  subst er4
  have hh : pm_run PT n fr lo 141 (50, [some (.ref 0), some (.int (nI p)), some (.int (nI a)), some (.int (nI b)), some (.int (dgA (Ar h 2) n0 (p + 3) 60))], [.int (nI 102)], h, 198, sl) = some R := hh
  obtain ⟨n, hh⟩ := rn_i rfl rfl rfl rfl hh
  have hh : pm_run PT n fr lo 141 (134, [some (.ref 0), some (.int (nI p)), some (.int (nI a)), some (.int (nI b)), some (.int (dgA (Ar h 2) n0 (p + 3) 60))], [], h, 198, sl) = some R := hh
  obtain ⟨n, hh⟩ := rn_i rfl rfl rfl rfl hh
  obtain ⟨n, hh⟩ := rn_i rfl rfl rfl rfl hh
  obtain ⟨n, hh⟩ := rn_i rfl rfl rfl rfl hh
  have hh : pm_run PT n fr lo 141 (137, [some (.ref 0), some (.int (nI p)), some (.int (nI a)), some (.int (nI b)), some (.int (dgA (Ar h 2) n0 (p + 3) 60))], [.int (nI b), .int (nI a), .ref 0], h, 198, sl) = some R := hh
  obtain ⟨n, fr1, lo1, r1, hh1, hh⟩ := rn_call (w := 0) (t := 143) rfl rfl hh
  obtain ⟨er5, hc6, hf7⟩ := v143_ok (a := a) (b := b) hw (by omega) (by omega) hh1
  subst er5
  have hh : pm_run PT n fr lo 141 (140, [some (.ref 0), some (.int (nI p)), some (.int (nI a)), some (.int (nI b)), some (.int (dgA (Ar h 2) n0 (p + 3) 60))], [.int (cond ((v143 q cc gc h a b).1) 1 0)], (v143 q cc gc h a b).2, 198, sl) = some R := hh
  have er8 : R = (some (.int (cond ((v143 q cc gc h a b).1) 1 0)), (v143 q cc gc h a b).2, 198, sl) := (rn_ret rfl (Or.inr rfl) hh).2
  have ed : v141f q cc gc h p n0 a b = ((v143 q cc gc h a b).1, (v143 q cc gc h a b).2) := rfl
  refine ⟨?_, ?_, ?_⟩ <;> rw [ed]
  · exact er8
  · exact hc6
  · exact (fr_g rfl rfl hf7 fr_0)
def v141p (q : QT) (cc gc : Nat) (h : pm_H) (p : Nat) (n0 : Nat) (a : Nat) (b : Nat) : Bool × pm_H := ((v144 q cc gc h a b (dgA (Ar h 2) n0 (p + 3) 60)).1, (v144 q cc gc h a b (dgA (Ar h 2) n0 (p + 3) 60)).2)
theorem v141p_ok {n fr lo sl cc gc : Nat} {q : QT} {h : pm_H} {R : pm_Rs} {p : Nat} {n0 : Nat} {a : Nat} {b : Nat} (hw : HC q cc gc h) (h_p : p < 100) (hn : n0 ≤ 80) (px : pX h n0 cc (Ar h 2)) (hs : sgA (Ar h 2) n0 p 60 = nI 112) (hd1 : dgA (Ar h 2) n0 (p + 1) 60 = nI a) (ha : a < 10) (hd2 : dgA (Ar h 2) n0 (p + 2) 60 = nI b) (hb : b < 10) (hol : NA h 17 0 8 6) (hh : pm_run PT n fr lo 141 (0, pm_l0 [.ref 0, .int (nI p)] 5, [], h, 198, sl) = some R) : R = (some (.int (cond (v141p q cc gc h p n0 a b).1 1 0)), (v141p q cc gc h p n0 a b).2, 198, sl) ∧ HC q cc gc ((v141p q cc gc h p n0 a b).2) ∧ frm [15] [] h ((v141p q cc gc h p n0 a b).2) := by
  have hcc := hw.cb
  have hgc := hw.gb
  have hzr := hw.zr
  obtain ⟨n, hh⟩ := rn_i rfl rfl rfl rfl hh
  have hh : pm_run PT n fr lo 141 (1, [some (.ref 0), some (.int (nI p)), none, none, none], [.ref 0], h, 198, sl) = some R := hh
  obtain ⟨n, hh⟩ := rn_gr hw.wt rfl rfl (by decide) rfl (by decide) (show _ = some (2, ((1 : Nat) : Int), 1) from rfl) rfl hh
  obtain ⟨n, hh⟩ := rn_i rfl rfl rfl rfl hh
  obtain ⟨n, hh⟩ := rn_i rfl rfl rfl rfl hh
  have hh : pm_run PT n fr lo 141 (6, [some (.ref 0), some (.int (nI p)), none, none, none], [.int (nI 1), .int (nI p), .ref 1], h, 198, sl) = some R := hh
  obtain ⟨n, hh⟩ := en_add rfl hh
  have hh : pm_run PT n fr lo 141 (7, [some (.ref 0), some (.int (nI p)), none, none, none], [.int (nI (p + 1)), .ref 1], h, 198, sl) = some R := hh
  obtain ⟨n, hh⟩ := rn_i rfl rfl rfl rfl hh
  have hh : pm_run PT n fr lo 141 (9, [some (.ref 0), some (.int (nI p)), none, none, none], [.int (nI 60), .int (nI (p + 1)), .ref 1], h, 198, sl) = some R := hh
  obtain ⟨n, fr1, lo1, r1, hh1, hh⟩ := rn_call (w := 0) (t := 81) rfl rfl hh
  have er1 := dgA_run (n0 := n0) (l := 60) (p := p + 1) hn (by decide) (by omega) px hh1
  rw [hd1] at er1
  subst er1
  obtain ⟨n, hh⟩ := rn_i rfl rfl rfl rfl hh
  obtain ⟨n, hh⟩ := rn_i rfl rfl rfl rfl hh
  have hh : pm_run PT n fr lo 141 (14, [some (.ref 0), some (.int (nI p)), some (.int (nI a)), none, none], [.ref 0], h, 198, sl) = some R := hh
  obtain ⟨n, hh⟩ := rn_gr hw.wt rfl rfl (by decide) rfl (by decide) (show _ = some (2, ((1 : Nat) : Int), 1) from rfl) rfl hh
  obtain ⟨n, hh⟩ := rn_i rfl rfl rfl rfl hh
  obtain ⟨n, hh⟩ := rn_i rfl rfl rfl rfl hh
  have hh : pm_run PT n fr lo 141 (19, [some (.ref 0), some (.int (nI p)), some (.int (nI a)), none, none], [.int (nI 2), .int (nI p), .ref 1], h, 198, sl) = some R := hh
  obtain ⟨n, hh⟩ := en_add rfl hh
  have hh : pm_run PT n fr lo 141 (20, [some (.ref 0), some (.int (nI p)), some (.int (nI a)), none, none], [.int (nI (p + 2)), .ref 1], h, 198, sl) = some R := hh
  obtain ⟨n, hh⟩ := rn_i rfl rfl rfl rfl hh
  have hh : pm_run PT n fr lo 141 (22, [some (.ref 0), some (.int (nI p)), some (.int (nI a)), none, none], [.int (nI 60), .int (nI (p + 2)), .ref 1], h, 198, sl) = some R := hh
  obtain ⟨n, fr1, lo1, r1, hh1, hh⟩ := rn_call (w := 0) (t := 81) rfl rfl hh
  have er2 := dgA_run (n0 := n0) (l := 60) (p := p + 2) hn (by decide) (by omega) px hh1
  rw [hd2] at er2
  subst er2
  obtain ⟨n, hh⟩ := rn_i rfl rfl rfl rfl hh
  obtain ⟨n, hh⟩ := rn_i rfl rfl rfl rfl hh
  have hh : pm_run PT n fr lo 141 (27, [some (.ref 0), some (.int (nI p)), some (.int (nI a)), some (.int (nI b)), none], [.ref 0], h, 198, sl) = some R := hh
  obtain ⟨n, hh⟩ := rn_gr hw.wt rfl rfl (by decide) rfl (by decide) (show _ = some (2, ((1 : Nat) : Int), 1) from rfl) rfl hh
  obtain ⟨n, hh⟩ := rn_i rfl rfl rfl rfl hh
  obtain ⟨n, hh⟩ := rn_i rfl rfl rfl rfl hh
  have hh : pm_run PT n fr lo 141 (32, [some (.ref 0), some (.int (nI p)), some (.int (nI a)), some (.int (nI b)), none], [.int (nI 3), .int (nI p), .ref 1], h, 198, sl) = some R := hh
  obtain ⟨n, hh⟩ := en_add rfl hh
  have hh : pm_run PT n fr lo 141 (33, [some (.ref 0), some (.int (nI p)), some (.int (nI a)), some (.int (nI b)), none], [.int (nI (p + 3)), .ref 1], h, 198, sl) = some R := hh
  obtain ⟨n, hh⟩ := rn_i rfl rfl rfl rfl hh
  have hh : pm_run PT n fr lo 141 (35, [some (.ref 0), some (.int (nI p)), some (.int (nI a)), some (.int (nI b)), none], [.int (nI 60), .int (nI (p + 3)), .ref 1], h, 198, sl) = some R := hh
  obtain ⟨n, fr1, lo1, r1, hh1, hh⟩ := rn_call (w := 0) (t := 81) rfl rfl hh
  have er3 := dgA_run (n0 := n0) (l := 60) (p := p + 3) hn (by decide) (by omega) px hh1
  subst er3
  obtain ⟨n, hh⟩ := rn_i rfl rfl rfl rfl hh
  obtain ⟨n, hh⟩ := rn_i rfl rfl rfl rfl hh
  have hh : pm_run PT n fr lo 141 (41, [some (.ref 0), some (.int (nI p)), some (.int (nI a)), some (.int (nI b)), some (.int (dgA (Ar h 2) n0 (p + 3) 60))], [.ref 0], h, 198, sl) = some R := hh
  obtain ⟨n, hh⟩ := rn_gr hw.wt rfl rfl (by decide) rfl (by decide) (show _ = some (2, ((1 : Nat) : Int), 1) from rfl) rfl hh
  obtain ⟨n, hh⟩ := rn_i rfl rfl rfl rfl hh
  obtain ⟨n, hh⟩ := rn_i rfl rfl rfl rfl hh
  have hh : pm_run PT n fr lo 141 (47, [some (.ref 0), some (.int (nI p)), some (.int (nI a)), some (.int (nI b)), some (.int (dgA (Ar h 2) n0 (p + 3) 60))], [.int (nI 60), .int (nI p), .ref 1], h, 198, sl) = some R := hh
  obtain ⟨n, fr1, lo1, r1, hh1, hh⟩ := rn_call (w := 0) (t := 80) rfl rfl hh
  have er4 := sgA_run (n0 := n0) (l := 60) (p := p) hn (by decide) (by omega) px hh1
  rw [hs] at er4
  subst er4
  have hh : pm_run PT n fr lo 141 (50, [some (.ref 0), some (.int (nI p)), some (.int (nI a)), some (.int (nI b)), some (.int (dgA (Ar h 2) n0 (p + 3) 60))], [.int (nI 112)], h, 198, sl) = some R := hh
  obtain ⟨n, hh⟩ := rn_i rfl rfl rfl rfl hh
  have hh : pm_run PT n fr lo 141 (141, [some (.ref 0), some (.int (nI p)), some (.int (nI a)), some (.int (nI b)), some (.int (dgA (Ar h 2) n0 (p + 3) 60))], [], h, 198, sl) = some R := hh
  obtain ⟨n, hh⟩ := rn_i rfl rfl rfl rfl hh
  obtain ⟨n, hh⟩ := rn_i rfl rfl rfl rfl hh
  obtain ⟨n, hh⟩ := rn_i rfl rfl rfl rfl hh
  obtain ⟨n, hh⟩ := rn_i rfl rfl rfl rfl hh
  have hh : pm_run PT n fr lo 141 (146, [some (.ref 0), some (.int (nI p)), some (.int (nI a)), some (.int (nI b)), some (.int (dgA (Ar h 2) n0 (p + 3) 60))], [.int (dgA (Ar h 2) n0 (p + 3) 60), .int (nI b), .int (nI a), .ref 0], h, 198, sl) = some R := hh
  obtain ⟨n, fr1, lo1, r1, hh1, hh⟩ := rn_call (w := 0) (t := 144) rfl rfl hh
  obtain ⟨er5, hc6, hf7⟩ := v144_ok (a := a) (b := b) (m := (dgA (Ar h 2) n0 (p + 3) 60)) hw (by omega) (by omega) hh1
  subst er5
  have hh : pm_run PT n fr lo 141 (149, [some (.ref 0), some (.int (nI p)), some (.int (nI a)), some (.int (nI b)), some (.int (dgA (Ar h 2) n0 (p + 3) 60))], [.int (cond ((v144 q cc gc h a b (dgA (Ar h 2) n0 (p + 3) 60)).1) 1 0)], (v144 q cc gc h a b (dgA (Ar h 2) n0 (p + 3) 60)).2, 198, sl) = some R := hh
  have er8 : R = (some (.int (cond ((v144 q cc gc h a b (dgA (Ar h 2) n0 (p + 3) 60)).1) 1 0)), (v144 q cc gc h a b (dgA (Ar h 2) n0 (p + 3) 60)).2, 198, sl) := (rn_ret rfl (Or.inr rfl) hh).2
  have ed : v141p q cc gc h p n0 a b = ((v144 q cc gc h a b (dgA (Ar h 2) n0 (p + 3) 60)).1, (v144 q cc gc h a b (dgA (Ar h 2) n0 (p + 3) 60)).2) := rfl
  refine ⟨?_, ?_, ?_⟩ <;> rw [ed]
  · exact er8
  · exact hc6
  · exact (fr_g rfl rfl hf7 fr_0)
def v141q (q : QT) (cc gc : Nat) (h : pm_H) (p : Nat) (n0 : Nat) (a : Nat) (b : Nat) : Bool × pm_H := ((v144 q cc gc h a b (-(dgA (Ar h 2) n0 (p + 3) 60))).1, (v144 q cc gc h a b (-(dgA (Ar h 2) n0 (p + 3) 60))).2)
theorem v141q_ok {n fr lo sl cc gc : Nat} {q : QT} {h : pm_H} {R : pm_Rs} {p : Nat} {n0 : Nat} {a : Nat} {b : Nat} (hw : HC q cc gc h) (h_p : p < 100) (hn : n0 ≤ 80) (px : pX h n0 cc (Ar h 2)) (hs : sgA (Ar h 2) n0 p 60 = nI 113) (hd1 : dgA (Ar h 2) n0 (p + 1) 60 = nI a) (ha : a < 10) (hd2 : dgA (Ar h 2) n0 (p + 2) 60 = nI b) (hb : b < 10) (hol : NA h 17 0 8 6) (hh : pm_run PT n fr lo 141 (0, pm_l0 [.ref 0, .int (nI p)] 5, [], h, 198, sl) = some R) : R = (some (.int (cond (v141q q cc gc h p n0 a b).1 1 0)), (v141q q cc gc h p n0 a b).2, 198, sl) ∧ HC q cc gc ((v141q q cc gc h p n0 a b).2) ∧ frm [15] [] h ((v141q q cc gc h p n0 a b).2) := by
  have hcc := hw.cb
  have hgc := hw.gb
  have hzr := hw.zr
  obtain ⟨n, hh⟩ := rn_i rfl rfl rfl rfl hh
  have hh : pm_run PT n fr lo 141 (1, [some (.ref 0), some (.int (nI p)), none, none, none], [.ref 0], h, 198, sl) = some R := hh
  obtain ⟨n, hh⟩ := rn_gr hw.wt rfl rfl (by decide) rfl (by decide) (show _ = some (2, ((1 : Nat) : Int), 1) from rfl) rfl hh
  obtain ⟨n, hh⟩ := rn_i rfl rfl rfl rfl hh
  obtain ⟨n, hh⟩ := rn_i rfl rfl rfl rfl hh
  have hh : pm_run PT n fr lo 141 (6, [some (.ref 0), some (.int (nI p)), none, none, none], [.int (nI 1), .int (nI p), .ref 1], h, 198, sl) = some R := hh
  obtain ⟨n, hh⟩ := en_add rfl hh
  have hh : pm_run PT n fr lo 141 (7, [some (.ref 0), some (.int (nI p)), none, none, none], [.int (nI (p + 1)), .ref 1], h, 198, sl) = some R := hh
  obtain ⟨n, hh⟩ := rn_i rfl rfl rfl rfl hh
  have hh : pm_run PT n fr lo 141 (9, [some (.ref 0), some (.int (nI p)), none, none, none], [.int (nI 60), .int (nI (p + 1)), .ref 1], h, 198, sl) = some R := hh
  obtain ⟨n, fr1, lo1, r1, hh1, hh⟩ := rn_call (w := 0) (t := 81) rfl rfl hh
  have er1 := dgA_run (n0 := n0) (l := 60) (p := p + 1) hn (by decide) (by omega) px hh1
  rw [hd1] at er1
  subst er1
  obtain ⟨n, hh⟩ := rn_i rfl rfl rfl rfl hh
  obtain ⟨n, hh⟩ := rn_i rfl rfl rfl rfl hh
  have hh : pm_run PT n fr lo 141 (14, [some (.ref 0), some (.int (nI p)), some (.int (nI a)), none, none], [.ref 0], h, 198, sl) = some R := hh
  obtain ⟨n, hh⟩ := rn_gr hw.wt rfl rfl (by decide) rfl (by decide) (show _ = some (2, ((1 : Nat) : Int), 1) from rfl) rfl hh
  obtain ⟨n, hh⟩ := rn_i rfl rfl rfl rfl hh
  obtain ⟨n, hh⟩ := rn_i rfl rfl rfl rfl hh
  have hh : pm_run PT n fr lo 141 (19, [some (.ref 0), some (.int (nI p)), some (.int (nI a)), none, none], [.int (nI 2), .int (nI p), .ref 1], h, 198, sl) = some R := hh
  obtain ⟨n, hh⟩ := en_add rfl hh
  have hh : pm_run PT n fr lo 141 (20, [some (.ref 0), some (.int (nI p)), some (.int (nI a)), none, none], [.int (nI (p + 2)), .ref 1], h, 198, sl) = some R := hh
  obtain ⟨n, hh⟩ := rn_i rfl rfl rfl rfl hh
  have hh : pm_run PT n fr lo 141 (22, [some (.ref 0), some (.int (nI p)), some (.int (nI a)), none, none], [.int (nI 60), .int (nI (p + 2)), .ref 1], h, 198, sl) = some R := hh
  obtain ⟨n, fr1, lo1, r1, hh1, hh⟩ := rn_call (w := 0) (t := 81) rfl rfl hh
  have er2 := dgA_run (n0 := n0) (l := 60) (p := p + 2) hn (by decide) (by omega) px hh1
  rw [hd2] at er2
  subst er2
  obtain ⟨n, hh⟩ := rn_i rfl rfl rfl rfl hh
  obtain ⟨n, hh⟩ := rn_i rfl rfl rfl rfl hh
  have hh : pm_run PT n fr lo 141 (27, [some (.ref 0), some (.int (nI p)), some (.int (nI a)), some (.int (nI b)), none], [.ref 0], h, 198, sl) = some R := hh
  obtain ⟨n, hh⟩ := rn_gr hw.wt rfl rfl (by decide) rfl (by decide) (show _ = some (2, ((1 : Nat) : Int), 1) from rfl) rfl hh
  obtain ⟨n, hh⟩ := rn_i rfl rfl rfl rfl hh
  obtain ⟨n, hh⟩ := rn_i rfl rfl rfl rfl hh
  have hh : pm_run PT n fr lo 141 (32, [some (.ref 0), some (.int (nI p)), some (.int (nI a)), some (.int (nI b)), none], [.int (nI 3), .int (nI p), .ref 1], h, 198, sl) = some R := hh
  obtain ⟨n, hh⟩ := en_add rfl hh
  have hh : pm_run PT n fr lo 141 (33, [some (.ref 0), some (.int (nI p)), some (.int (nI a)), some (.int (nI b)), none], [.int (nI (p + 3)), .ref 1], h, 198, sl) = some R := hh
  obtain ⟨n, hh⟩ := rn_i rfl rfl rfl rfl hh
  have hh : pm_run PT n fr lo 141 (35, [some (.ref 0), some (.int (nI p)), some (.int (nI a)), some (.int (nI b)), none], [.int (nI 60), .int (nI (p + 3)), .ref 1], h, 198, sl) = some R := hh
  obtain ⟨n, fr1, lo1, r1, hh1, hh⟩ := rn_call (w := 0) (t := 81) rfl rfl hh
  have er3 := dgA_run (n0 := n0) (l := 60) (p := p + 3) hn (by decide) (by omega) px hh1
  subst er3
  obtain ⟨n, hh⟩ := rn_i rfl rfl rfl rfl hh
  obtain ⟨n, hh⟩ := rn_i rfl rfl rfl rfl hh
  have hh : pm_run PT n fr lo 141 (41, [some (.ref 0), some (.int (nI p)), some (.int (nI a)), some (.int (nI b)), some (.int (dgA (Ar h 2) n0 (p + 3) 60))], [.ref 0], h, 198, sl) = some R := hh
  obtain ⟨n, hh⟩ := rn_gr hw.wt rfl rfl (by decide) rfl (by decide) (show _ = some (2, ((1 : Nat) : Int), 1) from rfl) rfl hh
  obtain ⟨n, hh⟩ := rn_i rfl rfl rfl rfl hh
  obtain ⟨n, hh⟩ := rn_i rfl rfl rfl rfl hh
  have hh : pm_run PT n fr lo 141 (47, [some (.ref 0), some (.int (nI p)), some (.int (nI a)), some (.int (nI b)), some (.int (dgA (Ar h 2) n0 (p + 3) 60))], [.int (nI 60), .int (nI p), .ref 1], h, 198, sl) = some R := hh
  obtain ⟨n, fr1, lo1, r1, hh1, hh⟩ := rn_call (w := 0) (t := 80) rfl rfl hh
  have er4 := sgA_run (n0 := n0) (l := 60) (p := p) hn (by decide) (by omega) px hh1
  rw [hs] at er4
  subst er4
  have hh : pm_run PT n fr lo 141 (50, [some (.ref 0), some (.int (nI p)), some (.int (nI a)), some (.int (nI b)), some (.int (dgA (Ar h 2) n0 (p + 3) 60))], [.int (nI 113)], h, 198, sl) = some R := hh
  obtain ⟨n, hh⟩ := rn_i rfl rfl rfl rfl hh
  have hh : pm_run PT n fr lo 141 (150, [some (.ref 0), some (.int (nI p)), some (.int (nI a)), some (.int (nI b)), some (.int (dgA (Ar h 2) n0 (p + 3) 60))], [], h, 198, sl) = some R := hh
  obtain ⟨n, hh⟩ := rn_i rfl rfl rfl rfl hh
  obtain ⟨n, hh⟩ := rn_i rfl rfl rfl rfl hh
  obtain ⟨n, hh⟩ := rn_i rfl rfl rfl rfl hh
  obtain ⟨n, hh⟩ := rn_i rfl rfl rfl rfl hh
  obtain ⟨n, hh⟩ := rn_i rfl rfl rfl rfl hh
  have hh : pm_run PT n fr lo 141 (156, [some (.ref 0), some (.int (nI p)), some (.int (nI a)), some (.int (nI b)), some (.int (dgA (Ar h 2) n0 (p + 3) 60))], [.int (-(dgA (Ar h 2) n0 (p + 3) 60)), .int (nI b), .int (nI a), .ref 0], h, 198, sl) = some R := hh
  obtain ⟨n, fr1, lo1, r1, hh1, hh⟩ := rn_call (w := 0) (t := 144) rfl rfl hh
  obtain ⟨er5, hc6, hf7⟩ := v144_ok (a := a) (b := b) (m := (-(dgA (Ar h 2) n0 (p + 3) 60))) hw (by omega) (by omega) hh1
  subst er5
  have hh : pm_run PT n fr lo 141 (159, [some (.ref 0), some (.int (nI p)), some (.int (nI a)), some (.int (nI b)), some (.int (dgA (Ar h 2) n0 (p + 3) 60))], [.int (cond ((v144 q cc gc h a b (-(dgA (Ar h 2) n0 (p + 3) 60))).1) 1 0)], (v144 q cc gc h a b (-(dgA (Ar h 2) n0 (p + 3) 60))).2, 198, sl) = some R := hh
  have er8 : R = (some (.int (cond ((v144 q cc gc h a b (-(dgA (Ar h 2) n0 (p + 3) 60))).1) 1 0)), (v144 q cc gc h a b (-(dgA (Ar h 2) n0 (p + 3) 60))).2, 198, sl) := (rn_ret rfl (Or.inr rfl) hh).2
  have ed : v141q q cc gc h p n0 a b = ((v144 q cc gc h a b (-(dgA (Ar h 2) n0 (p + 3) 60))).1, (v144 q cc gc h a b (-(dgA (Ar h 2) n0 (p + 3) 60))).2) := rfl
  refine ⟨?_, ?_, ?_⟩ <;> rw [ed]
  · exact er8
  · exact hc6
  · exact (fr_g rfl rfl hf7 fr_0)
end EW
