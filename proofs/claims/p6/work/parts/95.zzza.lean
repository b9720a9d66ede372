/-! runs told exactly, written by ext.py -/
section EW
def v96w1 (q : QT) (cc gc : Nat) (g : Int32) (c : Int32) : Int32 := (Int32.ofInt (-1))
theorem v96w1_ok {n fr lo sl cc gc : Nat} {q : QT} {h : pm_H} {R : pm_Rs} {g : Int32} {c : Int32} (hw : HC q cc gc h) (hb1 : cB gc g = false) (hh : pm_run PT n fr lo 96 (0, pm_l0 [.ref 0, .int g, .int c] 7, [], h, 198, sl) = some R) : R = (some (.int (v96w1 q cc gc g c)), h, 198, sl) := by
  have hcc := hw.cb
  have hgc := hw.gb
  have hzr := hw.zr
  obtain ⟨n, hh⟩ := rn_i rfl rfl rfl rfl hh
  obtain ⟨n, hh⟩ := rn_i rfl rfl rfl rfl hh
  obtain ⟨n, hh⟩ := rn_i rfl rfl rfl rfl hh
  have hh : pm_run PT n fr lo 96 (3, [some (.ref 0), some (.int g), some (.int c), none, none, none, none], [.int c, .int g, .ref 0], h, 198, sl) = some R := hh
  obtain ⟨n, fr1, lo1, r1, hh1, hh⟩ := rn_call (w := 0) (t := 136) rfl rfl hh
  have hh1 : pm_run PT n fr1 lo1 136 (0, [some (.ref 0), some (.int g), some (.int c)], [], h, 198, sl) = some r1 := hh1
  obtain ⟨n1, hh1⟩ := rn_i rfl rfl rfl rfl hh1
  have hh1 : pm_run PT n1 fr1 lo1 136 (1, [some (.ref 0), some (.int g), some (.int c)], [.ref 0], h, 198, sl) = some r1 := hh1
  obtain ⟨n1, hh1⟩ := rn_gr hw.wt rfl rfl (by decide) rfl (by decide) (show _ = some (2, ((5 : Nat) : Int), 1) from rfl) rfl hh1
  obtain ⟨n1, hh1⟩ := rn_i rfl rfl rfl rfl hh1
  have hh1 : pm_run PT n1 fr1 lo1 136 (5, [some (.ref 0), some (.int g), some (.int c)], [.int g, .ref 5], h, 198, sl) = some r1 := hh1
  obtain ⟨n1, fr2, lo2, r2, hh2, hh1⟩ := rn_call (w := 0) (t := 25) rfl rfl hh1
  have er1 := en_xg hgc (hc_rG hw) hh2
  subst er1
  have hh1 : pm_run PT n1 fr1 lo1 136 (8, [some (.ref 0), some (.int g), some (.int c)], [.int (cond (cB gc g) 1 0)], h, 198, sl) = some r1 := hh1
  obtain ⟨n1, hh1⟩ := en_zn (cc := .eq) (off := 14) (t := 22) (b := !(cB gc g)) eb_eq rfl rfl hh1
  have hh1 := en_nf hb1 hh1
  have hh1 : pm_run PT n1 fr1 lo1 136 (22, [some (.ref 0), some (.int g), some (.int c)], [], h, 198, sl) = some r1 := hh1
  obtain ⟨n1, hh1⟩ := rn_i rfl rfl rfl rfl hh1
  have hh1 : pm_run PT n1 fr1 lo1 136 (23, [some (.ref 0), some (.int g), some (.int c)], [.int (Int32.ofInt (-1))], h, 198, sl) = some r1 := hh1
  have er2 : r1 = (some (.int (Int32.ofInt (-1))), h, 198, sl) := (rn_ret rfl (Or.inl rfl) hh1).2
  subst er2
  obtain ⟨n, hh⟩ := rn_i rfl rfl rfl rfl hh
  obtain ⟨n, hh⟩ := rn_i rfl rfl rfl rfl hh
  have hh : pm_run PT n fr lo 96 (8, [some (.ref 0), some (.int g), some (.int c), some (.int (Int32.ofInt (-1))), none, none, none], [.int (Int32.ofInt (-1))], h, 198, sl) = some R := hh
  obtain ⟨n, hh⟩ := en_zn (cc := .ge) (off := 5) (t := 13) (b := pm_cmp .ge (Int32.ofInt (-1)) 0) rfl rfl rfl hh
  have hh := en_f (by decide) hh
  have hh : pm_run PT n fr lo 96 (11, [some (.ref 0), some (.int g), some (.int c), some (.int (Int32.ofInt (-1))), none, none, none], [], h, 198, sl) = some R := hh
  obtain ⟨n, hh⟩ := rn_i rfl rfl rfl rfl hh
  have hh : pm_run PT n fr lo 96 (12, [some (.ref 0), some (.int g), some (.int c), some (.int (Int32.ofInt (-1))), none, none, none], [.int (Int32.ofInt (-1))], h, 198, sl) = some R := hh
  have er3 : R = (some (.int (Int32.ofInt (-1))), h, 198, sl) := (rn_ret rfl (Or.inl rfl) hh).2
  have ed : v96w1 q cc gc g c = (Int32.ofInt (-1)) := rfl
  rw [ed]
  exact er3
def v222w1 (q : QT) (cc gc : Nat) (h : pm_H) (u : Nat) (g : Int32) (c : Int32) : Int32 × pm_H := ((Int32.ofInt (-1)), v211 q cc gc (fset h 162 0 (.int (nI 0))) u)
theorem v222w1_ok {n fr lo sl cc gc : Nat} {q : QT} {h : pm_H} {R : pm_Rs} {u : Nat} {g : Int32} {c : Int32} (hw : HC q cc gc h) (hb1 : cB gc g = false) (hu : u ≤ 15) (e1 : Fi h 162 27 = nI u) (hh : pm_run PT n fr lo 222 (0, pm_l0 [.ref 162, .int g, .int c] 4, [], h, 198, sl) = some R) : R = (some (.int ((v222w1 q cc gc h u g c).1)), (v222w1 q cc gc h u g c).2, 198, sl) ∧ HC q cc gc ((v222w1 q cc gc h u g c).2) ∧ frm [162, 178] [(162, 0)] h ((v222w1 q cc gc h u g c).2) := by
  have hcc := hw.cb
  have hgc := hw.gb
  have hzr := hw.zr
  obtain ⟨n, hh⟩ := rn_i rfl rfl rfl rfl hh
  obtain ⟨n, hh⟩ := rn_i rfl rfl rfl rfl hh
  have hh : pm_run PT n fr lo 222 (2, [some (.ref 162), some (.int g), some (.int c), none], [.int (nI 0), .ref 162], h, 198, sl) = some R := hh
  obtain ⟨n, hh⟩ := rn_pi hw.wt rfl rfl (by decide) rfl (by decide) rfl hh
  obtain ⟨n, hh⟩ := rn_i rfl rfl rfl rfl hh
  have hh : pm_run PT n fr lo 222 (6, [some (.ref 162), some (.int g), some (.int c), none], [.ref 162], fset h 162 0 (.int (nI 0)), 198, sl) = some R := hh
  obtain ⟨n, fr1, lo1, r1, hh1, hh⟩ := rn_call (w := 0) (t := 211) rfl rfl hh
  obtain ⟨er1, hc2, hf3⟩ := v211_ok (u := u) (hc_f rfl rfl (by decide) rfl hw) hu ((Fi_n (Or.inr (by decide))).trans e1) hh1
  subst er1
  obtain ⟨n, hh⟩ := rn_i rfl rfl rfl rfl hh
  obtain ⟨n, hh⟩ := rn_i rfl rfl rfl rfl hh
  obtain ⟨n, hh⟩ := rn_i rfl rfl rfl rfl hh
  have hh : pm_run PT n fr lo 222 (12, [some (.ref 162), some (.int g), some (.int c), none], [.ref 162, .ref 162, .ref 162], v211 q cc gc (fset h 162 0 (.int (nI 0))) u, 198, sl) = some R := hh
  obtain ⟨n, hh⟩ := rn_gr hc2.wt rfl rfl (by decide) rfl (by decide) (show _ = some (2, ((170 : Nat) : Int), 1) from rfl) rfl hh
  obtain ⟨n, hh⟩ := rn_i rfl rfl rfl rfl hh
  obtain ⟨n, hh⟩ := rn_i rfl rfl rfl rfl hh
  have hh : pm_run PT n fr lo 222 (17, [some (.ref 162), some (.int g), some (.int c), none], [.int c, .int g, .ref 170, .ref 162, .ref 162], v211 q cc gc (fset h 162 0 (.int (nI 0))) u, 198, sl) = some R := hh
  obtain ⟨n, fr1, lo1, r1, hh1, hh⟩ := rn_call (w := 0) (t := 217) rfl rfl hh
  have hh1 : pm_run PT n fr1 lo1 217 (0, [some (.ref 162), some (.ref 170), some (.int g), some (.int c), none, none, none, none, none], [], v211 q cc gc (fset h 162 0 (.int (nI 0))) u, 198, sl) = some r1 := hh1
  obtain ⟨n1, hh1⟩ := rn_i rfl rfl rfl rfl hh1
  obtain ⟨n1, hh1⟩ := rn_i rfl rfl rfl rfl hh1
  have hh1 : pm_run PT n1 fr1 lo1 217 (2, [some (.ref 162), some (.ref 170), some (.int g), some (.int c), none, none, none, none, none], [.int g, .ref 162], v211 q cc gc (fset h 162 0 (.int (nI 0))) u, 198, sl) = some r1 := hh1
  obtain ⟨n1, fr2, lo2, r2, hh2, hh1⟩ := rn_call (w := 0) (t := 169) rfl rfl hh1
  have er4 := en_mg hgc (hc_m4 hc2) hh2
  subst er4
  have hh1 : pm_run PT n1 fr1 lo1 217 (5, [some (.ref 162), some (.ref 170), some (.int g), some (.int c), none, none, none, none, none], [.int (cond (cB gc g) 1 0)], v211 q cc gc (fset h 162 0 (.int (nI 0))) u, 198, sl) = some r1 := hh1
  obtain ⟨n1, hh1⟩ := en_zn (cc := .eq) (off := 11) (t := 16) (b := !(cB gc g)) eb_eq rfl rfl hh1
  have hh1 := en_nf hb1 hh1
  have hh1 : pm_run PT n1 fr1 lo1 217 (16, [some (.ref 162), some (.ref 170), some (.int g), some (.int c), none, none, none, none, none], [], v211 q cc gc (fset h 162 0 (.int (nI 0))) u, 198, sl) = some r1 := hh1
  obtain ⟨n1, hh1⟩ := rn_i rfl rfl rfl rfl hh1
  have hh1 : pm_run PT n1 fr1 lo1 217 (17, [some (.ref 162), some (.ref 170), some (.int g), some (.int c), none, none, none, none, none], [.int (Int32.ofInt (-1))], v211 q cc gc (fset h 162 0 (.int (nI 0))) u, 198, sl) = some r1 := hh1
  have er5 : r1 = (some (.int (Int32.ofInt (-1))), v211 q cc gc (fset h 162 0 (.int (nI 0))) u, 198, sl) := (rn_ret rfl (Or.inl rfl) hh1).2
  subst er5
  have hh : pm_run PT n fr lo 222 (20, [some (.ref 162), some (.int g), some (.int c), none], [.int (Int32.ofInt (-1)), .ref 162], v211 q cc gc (fset h 162 0 (.int (nI 0))) u, 198, sl) = some R := hh
  obtain ⟨n, fr1, lo1, r1, hh1, hh⟩ := rn_call (w := 0) (t := 213) rfl rfl hh
  have hh1 : pm_run PT n fr1 lo1 213 (0, [some (.ref 162), some (.int (Int32.ofInt (-1)))], [], v211 q cc gc (fset h 162 0 (.int (nI 0))) u, 198, sl) = some r1 := hh1
  obtain ⟨n1, hh1⟩ := rn_i rfl rfl rfl rfl hh1
  have hh1 : pm_run PT n1 fr1 lo1 213 (1, [some (.ref 162), some (.int (Int32.ofInt (-1)))], [.int (Int32.ofInt (-1))], v211 q cc gc (fset h 162 0 (.int (nI 0))) u, 198, sl) = some r1 := hh1
  obtain ⟨n1, hh1⟩ := en_zn (cc := .ge) (off := 7) (t := 8) (b := pm_cmp .ge (Int32.ofInt (-1)) 0) rfl rfl rfl hh1
  have hh1 := en_f (by decide) hh1
  have hh1 : pm_run PT n1 fr1 lo1 213 (4, [some (.ref 162), some (.int (Int32.ofInt (-1)))], [], v211 q cc gc (fset h 162 0 (.int (nI 0))) u, 198, sl) = some r1 := hh1
  obtain ⟨n1, hh1⟩ := rn_i rfl rfl rfl rfl hh1
  obtain ⟨n1, hh1⟩ := rn_i rfl rfl rfl rfl hh1
  have hh1 : pm_run PT n1 fr1 lo1 213 (13, [some (.ref 162), some (.int (Int32.ofInt (-1)))], [.int (Int32.ofInt (-1))], v211 q cc gc (fset h 162 0 (.int (nI 0))) u, 198, sl) = some r1 := hh1
  have er6 : r1 = (some (.int (Int32.ofInt (-1))), v211 q cc gc (fset h 162 0 (.int (nI 0))) u, 198, sl) := (rn_ret rfl (Or.inl rfl) hh1).2
  subst er6
  obtain ⟨n, hh⟩ := rn_i rfl rfl rfl rfl hh
  obtain ⟨n, hh⟩ := rn_i rfl rfl rfl rfl hh
  have hh : pm_run PT n fr lo 222 (25, [some (.ref 162), some (.int g), some (.int c), some (.int (Int32.ofInt (-1)))], [.int (Int32.ofInt (-1))], v211 q cc gc (fset h 162 0 (.int (nI 0))) u, 198, sl) = some R := hh
  obtain ⟨n, hh⟩ := en_zn (cc := .lt) (off := 26) (t := 51) (b := pm_cmp .lt (Int32.ofInt (-1)) 0) rfl rfl rfl hh
  have hh := en_t (by decide) hh
  have hh : pm_run PT n fr lo 222 (51, [some (.ref 162), some (.int g), some (.int c), some (.int (Int32.ofInt (-1)))], [], v211 q cc gc (fset h 162 0 (.int (nI 0))) u, 198, sl) = some R := hh
  obtain ⟨n, hh⟩ := rn_i rfl rfl rfl rfl hh
  have hh : pm_run PT n fr lo 222 (52, [some (.ref 162), some (.int g), some (.int c), some (.int (Int32.ofInt (-1)))], [.int (Int32.ofInt (-1))], v211 q cc gc (fset h 162 0 (.int (nI 0))) u, 198, sl) = some R := hh
  have er7 : R = (some (.int (Int32.ofInt (-1))), v211 q cc gc (fset h 162 0 (.int (nI 0))) u, 198, sl) := (rn_ret rfl (Or.inl rfl) hh).2
  have ed : v222w1 q cc gc h u g c = ((Int32.ofInt (-1)), v211 q cc gc (fset h 162 0 (.int (nI 0))) u) := rfl
  refine ⟨?_, ?_, ?_⟩ <;> rw [ed]
  · exact er7
  · exact hc2
  · exact (fr_g rfl rfl hf3 (fr_f rfl rfl fr_0))
theorem v222w1_fr {cc gc : Nat} {q : QT} {h : pm_H} {u : Nat} {g : Int32} {c : Int32} (hw : HC q cc gc h) (hb1 : cB gc g = false) (hu : u ≤ 15) : HC q cc gc ((v222w1 q cc gc h u g c).2) ∧ frm [162, 178] [(162, 0)] h ((v222w1 q cc gc h u g c).2) := by
  unfold v222w1
  show HC q cc gc (v211 q cc gc (fset h 162 0 (.int (nI 0))) u) ∧ frm [162, 178] [(162, 0)] h (v211 q cc gc (fset h 162 0 (.int (nI 0))) u)
  exact ⟨(v211_fr (u := u) (hc_f rfl rfl (by decide) rfl hw) hu).1, (fr_g rfl rfl (v211_fr (u := u) (hc_f rfl rfl (by decide) rfl hw) hu).2 (fr_f rfl rfl fr_0))⟩
theorem v96w2_ok {n fr lo sl cc gc : Nat} {q : QT} {h : pm_H} {R : pm_Rs} {g : Int32} {c : Int32} (hw : HC q cc gc h) (hb1 : cB gc g = true) (hb2 : cB cc c = false) (hh : pm_run PT n fr lo 96 (0, pm_l0 [.ref 0, .int g, .int c] 7, [], h, 198, sl) = some R) : R = (some (.int (v96w1 q cc gc g c)), h, 198, sl) := by
  have hcc := hw.cb
  have hgc := hw.gb
  have hzr := hw.zr
  obtain ⟨n, hh⟩ := rn_i rfl rfl rfl rfl hh
  obtain ⟨n, hh⟩ := rn_i rfl rfl rfl rfl hh
  obtain ⟨n, hh⟩ := rn_i rfl rfl rfl rfl hh
  have hh : pm_run PT n fr lo 96 (3, [some (.ref 0), some (.int g), some (.int c), none, none, none, none], [.int c, .int g, .ref 0], h, 198, sl) = some R := hh
  obtain ⟨n, fr1, lo1, r1, hh1, hh⟩ := rn_call (w := 0) (t := 136) rfl rfl hh
  have hh1 : pm_run PT n fr1 lo1 136 (0, [some (.ref 0), some (.int g), some (.int c)], [], h, 198, sl) = some r1 := hh1
  obtain ⟨n1, hh1⟩ := rn_i rfl rfl rfl rfl hh1
  have hh1 : pm_run PT n1 fr1 lo1 136 (1, [some (.ref 0), some (.int g), some (.int c)], [.ref 0], h, 198, sl) = some r1 := hh1
  obtain ⟨n1, hh1⟩ := rn_gr hw.wt rfl rfl (by decide) rfl (by decide) (show _ = some (2, ((5 : Nat) : Int), 1) from rfl) rfl hh1
  obtain ⟨n1, hh1⟩ := rn_i rfl rfl rfl rfl hh1
  have hh1 : pm_run PT n1 fr1 lo1 136 (5, [some (.ref 0), some (.int g), some (.int c)], [.int g, .ref 5], h, 198, sl) = some r1 := hh1
  obtain ⟨n1, fr2, lo2, r2, hh2, hh1⟩ := rn_call (w := 0) (t := 25) rfl rfl hh1
  have er1 := en_xg hgc (hc_rG hw) hh2
  subst er1
  have hh1 : pm_run PT n1 fr1 lo1 136 (8, [some (.ref 0), some (.int g), some (.int c)], [.int (cond (cB gc g) 1 0)], h, 198, sl) = some r1 := hh1
  obtain ⟨n1, hh1⟩ := en_zn (cc := .eq) (off := 14) (t := 22) (b := !(cB gc g)) eb_eq rfl rfl hh1
  have hh1 := en_nt hb1 hh1
  have hh1 : pm_run PT n1 fr1 lo1 136 (11, [some (.ref 0), some (.int g), some (.int c)], [], h, 198, sl) = some r1 := hh1
  obtain ⟨n1, hh1⟩ := rn_i rfl rfl rfl rfl hh1
  have hh1 : pm_run PT n1 fr1 lo1 136 (12, [some (.ref 0), some (.int g), some (.int c)], [.ref 0], h, 198, sl) = some r1 := hh1
  obtain ⟨n1, hh1⟩ := rn_gr hw.wt rfl rfl (by decide) rfl (by decide) (show _ = some (2, ((5 : Nat) : Int), 1) from rfl) rfl hh1
  obtain ⟨n1, hh1⟩ := rn_i rfl rfl rfl rfl hh1
  have hh1 : pm_run PT n1 fr1 lo1 136 (16, [some (.ref 0), some (.int g), some (.int c)], [.int c, .ref 5], h, 198, sl) = some r1 := hh1
  obtain ⟨n1, fr2, lo2, r2, hh2, hh1⟩ := rn_call (w := 0) (t := 23) rfl rfl hh1
  have er2 := xi_run hcc (hc_rC hw) hh2
  subst er2
  have hh1 : pm_run PT n1 fr1 lo1 136 (19, [some (.ref 0), some (.int g), some (.int c)], [.int (cond (cB cc c) 1 0)], h, 198, sl) = some r1 := hh1
  obtain ⟨n1, hh1⟩ := en_zn (cc := .ne) (off := 5) (t := 24) (b := cB cc c) eb_ne rfl rfl hh1
  have hh1 := en_f hb2 hh1
  have hh1 : pm_run PT n1 fr1 lo1 136 (22, [some (.ref 0), some (.int g), some (.int c)], [], h, 198, sl) = some r1 := hh1
  obtain ⟨n1, hh1⟩ := rn_i rfl rfl rfl rfl hh1
  have hh1 : pm_run PT n1 fr1 lo1 136 (23, [some (.ref 0), some (.int g), some (.int c)], [.int (Int32.ofInt (-1))], h, 198, sl) = some r1 := hh1
  have er3 : r1 = (some (.int (Int32.ofInt (-1))), h, 198, sl) := (rn_ret rfl (Or.inl rfl) hh1).2
  subst er3
  obtain ⟨n, hh⟩ := rn_i rfl rfl rfl rfl hh
  obtain ⟨n, hh⟩ := rn_i rfl rfl rfl rfl hh
  have hh : pm_run PT n fr lo 96 (8, [some (.ref 0), some (.int g), some (.int c), some (.int (Int32.ofInt (-1))), none, none, none], [.int (Int32.ofInt (-1))], h, 198, sl) = some R := hh
  obtain ⟨n, hh⟩ := en_zn (cc := .ge) (off := 5) (t := 13) (b := pm_cmp .ge (Int32.ofInt (-1)) 0) rfl rfl rfl hh
  have hh := en_f (by decide) hh
  have hh : pm_run PT n fr lo 96 (11, [some (.ref 0), some (.int g), some (.int c), some (.int (Int32.ofInt (-1))), none, none, none], [], h, 198, sl) = some R := hh
  obtain ⟨n, hh⟩ := rn_i rfl rfl rfl rfl hh
  have hh : pm_run PT n fr lo 96 (12, [some (.ref 0), some (.int g), some (.int c), some (.int (Int32.ofInt (-1))), none, none, none], [.int (Int32.ofInt (-1))], h, 198, sl) = some R := hh
  have er4 : R = (some (.int (Int32.ofInt (-1))), h, 198, sl) := (rn_ret rfl (Or.inl rfl) hh).2
  have ed : v96w1 q cc gc g c = (Int32.ofInt (-1)) := rfl
  rw [ed]
  exact er4
def v222w2 (q : QT) (cc gc : Nat) (h : pm_H) (u : Nat) (g : Int32) (c : Int32) : Int32 × pm_H := ((Int32.ofInt (-1)), v211 q cc gc (fset h 162 0 (.int (nI 0))) u)
theorem v222w2_ok {n fr lo sl cc gc : Nat} {q : QT} {h : pm_H} {R : pm_Rs} {u : Nat} {g : Int32} {c : Int32} (hw : HC q cc gc h) (hb1 : cB gc g = true) (hb2 : cB cc c = false) (hu : u ≤ 15) (e1 : Fi h 162 27 = nI u) (hh : pm_run PT n fr lo 222 (0, pm_l0 [.ref 162, .int g, .int c] 4, [], h, 198, sl) = some R) : R = (some (.int ((v222w2 q cc gc h u g c).1)), (v222w2 q cc gc h u g c).2, 198, sl) ∧ HC q cc gc ((v222w2 q cc gc h u g c).2) ∧ frm [162, 178] [(162, 0)] h ((v222w2 q cc gc h u g c).2) := by
  have hcc := hw.cb
  have hgc := hw.gb
  have hzr := hw.zr
  obtain ⟨n, hh⟩ := rn_i rfl rfl rfl rfl hh
  obtain ⟨n, hh⟩ := rn_i rfl rfl rfl rfl hh
  have hh : pm_run PT n fr lo 222 (2, [some (.ref 162), some (.int g), some (.int c), none], [.int (nI 0), .ref 162], h, 198, sl) = some R := hh
  obtain ⟨n, hh⟩ := rn_pi hw.wt rfl rfl (by decide) rfl (by decide) rfl hh
  obtain ⟨n, hh⟩ := rn_i rfl rfl rfl rfl hh
  have hh : pm_run PT n fr lo 222 (6, [some (.ref 162), some (.int g), some (.int c), none], [.ref 162], fset h 162 0 (.int (nI 0)), 198, sl) = some R := hh
  obtain ⟨n, fr1, lo1, r1, hh1, hh⟩ := rn_call (w := 0) (t := 211) rfl rfl hh
  obtain ⟨er1, hc2, hf3⟩ := v211_ok (u := u) (hc_f rfl rfl (by decide) rfl hw) hu ((Fi_n (Or.inr (by decide))).trans e1) hh1
  subst er1
  obtain ⟨n, hh⟩ := rn_i rfl rfl rfl rfl hh
  obtain ⟨n, hh⟩ := rn_i rfl rfl rfl rfl hh
  obtain ⟨n, hh⟩ := rn_i rfl rfl rfl rfl hh
  have hh : pm_run PT n fr lo 222 (12, [some (.ref 162), some (.int g), some (.int c), none], [.ref 162, .ref 162, .ref 162], v211 q cc gc (fset h 162 0 (.int (nI 0))) u, 198, sl) = some R := hh
  obtain ⟨n, hh⟩ := rn_gr hc2.wt rfl rfl (by decide) rfl (by decide) (show _ = some (2, ((170 : Nat) : Int), 1) from rfl) rfl hh
  obtain ⟨n, hh⟩ := rn_i rfl rfl rfl rfl hh
  obtain ⟨n, hh⟩ := rn_i rfl rfl rfl rfl hh
  have hh : pm_run PT n fr lo 222 (17, [some (.ref 162), some (.int g), some (.int c), none], [.int c, .int g, .ref 170, .ref 162, .ref 162], v211 q cc gc (fset h 162 0 (.int (nI 0))) u, 198, sl) = some R := hh
  obtain ⟨n, fr1, lo1, r1, hh1, hh⟩ := rn_call (w := 0) (t := 217) rfl rfl hh
  have hh1 : pm_run PT n fr1 lo1 217 (0, [some (.ref 162), some (.ref 170), some (.int g), some (.int c), none, none, none, none, none], [], v211 q cc gc (fset h 162 0 (.int (nI 0))) u, 198, sl) = some r1 := hh1
  obtain ⟨n1, hh1⟩ := rn_i rfl rfl rfl rfl hh1
  obtain ⟨n1, hh1⟩ := rn_i rfl rfl rfl rfl hh1
  have hh1 : pm_run PT n1 fr1 lo1 217 (2, [some (.ref 162), some (.ref 170), some (.int g), some (.int c), none, none, none, none, none], [.int g, .ref 162], v211 q cc gc (fset h 162 0 (.int (nI 0))) u, 198, sl) = some r1 := hh1
  obtain ⟨n1, fr2, lo2, r2, hh2, hh1⟩ := rn_call (w := 0) (t := 169) rfl rfl hh1
  have er4 := en_mg hgc (hc_m4 hc2) hh2
  subst er4
  have hh1 : pm_run PT n1 fr1 lo1 217 (5, [some (.ref 162), some (.ref 170), some (.int g), some (.int c), none, none, none, none, none], [.int (cond (cB gc g) 1 0)], v211 q cc gc (fset h 162 0 (.int (nI 0))) u, 198, sl) = some r1 := hh1
  obtain ⟨n1, hh1⟩ := en_zn (cc := .eq) (off := 11) (t := 16) (b := !(cB gc g)) eb_eq rfl rfl hh1
  have hh1 := en_nt hb1 hh1
  have hh1 : pm_run PT n1 fr1 lo1 217 (8, [some (.ref 162), some (.ref 170), some (.int g), some (.int c), none, none, none, none, none], [], v211 q cc gc (fset h 162 0 (.int (nI 0))) u, 198, sl) = some r1 := hh1
  obtain ⟨n1, hh1⟩ := rn_i rfl rfl rfl rfl hh1
  obtain ⟨n1, hh1⟩ := rn_i rfl rfl rfl rfl hh1
  have hh1 : pm_run PT n1 fr1 lo1 217 (10, [some (.ref 162), some (.ref 170), some (.int g), some (.int c), none, none, none, none, none], [.int c, .ref 162], v211 q cc gc (fset h 162 0 (.int (nI 0))) u, 198, sl) = some r1 := hh1
  obtain ⟨n1, fr2, lo2, r2, hh2, hh1⟩ := rn_call (w := 0) (t := 168) rfl rfl hh1
  have er5 := mi_run hcc (hc_m3 hc2) hh2
  subst er5
  have hh1 : pm_run PT n1 fr1 lo1 217 (13, [some (.ref 162), some (.ref 170), some (.int g), some (.int c), none, none, none, none, none], [.int (cond (cB cc c) 1 0)], v211 q cc gc (fset h 162 0 (.int (nI 0))) u, 198, sl) = some r1 := hh1
  obtain ⟨n1, hh1⟩ := en_zn (cc := .ne) (off := 5) (t := 18) (b := cB cc c) eb_ne rfl rfl hh1
  have hh1 := en_f hb2 hh1
  have hh1 : pm_run PT n1 fr1 lo1 217 (16, [some (.ref 162), some (.ref 170), some (.int g), some (.int c), none, none, none, none, none], [], v211 q cc gc (fset h 162 0 (.int (nI 0))) u, 198, sl) = some r1 := hh1
  obtain ⟨n1, hh1⟩ := rn_i rfl rfl rfl rfl hh1
  have hh1 : pm_run PT n1 fr1 lo1 217 (17, [some (.ref 162), some (.ref 170), some (.int g), some (.int c), none, none, none, none, none], [.int (Int32.ofInt (-1))], v211 q cc gc (fset h 162 0 (.int (nI 0))) u, 198, sl) = some r1 := hh1
  have er6 : r1 = (some (.int (Int32.ofInt (-1))), v211 q cc gc (fset h 162 0 (.int (nI 0))) u, 198, sl) := (rn_ret rfl (Or.inl rfl) hh1).2
  subst er6
  have hh : pm_run PT n fr lo 222 (20, [some (.ref 162), some (.int g), some (.int c), none], [.int (Int32.ofInt (-1)), .ref 162], v211 q cc gc (fset h 162 0 (.int (nI 0))) u, 198, sl) = some R := hh
  obtain ⟨n, fr1, lo1, r1, hh1, hh⟩ := rn_call (w := 0) (t := 213) rfl rfl hh
  have hh1 : pm_run PT n fr1 lo1 213 (0, [some (.ref 162), some (.int (Int32.ofInt (-1)))], [], v211 q cc gc (fset h 162 0 (.int (nI 0))) u, 198, sl) = some r1 := hh1
  obtain ⟨n1, hh1⟩ := rn_i rfl rfl rfl rfl hh1
  have hh1 : pm_run PT n1 fr1 lo1 213 (1, [some (.ref 162), some (.int (Int32.ofInt (-1)))], [.int (Int32.ofInt (-1))], v211 q cc gc (fset h 162 0 (.int (nI 0))) u, 198, sl) = some r1 := hh1
  obtain ⟨n1, hh1⟩ := en_zn (cc := .ge) (off := 7) (t := 8) (b := pm_cmp .ge (Int32.ofInt (-1)) 0) rfl rfl rfl hh1
  have hh1 := en_f (by decide) hh1
  have hh1 : pm_run PT n1 fr1 lo1 213 (4, [some (.ref 162), some (.int (Int32.ofInt (-1)))], [], v211 q cc gc (fset h 162 0 (.int (nI 0))) u, 198, sl) = some r1 := hh1
  obtain ⟨n1, hh1⟩ := rn_i rfl rfl rfl rfl hh1
  obtain ⟨n1, hh1⟩ := rn_i rfl rfl rfl rfl hh1
  have hh1 : pm_run PT n1 fr1 lo1 213 (13, [some (.ref 162), some (.int (Int32.ofInt (-1)))], [.int (Int32.ofInt (-1))], v211 q cc gc (fset h 162 0 (.int (nI 0))) u, 198, sl) = some r1 := hh1
  have er7 : r1 = (some (.int (Int32.ofInt (-1))), v211 q cc gc (fset h 162 0 (.int (nI 0))) u, 198, sl) := (rn_ret rfl (Or.inl rfl) hh1).2
  subst er7
  obtain ⟨n, hh⟩ := rn_i rfl rfl rfl rfl hh
  obtain ⟨n, hh⟩ := rn_i rfl rfl rfl rfl hh
  have hh : pm_run PT n fr lo 222 (25, [some (.ref 162), some (.int g), some (.int c), some (.int (Int32.ofInt (-1)))], [.int (Int32.ofInt (-1))], v211 q cc gc (fset h 162 0 (.int (nI 0))) u, 198, sl) = some R := hh
  obtain ⟨n, hh⟩ := en_zn (cc := .lt) (off := 26) (t := 51) (b := pm_cmp .lt (Int32.ofInt (-1)) 0) rfl rfl rfl hh
  have hh := en_t (by decide) hh
  have hh : pm_run PT n fr lo 222 (51, [some (.ref 162), some (.int g), some (.int c), some (.int (Int32.ofInt (-1)))], [], v211 q cc gc (fset h 162 0 (.int (nI 0))) u, 198, sl) = some R := hh
  obtain ⟨n, hh⟩ := rn_i rfl rfl rfl rfl hh
  have hh : pm_run PT n fr lo 222 (52, [some (.ref 162), some (.int g), some (.int c), some (.int (Int32.ofInt (-1)))], [.int (Int32.ofInt (-1))], v211 q cc gc (fset h 162 0 (.int (nI 0))) u, 198, sl) = some R := hh
  have er8 : R = (some (.int (Int32.ofInt (-1))), v211 q cc gc (fset h 162 0 (.int (nI 0))) u, 198, sl) := (rn_ret rfl (Or.inl rfl) hh).2
  have ed : v222w2 q cc gc h u g c = ((Int32.ofInt (-1)), v211 q cc gc (fset h 162 0 (.int (nI 0))) u) := rfl
  refine ⟨?_, ?_, ?_⟩ <;> rw [ed]
  · exact er8
  · exact hc2
  · exact (fr_g rfl rfl hf3 (fr_f rfl rfl fr_0))
theorem v222w2_fr {cc gc : Nat} {q : QT} {h : pm_H} {u : Nat} {g : Int32} {c : Int32} (hw : HC q cc gc h) (hb1 : cB gc g = true) (hb2 : cB cc c = false) (hu : u ≤ 15) : HC q cc gc ((v222w2 q cc gc h u g c).2) ∧ frm [162, 178] [(162, 0)] h ((v222w2 q cc gc h u g c).2) := by
  unfold v222w2
  show HC q cc gc (v211 q cc gc (fset h 162 0 (.int (nI 0))) u) ∧ frm [162, 178] [(162, 0)] h (v211 q cc gc (fset h 162 0 (.int (nI 0))) u)
  exact ⟨(v211_fr (u := u) (hc_f rfl rfl (by decide) rfl hw) hu).1, (fr_g rfl rfl (v211_fr (u := u) (hc_f rfl rfl (by decide) rfl hw) hu).2 (fr_f rfl rfl fr_0))⟩
def v98w (q : QT) (cc gc : Nat) (a : Int32) (b : Int32) (m : Int32) : Int32 := (Int32.ofInt (-1))
theorem v98w_ok {n fr lo sl cc gc : Nat} {q : QT} {h : pm_H} {R : pm_Rs} {a : Int32} {b : Int32} {m : Int32} (hw : HC q cc gc h) (hb : pP cc a b = false) (hh : pm_run PT n fr lo 98 (0, pm_l0 [.ref 0, .int a, .int b, .int m] 4, [], h, 198, sl) = some R) : R = (some (.int (v98w q cc gc a b m)), h, 198, sl) := by
  have hcc := hw.cb
  have hgc := hw.gb
  have hzr := hw.zr
  obtain ⟨n, hh⟩ := rn_i rfl rfl rfl rfl hh
  obtain ⟨n, hh⟩ := rn_i rfl rfl rfl rfl hh
  obtain ⟨n, hh⟩ := rn_i rfl rfl rfl rfl hh
  obtain ⟨n, hh⟩ := rn_i rfl rfl rfl rfl hh
  have hh : pm_run PT n fr lo 98 (4, [some (.ref 0), some (.int a), some (.int b), some (.int m)], [.int m, .int b, .int a, .ref 0], h, 198, sl) = some R := hh
  obtain ⟨n, fr1, lo1, r1, hh1, hh⟩ := rn_call (w := 0) (t := 137) rfl rfl hh
  have hh1 : pm_run PT n fr1 lo1 137 (0, [some (.ref 0), some (.int a), some (.int b), some (.int m)], [], h, 198, sl) = some r1 := hh1
  obtain ⟨n1, hh1⟩ := rn_i rfl rfl rfl rfl hh1
  have hh1 : pm_run PT n1 fr1 lo1 137 (1, [some (.ref 0), some (.int a), some (.int b), some (.int m)], [.ref 0], h, 198, sl) = some r1 := hh1
  obtain ⟨n1, hh1⟩ := rn_gr hw.wt rfl rfl (by decide) rfl (by decide) (show _ = some (2, ((5 : Nat) : Int), 1) from rfl) rfl hh1
  obtain ⟨n1, hh1⟩ := rn_i rfl rfl rfl rfl hh1
  obtain ⟨n1, hh1⟩ := rn_i rfl rfl rfl rfl hh1
  have hh1 : pm_run PT n1 fr1 lo1 137 (6, [some (.ref 0), some (.int a), some (.int b), some (.int m)], [.int b, .int a, .ref 5], h, 198, sl) = some r1 := hh1
  obtain ⟨n1, fr2, lo2, r2, hh2, hh1⟩ := rn_call (w := 0) (t := 24) rfl rfl hh1
  have er1 := xa_run hcc (hc_rC hw) hh2
  subst er1
  have hh1 : pm_run PT n1 fr1 lo1 137 (9, [some (.ref 0), some (.int a), some (.int b), some (.int m)], [.int (cond (pP cc a b) 1 0)], h, 198, sl) = some r1 := hh1
  obtain ⟨n1, hh1⟩ := en_zn (cc := .eq) (off := 19) (t := 28) (b := !(pP cc a b)) eb_eq rfl rfl hh1
  have hh1 := en_nf hb hh1
  have hh1 : pm_run PT n1 fr1 lo1 137 (28, [some (.ref 0), some (.int a), some (.int b), some (.int m)], [], h, 198, sl) = some r1 := hh1
  obtain ⟨n1, hh1⟩ := rn_i rfl rfl rfl rfl hh1
  obtain ⟨n1, hh1⟩ := rn_i rfl rfl rfl rfl hh1
  have hh1 : pm_run PT n1 fr1 lo1 137 (33, [some (.ref 0), some (.int a), some (.int b), some (.int m)], [.int (nI 1)], h, 198, sl) = some r1 := hh1
  have er2 : r1 = (some (.int (nI 1)), h, 198, sl) := (rn_ret rfl (Or.inr rfl) hh1).2
  subst er2
  have hh : pm_run PT n fr lo 98 (7, [some (.ref 0), some (.int a), some (.int b), some (.int m)], [.int (nI 1)], h, 198, sl) = some R := hh
  obtain ⟨n, hh⟩ := en_zn (cc := .eq) (off := 5) (t := 12) (b := false) (by decide) rfl rfl hh
  have hh : pm_run PT n fr lo 98 (10, [some (.ref 0), some (.int a), some (.int b), some (.int m)], [], h, 198, sl) = some R := hh
  obtain ⟨n, hh⟩ := rn_i rfl rfl rfl rfl hh
  have hh : pm_run PT n fr lo 98 (11, [some (.ref 0), some (.int a), some (.int b), some (.int m)], [.int (Int32.ofInt (-1))], h, 198, sl) = some R := hh
  have er3 : R = (some (.int (Int32.ofInt (-1))), h, 198, sl) := (rn_ret rfl (Or.inl rfl) hh).2
  have ed : v98w q cc gc a b m = (Int32.ofInt (-1)) := rfl
  rw [ed]
  exact er3
def v99w (q : QT) (cc gc : Nat) (a : Int32) (b : Int32) : Int32 := (Int32.ofInt (-1))
theorem v99w_ok {n fr lo sl cc gc : Nat} {q : QT} {h : pm_H} {R : pm_Rs} {a : Int32} {b : Int32} (hw : HC q cc gc h) (hb : pP cc a b = false) (hh : pm_run PT n fr lo 99 (0, pm_l0 [.ref 0, .int a, .int b] 5, [], h, 198, sl) = some R) : R = (some (.int (v99w q cc gc a b)), h, 198, sl) := by
  have hcc := hw.cb
  have hgc := hw.gb
  have hzr := hw.zr
  obtain ⟨n, hh⟩ := rn_i rfl rfl rfl rfl hh
  obtain ⟨n, hh⟩ := rn_i rfl rfl rfl rfl hh
  obtain ⟨n, hh⟩ := rn_i rfl rfl rfl rfl hh
  have hh : pm_run PT n fr lo 99 (3, [some (.ref 0), some (.int a), some (.int b), none, none], [.int b, .int a, .ref 0], h, 198, sl) = some R := hh
  obtain ⟨n, fr1, lo1, r1, hh1, hh⟩ := rn_call (w := 0) (t := 139) rfl rfl hh
  have hh1 : pm_run PT n fr1 lo1 139 (0, [some (.ref 0), some (.int a), some (.int b)], [], h, 198, sl) = some r1 := hh1
  obtain ⟨n1, hh1⟩ := rn_i rfl rfl rfl rfl hh1
  have hh1 : pm_run PT n1 fr1 lo1 139 (1, [some (.ref 0), some (.int a), some (.int b)], [.ref 0], h, 198, sl) = some r1 := hh1
  obtain ⟨n1, hh1⟩ := rn_gr hw.wt rfl rfl (by decide) rfl (by decide) (show _ = some (2, ((5 : Nat) : Int), 1) from rfl) rfl hh1
  obtain ⟨n1, hh1⟩ := rn_i rfl rfl rfl rfl hh1
  obtain ⟨n1, hh1⟩ := rn_i rfl rfl rfl rfl hh1
  have hh1 : pm_run PT n1 fr1 lo1 139 (6, [some (.ref 0), some (.int a), some (.int b)], [.int b, .int a, .ref 5], h, 198, sl) = some r1 := hh1
  obtain ⟨n1, fr2, lo2, r2, hh2, hh1⟩ := rn_call (w := 0) (t := 24) rfl rfl hh1
  have er1 := xa_run hcc (hc_rC hw) hh2
  subst er1
  have hh1 : pm_run PT n1 fr1 lo1 139 (9, [some (.ref 0), some (.int a), some (.int b)], [.int (cond (pP cc a b) 1 0)], h, 198, sl) = some r1 := hh1
  obtain ⟨n1, hh1⟩ := en_zn (cc := .ne) (off := 5) (t := 14) (b := pP cc a b) eb_ne rfl rfl hh1
  have hh1 := en_f hb hh1
  have hh1 : pm_run PT n1 fr1 lo1 139 (12, [some (.ref 0), some (.int a), some (.int b)], [], h, 198, sl) = some r1 := hh1
  obtain ⟨n1, hh1⟩ := rn_i rfl rfl rfl rfl hh1
  have hh1 : pm_run PT n1 fr1 lo1 139 (13, [some (.ref 0), some (.int a), some (.int b)], [.int (Int32.ofInt (-1))], h, 198, sl) = some r1 := hh1
  have er2 : r1 = (some (.int (Int32.ofInt (-1))), h, 198, sl) := (rn_ret rfl (Or.inl rfl) hh1).2
  subst er2
  obtain ⟨n, hh⟩ := rn_i rfl rfl rfl rfl hh
  obtain ⟨n, hh⟩ := rn_i rfl rfl rfl rfl hh
  have hh : pm_run PT n fr lo 99 (8, [some (.ref 0), some (.int a), some (.int b), some (.int (Int32.ofInt (-1))), none], [.int (Int32.ofInt (-1))], h, 198, sl) = some R := hh
  obtain ⟨n, hh⟩ := en_zn (cc := .ge) (off := 5) (t := 13) (b := pm_cmp .ge (Int32.ofInt (-1)) 0) rfl rfl rfl hh
  have hh := en_f (by decide) hh
  have hh : pm_run PT n fr lo 99 (11, [some (.ref 0), some (.int a), some (.int b), some (.int (Int32.ofInt (-1))), none], [], h, 198, sl) = some R := hh
  obtain ⟨n, hh⟩ := rn_i rfl rfl rfl rfl hh
  have hh : pm_run PT n fr lo 99 (12, [some (.ref 0), some (.int a), some (.int b), some (.int (Int32.ofInt (-1))), none], [.int (Int32.ofInt (-1))], h, 198, sl) = some R := hh
  have er3 : R = (some (.int (Int32.ofInt (-1))), h, 198, sl) := (rn_ret rfl (Or.inl rfl) hh).2
  have ed : v99w q cc gc a b = (Int32.ofInt (-1)) := rfl
  rw [ed]
  exact er3
def v224w (q : QT) (cc gc : Nat) (h : pm_H) (u : Nat) (a : Int32) (b : Int32) (m : Int32) : Int32 × pm_H := ((Int32.ofInt (-1)), v211 q cc gc (fset h 162 0 (.int (nI 0))) u)
theorem v224w_ok {n fr lo sl cc gc : Nat} {q : QT} {h : pm_H} {R : pm_Rs} {u : Nat} {a : Int32} {b : Int32} {m : Int32} (hw : HC q cc gc h) (hb : pP cc a b = false) (hu : u ≤ 15) (e1 : Fi h 162 27 = nI u) (hh : pm_run PT n fr lo 224 (0, pm_l0 [.ref 162, .int a, .int b, .int m] 4, [], h, 198, sl) = some R) : R = (some (.int ((v224w q cc gc h u a b m).1)), (v224w q cc gc h u a b m).2, 198, sl) ∧ HC q cc gc ((v224w q cc gc h u a b m).2) ∧ frm [162, 178] [(162, 0)] h ((v224w q cc gc h u a b m).2) := by
  have hcc := hw.cb
  have hgc := hw.gb
  have hzr := hw.zr
  obtain ⟨n, hh⟩ := rn_i rfl rfl rfl rfl hh
  obtain ⟨n, hh⟩ := rn_i rfl rfl rfl rfl hh
  have hh : pm_run PT n fr lo 224 (2, [some (.ref 162), some (.int a), some (.int b), some (.int m)], [.int (nI 0), .ref 162], h, 198, sl) = some R := hh
  obtain ⟨n, hh⟩ := rn_pi hw.wt rfl rfl (by decide) rfl (by decide) rfl hh
  obtain ⟨n, hh⟩ := rn_i rfl rfl rfl rfl hh
  have hh : pm_run PT n fr lo 224 (6, [some (.ref 162), some (.int a), some (.int b), some (.int m)], [.ref 162], fset h 162 0 (.int (nI 0)), 198, sl) = some R := hh
  obtain ⟨n, fr1, lo1, r1, hh1, hh⟩ := rn_call (w := 0) (t := 211) rfl rfl hh
  obtain ⟨er1, hc2, hf3⟩ := v211_ok (u := u) (hc_f rfl rfl (by decide) rfl hw) hu ((Fi_n (Or.inr (by decide))).trans e1) hh1
  subst er1
  obtain ⟨n, hh⟩ := rn_i rfl rfl rfl rfl hh
  obtain ⟨n, hh⟩ := rn_i rfl rfl rfl rfl hh
  obtain ⟨n, hh⟩ := rn_i rfl rfl rfl rfl hh
  obtain ⟨n, hh⟩ := rn_i rfl rfl rfl rfl hh
  obtain ⟨n, hh⟩ := rn_i rfl rfl rfl rfl hh
  have hh : pm_run PT n fr lo 224 (14, [some (.ref 162), some (.int a), some (.int b), some (.int m)], [.int m, .int b, .int a, .ref 162, .ref 162], v211 q cc gc (fset h 162 0 (.int (nI 0))) u, 198, sl) = some R := hh
  obtain ⟨n, fr1, lo1, r1, hh1, hh⟩ := rn_call (w := 0) (t := 220) rfl rfl hh
  have hh1 : pm_run PT n fr1 lo1 220 (0, [some (.ref 162), some (.int a), some (.int b), some (.int m)], [], v211 q cc gc (fset h 162 0 (.int (nI 0))) u, 198, sl) = some r1 := hh1
  obtain ⟨n1, hh1⟩ := rn_i rfl rfl rfl rfl hh1
  obtain ⟨n1, hh1⟩ := rn_i rfl rfl rfl rfl hh1
  obtain ⟨n1, hh1⟩ := rn_i rfl rfl rfl rfl hh1
  have hh1 : pm_run PT n1 fr1 lo1 220 (3, [some (.ref 162), some (.int a), some (.int b), some (.int m)], [.int b, .int a, .ref 162], v211 q cc gc (fset h 162 0 (.int (nI 0))) u, 198, sl) = some r1 := hh1
  obtain ⟨n1, fr2, lo2, r2, hh2, hh1⟩ := rn_call (w := 0) (t := 170) rfl rfl hh1
  have er4 := ma_run hcc (hc_m3 hc2) hh2
  subst er4
  have hh1 : pm_run PT n1 fr1 lo1 220 (6, [some (.ref 162), some (.int a), some (.int b), some (.int m)], [.int (cond (pP cc a b) 1 0)], v211 q cc gc (fset h 162 0 (.int (nI 0))) u, 198, sl) = some r1 := hh1
  obtain ⟨n1, hh1⟩ := en_zn (cc := .eq) (off := 21) (t := 27) (b := !(pP cc a b)) eb_eq rfl rfl hh1
  have hh1 := en_nf hb hh1
  have hh1 : pm_run PT n1 fr1 lo1 220 (27, [some (.ref 162), some (.int a), some (.int b), some (.int m)], [], v211 q cc gc (fset h 162 0 (.int (nI 0))) u, 198, sl) = some r1 := hh1
  obtain ⟨n1, hh1⟩ := rn_i rfl rfl rfl rfl hh1
  have hh1 : pm_run PT n1 fr1 lo1 220 (28, [some (.ref 162), some (.int a), some (.int b), some (.int m)], [.int (Int32.ofInt (-1))], v211 q cc gc (fset h 162 0 (.int (nI 0))) u, 198, sl) = some r1 := hh1
  have er5 : r1 = (some (.int (Int32.ofInt (-1))), v211 q cc gc (fset h 162 0 (.int (nI 0))) u, 198, sl) := (rn_ret rfl (Or.inl rfl) hh1).2
  subst er5
  have hh : pm_run PT n fr lo 224 (17, [some (.ref 162), some (.int a), some (.int b), some (.int m)], [.int (Int32.ofInt (-1)), .ref 162], v211 q cc gc (fset h 162 0 (.int (nI 0))) u, 198, sl) = some R := hh
  obtain ⟨n, fr1, lo1, r1, hh1, hh⟩ := rn_call (w := 0) (t := 213) rfl rfl hh
  have hh1 : pm_run PT n fr1 lo1 213 (0, [some (.ref 162), some (.int (Int32.ofInt (-1)))], [], v211 q cc gc (fset h 162 0 (.int (nI 0))) u, 198, sl) = some r1 := hh1
  obtain ⟨n1, hh1⟩ := rn_i rfl rfl rfl rfl hh1
  have hh1 : pm_run PT n1 fr1 lo1 213 (1, [some (.ref 162), some (.int (Int32.ofInt (-1)))], [.int (Int32.ofInt (-1))], v211 q cc gc (fset h 162 0 (.int (nI 0))) u, 198, sl) = some r1 := hh1
  obtain ⟨n1, hh1⟩ := en_zn (cc := .ge) (off := 7) (t := 8) (b := pm_cmp .ge (Int32.ofInt (-1)) 0) rfl rfl rfl hh1
  have hh1 := en_f (by decide) hh1
  have hh1 : pm_run PT n1 fr1 lo1 213 (4, [some (.ref 162), some (.int (Int32.ofInt (-1)))], [], v211 q cc gc (fset h 162 0 (.int (nI 0))) u, 198, sl) = some r1 := hh1
  obtain ⟨n1, hh1⟩ := rn_i rfl rfl rfl rfl hh1
  obtain ⟨n1, hh1⟩ := rn_i rfl rfl rfl rfl hh1
  have hh1 : pm_run PT n1 fr1 lo1 213 (13, [some (.ref 162), some (.int (Int32.ofInt (-1)))], [.int (Int32.ofInt (-1))], v211 q cc gc (fset h 162 0 (.int (nI 0))) u, 198, sl) = some r1 := hh1
  have er6 : r1 = (some (.int (Int32.ofInt (-1))), v211 q cc gc (fset h 162 0 (.int (nI 0))) u, 198, sl) := (rn_ret rfl (Or.inl rfl) hh1).2
  subst er6
  have hh : pm_run PT n fr lo 224 (20, [some (.ref 162), some (.int a), some (.int b), some (.int m)], [.int (Int32.ofInt (-1))], v211 q cc gc (fset h 162 0 (.int (nI 0))) u, 198, sl) = some R := hh
  have er7 : R = (some (.int (Int32.ofInt (-1))), v211 q cc gc (fset h 162 0 (.int (nI 0))) u, 198, sl) := (rn_ret rfl (Or.inl rfl) hh).2
  have ed : v224w q cc gc h u a b m = ((Int32.ofInt (-1)), v211 q cc gc (fset h 162 0 (.int (nI 0))) u) := rfl
  refine ⟨?_, ?_, ?_⟩ <;> rw [ed]
  · exact er7
  · exact hc2
  · exact (fr_g rfl rfl hf3 (fr_f rfl rfl fr_0))
theorem v224w_fr {cc gc : Nat} {q : QT} {h : pm_H} {u : Nat} {a : Int32} {b : Int32} {m : Int32} (hw : HC q cc gc h) (hb : pP cc a b = false) (hu : u ≤ 15) : HC q cc gc ((v224w q cc gc h u a b m).2) ∧ frm [162, 178] [(162, 0)] h ((v224w q cc gc h u a b m).2) := by
  unfold v224w
  show HC q cc gc (v211 q cc gc (fset h 162 0 (.int (nI 0))) u) ∧ frm [162, 178] [(162, 0)] h (v211 q cc gc (fset h 162 0 (.int (nI 0))) u)
  exact ⟨(v211_fr (u := u) (hc_f rfl rfl (by decide) rfl hw) hu).1, (fr_g rfl rfl (v211_fr (u := u) (hc_f rfl rfl (by decide) rfl hw) hu).2 (fr_f rfl rfl fr_0))⟩
def v225w (q : QT) (cc gc : Nat) (h : pm_H) (u : Nat) (a : Int32) (b : Int32) : Int32 × pm_H := ((Int32.ofInt (-1)), v211 q cc gc (fset h 162 0 (.int (nI 0))) u)
theorem v225w_ok {n fr lo sl cc gc : Nat} {q : QT} {h : pm_H} {R : pm_Rs} {u : Nat} {a : Int32} {b : Int32} (hw : HC q cc gc h) (hb : pP cc a b = false) (hu : u ≤ 15) (e1 : Fi h 162 27 = nI u) (hh : pm_run PT n fr lo 225 (0, pm_l0 [.ref 162, .int a, .int b] 3, [], h, 198, sl) = some R) : R = (some (.int ((v225w q cc gc h u a b).1)), (v225w q cc gc h u a b).2, 198, sl) ∧ HC q cc gc ((v225w q cc gc h u a b).2) ∧ frm [162, 178] [(162, 0)] h ((v225w q cc gc h u a b).2) := by
  have hcc := hw.cb
  have hgc := hw.gb
  have hzr := hw.zr
  obtain ⟨n, hh⟩ := rn_i rfl rfl rfl rfl hh
  obtain ⟨n, hh⟩ := rn_i rfl rfl rfl rfl hh
  have hh : pm_run PT n fr lo 225 (2, [some (.ref 162), some (.int a), some (.int b)], [.int (nI 0), .ref 162], h, 198, sl) = some R := hh
  obtain ⟨n, hh⟩ := rn_pi hw.wt rfl rfl (by decide) rfl (by decide) rfl hh
  obtain ⟨n, hh⟩ := rn_i rfl rfl rfl rfl hh
  have hh : pm_run PT n fr lo 225 (6, [some (.ref 162), some (.int a), some (.int b)], [.ref 162], fset h 162 0 (.int (nI 0)), 198, sl) = some R := hh
  obtain ⟨n, fr1, lo1, r1, hh1, hh⟩ := rn_call (w := 0) (t := 211) rfl rfl hh
  obtain ⟨er1, hc2, hf3⟩ := v211_ok (u := u) (hc_f rfl rfl (by decide) rfl hw) hu ((Fi_n (Or.inr (by decide))).trans e1) hh1
  subst er1
  obtain ⟨n, hh⟩ := rn_i rfl rfl rfl rfl hh
  obtain ⟨n, hh⟩ := rn_i rfl rfl rfl rfl hh
  obtain ⟨n, hh⟩ := rn_i rfl rfl rfl rfl hh
  obtain ⟨n, hh⟩ := rn_i rfl rfl rfl rfl hh
  have hh : pm_run PT n fr lo 225 (13, [some (.ref 162), some (.int a), some (.int b)], [.int b, .int a, .ref 162, .ref 162], v211 q cc gc (fset h 162 0 (.int (nI 0))) u, 198, sl) = some R := hh
  obtain ⟨n, fr1, lo1, r1, hh1, hh⟩ := rn_call (w := 0) (t := 221) rfl rfl hh
  have hh1 : pm_run PT n fr1 lo1 221 (0, [some (.ref 162), some (.int a), some (.int b), none, none], [], v211 q cc gc (fset h 162 0 (.int (nI 0))) u, 198, sl) = some r1 := hh1
  obtain ⟨n1, hh1⟩ := rn_i rfl rfl rfl rfl hh1
  obtain ⟨n1, hh1⟩ := rn_i rfl rfl rfl rfl hh1
  obtain ⟨n1, hh1⟩ := rn_i rfl rfl rfl rfl hh1
  have hh1 : pm_run PT n1 fr1 lo1 221 (3, [some (.ref 162), some (.int a), some (.int b), none, none], [.int b, .int a, .ref 162], v211 q cc gc (fset h 162 0 (.int (nI 0))) u, 198, sl) = some r1 := hh1
  obtain ⟨n1, fr2, lo2, r2, hh2, hh1⟩ := rn_call (w := 0) (t := 170) rfl rfl hh1
  have er4 := ma_run hcc (hc_m3 hc2) hh2
  subst er4
  have hh1 : pm_run PT n1 fr1 lo1 221 (6, [some (.ref 162), some (.int a), some (.int b), none, none], [.int (cond (pP cc a b) 1 0)], v211 q cc gc (fset h 162 0 (.int (nI 0))) u, 198, sl) = some r1 := hh1
  obtain ⟨n1, hh1⟩ := en_zn (cc := .ne) (off := 5) (t := 11) (b := pP cc a b) eb_ne rfl rfl hh1
  have hh1 := en_f hb hh1
  have hh1 : pm_run PT n1 fr1 lo1 221 (9, [some (.ref 162), some (.int a), some (.int b), none, none], [], v211 q cc gc (fset h 162 0 (.int (nI 0))) u, 198, sl) = some r1 := hh1
  obtain ⟨n1, hh1⟩ := rn_i rfl rfl rfl rfl hh1
  have hh1 : pm_run PT n1 fr1 lo1 221 (10, [some (.ref 162), some (.int a), some (.int b), none, none], [.int (Int32.ofInt (-1))], v211 q cc gc (fset h 162 0 (.int (nI 0))) u, 198, sl) = some r1 := hh1
  have er5 : r1 = (some (.int (Int32.ofInt (-1))), v211 q cc gc (fset h 162 0 (.int (nI 0))) u, 198, sl) := (rn_ret rfl (Or.inl rfl) hh1).2
  subst er5
  have hh : pm_run PT n fr lo 225 (16, [some (.ref 162), some (.int a), some (.int b)], [.int (Int32.ofInt (-1)), .ref 162], v211 q cc gc (fset h 162 0 (.int (nI 0))) u, 198, sl) = some R := hh
  obtain ⟨n, fr1, lo1, r1, hh1, hh⟩ := rn_call (w := 0) (t := 213) rfl rfl hh
  have hh1 : pm_run PT n fr1 lo1 213 (0, [some (.ref 162), some (.int (Int32.ofInt (-1)))], [], v211 q cc gc (fset h 162 0 (.int (nI 0))) u, 198, sl) = some r1 := hh1
  obtain ⟨n1, hh1⟩ := rn_i rfl rfl rfl rfl hh1
  have hh1 : pm_run PT n1 fr1 lo1 213 (1, [some (.ref 162), some (.int (Int32.ofInt (-1)))], [.int (Int32.ofInt (-1))], v211 q cc gc (fset h 162 0 (.int (nI 0))) u, 198, sl) = some r1 := hh1
  obtain ⟨n1, hh1⟩ := en_zn (cc := .ge) (off := 7) (t := 8) (b := pm_cmp .ge (Int32.ofInt (-1)) 0) rfl rfl rfl hh1
  have hh1 := en_f (by decide) hh1
  have hh1 : pm_run PT n1 fr1 lo1 213 (4, [some (.ref 162), some (.int (Int32.ofInt (-1)))], [], v211 q cc gc (fset h 162 0 (.int (nI 0))) u, 198, sl) = some r1 := hh1
  obtain ⟨n1, hh1⟩ := rn_i rfl rfl rfl rfl hh1
  obtain ⟨n1, hh1⟩ := rn_i rfl rfl rfl rfl hh1
  have hh1 : pm_run PT n1 fr1 lo1 213 (13, [some (.ref 162), some (.int (Int32.ofInt (-1)))], [.int (Int32.ofInt (-1))], v211 q cc gc (fset h 162 0 (.int (nI 0))) u, 198, sl) = some r1 := hh1
  have er6 : r1 = (some (.int (Int32.ofInt (-1))), v211 q cc gc (fset h 162 0 (.int (nI 0))) u, 198, sl) := (rn_ret rfl (Or.inl rfl) hh1).2
  subst er6
  have hh : pm_run PT n fr lo 225 (19, [some (.ref 162), some (.int a), some (.int b)], [.int (Int32.ofInt (-1))], v211 q cc gc (fset h 162 0 (.int (nI 0))) u, 198, sl) = some R := hh
  have er7 : R = (some (.int (Int32.ofInt (-1))), v211 q cc gc (fset h 162 0 (.int (nI 0))) u, 198, sl) := (rn_ret rfl (Or.inl rfl) hh).2
  have ed : v225w q cc gc h u a b = ((Int32.ofInt (-1)), v211 q cc gc (fset h 162 0 (.int (nI 0))) u) := rfl
  refine ⟨?_, ?_, ?_⟩ <;> rw [ed]
  · exact er7
  · exact hc2
  · exact (fr_g rfl rfl hf3 (fr_f rfl rfl fr_0))
theorem v225w_fr {cc gc : Nat} {q : QT} {h : pm_H} {u : Nat} {a : Int32} {b : Int32} (hw : HC q cc gc h) (hb : pP cc a b = false) (hu : u ≤ 15) : HC q cc gc ((v225w q cc gc h u a b).2) ∧ frm [162, 178] [(162, 0)] h ((v225w q cc gc h u a b).2) := by
  unfold v225w
  show HC q cc gc (v211 q cc gc (fset h 162 0 (.int (nI 0))) u) ∧ frm [162, 178] [(162, 0)] h (v211 q cc gc (fset h 162 0 (.int (nI 0))) u)
  exact ⟨(v211_fr (u := u) (hc_f rfl rfl (by decide) rfl hw) hu).1, (fr_g rfl rfl (v211_fr (u := u) (hc_f rfl rfl (by decide) rfl hw) hu).2 (fr_f rfl rfl fr_0))⟩
def v97w1 (q : QT) (cc gc : Nat) (m : Int32) : Int32 := (Int32.ofInt (-1))
theorem v97w1_ok {n fr lo sl cc gc : Nat} {q : QT} {h : pm_H} {R : pm_Rs} {m : Int32} (hw : HC q cc gc h) (hb : pm_cmp .lt m 0 = true) (hh : pm_run PT n fr lo 97 (0, pm_l0 [.ref 0, .int m] 4, [], h, 198, sl) = some R) : R = (some (.int (v97w1 q cc gc m)), h, 198, sl) := by
  have hcc := hw.cb
  have hgc := hw.gb
  have hzr := hw.zr
  obtain ⟨n, hh⟩ := rn_i rfl rfl rfl rfl hh
  have hh : pm_run PT n fr lo 97 (1, [some (.ref 0), some (.int m), none, none], [.int m], h, 198, sl) = some R := hh
  obtain ⟨n, hh⟩ := en_zn (cc := .lt) (off := 9) (t := 10) (b := pm_cmp .lt m 0) rfl rfl rfl hh
  have hh := en_t hb hh
  have hh : pm_run PT n fr lo 97 (10, [some (.ref 0), some (.int m), none, none], [], h, 198, sl) = some R := hh
  obtain ⟨n, hh⟩ := rn_i rfl rfl rfl rfl hh
  have hh : pm_run PT n fr lo 97 (11, [some (.ref 0), some (.int m), none, none], [.int (Int32.ofInt (-1))], h, 198, sl) = some R := hh
  have er1 : R = (some (.int (Int32.ofInt (-1))), h, 198, sl) := (rn_ret rfl (Or.inl rfl) hh).2
  have ed : v97w1 q cc gc m = (Int32.ofInt (-1)) := rfl
  rw [ed]
  exact er1
theorem v97w2_ok {n fr lo sl cc gc : Nat} {q : QT} {h : pm_H} {R : pm_Rs} {m : Int32} (hw : HC q cc gc h) (hb1 : pm_cmp .lt m 0 = false) (hb2 : pm_cmp .le m (nI 60) = false) (hh : pm_run PT n fr lo 97 (0, pm_l0 [.ref 0, .int m] 4, [], h, 198, sl) = some R) : R = (some (.int (v97w1 q cc gc m)), h, 198, sl) := by
  have hcc := hw.cb
  have hgc := hw.gb
  have hzr := hw.zr
  obtain ⟨n, hh⟩ := rn_i rfl rfl rfl rfl hh
  have hh : pm_run PT n fr lo 97 (1, [some (.ref 0), some (.int m), none, none], [.int m], h, 198, sl) = some R := hh
  obtain ⟨n, hh⟩ := en_zn (cc := .lt) (off := 9) (t := 10) (b := pm_cmp .lt m 0) rfl rfl rfl hh
  have hh := en_f hb1 hh
  have hh : pm_run PT n fr lo 97 (4, [some (.ref 0), some (.int m), none, none], [], h, 198, sl) = some R := hh
  obtain ⟨n, hh⟩ := rn_i rfl rfl rfl rfl hh
  obtain ⟨n, hh⟩ := rn_i rfl rfl rfl rfl hh
  have hh : pm_run PT n fr lo 97 (7, [some (.ref 0), some (.int m), none, none], [.int (nI 60), .int m], h, 198, sl) = some R := hh
  obtain ⟨n, hh⟩ := en_cn (cc := .le) (off := 5) (t := 12) (b := pm_cmp .le m (nI 60)) rfl rfl rfl hh
  have hh := en_f hb2 hh
  have hh : pm_run PT n fr lo 97 (10, [some (.ref 0), some (.int m), none, none], [], h, 198, sl) = some R := hh
  obtain ⟨n, hh⟩ := rn_i rfl rfl rfl rfl hh
  have hh : pm_run PT n fr lo 97 (11, [some (.ref 0), some (.int m), none, none], [.int (Int32.ofInt (-1))], h, 198, sl) = some R := hh
  have er1 : R = (some (.int (Int32.ofInt (-1))), h, 198, sl) := (rn_ret rfl (Or.inl rfl) hh).2
  have ed : v97w1 q cc gc m = (Int32.ofInt (-1)) := rfl
  rw [ed]
  exact er1
def v223w (q : QT) (cc gc : Nat) (h : pm_H) (m : Int32) : Int32 × pm_H := ((Int32.ofInt (-1)), fset h 162 0 (.int (nI 0)))
theorem v223w_ok {n fr lo sl cc gc : Nat} {q : QT} {h : pm_H} {R : pm_Rs} {m : Int32} (hw : HC q cc gc h) (hb : in_b ((m).toInt64) (Int64.ofNat 0) (60 : Int64) = false) (hh : pm_run PT n fr lo 223 (0, pm_l0 [.ref 162, .int m] 4, [], h, 198, sl) = some R) : R = (some (.int ((v223w q cc gc h m).1)), (v223w q cc gc h m).2, 198, sl) ∧ HC q cc gc ((v223w q cc gc h m).2) ∧ frm [162] [(162, 0)] h ((v223w q cc gc h m).2) := by
  have hcc := hw.cb
  have hgc := hw.gb
  have hzr := hw.zr
  obtain ⟨n, hh⟩ := rn_i rfl rfl rfl rfl hh
  obtain ⟨n, hh⟩ := rn_i rfl rfl rfl rfl hh
  have hh : pm_run PT n fr lo 223 (2, [some (.ref 162), some (.int m), none, none], [.int (nI 0), .ref 162], h, 198, sl) = some R := hh
  obtain ⟨n, hh⟩ := rn_pi hw.wt rfl rfl (by decide) rfl (by decide) rfl hh
  obtain ⟨n, hh⟩ := rn_i rfl rfl rfl rfl hh
  obtain ⟨n, hh⟩ := rn_i rfl rfl rfl rfl hh
  obtain ⟨n, hh⟩ := rn_i rfl rfl rfl rfl hh
  obtain ⟨n, hh⟩ := rn_i rfl rfl rfl rfl hh
  have hh : pm_run PT n fr lo 223 (11, [some (.ref 162), some (.int m), none, none], [.long (60 : Int64), .long (Int64.ofNat 0), .long ((m).toInt64)], fset h 162 0 (.int (nI 0)), 198, sl) = some R := hh
  obtain ⟨n, fr1, lo1, r1, hh1, hh⟩ := rn_call (w := 2) (t := 163) rfl rfl hh
  have er1 := rn_dt (F := 10) (Lo := 1000) (hd_in (fr := 10) (lo := 1000) (h := fset h 162 0 (.int (nI 0))) (sl := sl) ((m).toInt64) (Int64.ofNat 0) (60 : Int64)) hh1
  subst er1
  have hh : pm_run PT n fr lo 223 (14, [some (.ref 162), some (.int m), none, none], [.int (cond (in_b ((m).toInt64) (Int64.ofNat 0) (60 : Int64)) 1 0)], fset h 162 0 (.int (nI 0)), 198, sl) = some R := hh
  obtain ⟨n, hh⟩ := en_zn (cc := .ne) (off := 5) (t := 19) (b := in_b ((m).toInt64) (Int64.ofNat 0) (60 : Int64)) eb_ne rfl rfl hh
  have hh := en_f hb hh
  have hh : pm_run PT n fr lo 223 (17, [some (.ref 162), some (.int m), none, none], [], fset h 162 0 (.int (nI 0)), 198, sl) = some R := hh
  obtain ⟨n, hh⟩ := rn_i rfl rfl rfl rfl hh
  have hh : pm_run PT n fr lo 223 (18, [some (.ref 162), some (.int m), none, none], [.int (Int32.ofInt (-1))], fset h 162 0 (.int (nI 0)), 198, sl) = some R := hh
  have er2 : R = (some (.int (Int32.ofInt (-1))), fset h 162 0 (.int (nI 0)), 198, sl) := (rn_ret rfl (Or.inl rfl) hh).2
  have ed : v223w q cc gc h m = ((Int32.ofInt (-1)), fset h 162 0 (.int (nI 0))) := rfl
  refine ⟨?_, ?_, ?_⟩ <;> rw [ed]
  · exact er2
  · exact (hc_f rfl rfl (by decide) rfl hw)
  · exact (fr_f rfl rfl fr_0)
theorem v223w_fr {cc gc : Nat} {q : QT} {h : pm_H} {m : Int32} (hw : HC q cc gc h) (hb : in_b ((m).toInt64) (Int64.ofNat 0) (60 : Int64) = false) : HC q cc gc ((v223w q cc gc h m).2) ∧ frm [162] [(162, 0)] h ((v223w q cc gc h m).2) := by
  unfold v223w
  show HC q cc gc (fset h 162 0 (.int (nI 0))) ∧ frm [162] [(162, 0)] h (fset h 162 0 (.int (nI 0)))
  exact ⟨(hc_f rfl rfl (by decide) rfl hw), (fr_f rfl rfl fr_0)⟩
def v102w1 (q : QT) (cc gc : Nat) (g : Int32) (c : Int32) : Int32 := (Int32.ofInt (-1))
theorem v102w1_ok {n fr lo sl cc gc : Nat} {q : QT} {h : pm_H} {R : pm_Rs} {g : Int32} {c : Int32} (hw : HC q cc gc h) (hb1 : cB gc g = false) (hh : pm_run PT n fr lo 102 (0, pm_l0 [.ref 0, .int g, .int c] 3, [], h, 198, sl) = some R) : R = (some (.int (v102w1 q cc gc g c)), h, 198, sl) := by
  have hcc := hw.cb
  have hgc := hw.gb
  have hzr := hw.zr
  obtain ⟨n, hh⟩ := rn_i rfl rfl rfl rfl hh
  have hh : pm_run PT n fr lo 102 (1, [some (.ref 0), some (.int g), some (.int c)], [.ref 0], h, 198, sl) = some R := hh
  obtain ⟨n, hh⟩ := rn_gr hw.wt rfl rfl (by decide) rfl (by decide) (show _ = some (2, ((5 : Nat) : Int), 1) from rfl) rfl hh
  obtain ⟨n, hh⟩ := rn_i rfl rfl rfl rfl hh
  have hh : pm_run PT n fr lo 102 (5, [some (.ref 0), some (.int g), some (.int c)], [.int g, .ref 5], h, 198, sl) = some R := hh
  obtain ⟨n, fr1, lo1, r1, hh1, hh⟩ := rn_call (w := 0) (t := 25) rfl rfl hh
  have er1 := en_xg hgc (hc_rG hw) hh1
  subst er1
  have hh : pm_run PT n fr lo 102 (8, [some (.ref 0), some (.int g), some (.int c)], [.int (cond (cB gc g) 1 0)], h, 198, sl) = some R := hh
  obtain ⟨n, hh⟩ := en_zn (cc := .eq) (off := 14) (t := 22) (b := !(cB gc g)) eb_eq rfl rfl hh
  have hh := en_nf hb1 hh
  have hh : pm_run PT n fr lo 102 (22, [some (.ref 0), some (.int g), some (.int c)], [], h, 198, sl) = some R := hh
  obtain ⟨n, hh⟩ := rn_i rfl rfl rfl rfl hh
  have hh : pm_run PT n fr lo 102 (23, [some (.ref 0), some (.int g), some (.int c)], [.int (Int32.ofInt (-1))], h, 198, sl) = some R := hh
  have er2 : R = (some (.int (Int32.ofInt (-1))), h, 198, sl) := (rn_ret rfl (Or.inl rfl) hh).2
  have ed : v102w1 q cc gc g c = (Int32.ofInt (-1)) := rfl
  rw [ed]
  exact er2
def v230w1 (q : QT) (cc gc : Nat) (h : pm_H) (g : Int32) (c : Int32) : Int32 × pm_H := ((Int32.ofInt (-1)), fset h 162 0 (.int (nI 0)))
theorem v230w1_ok {n fr lo sl cc gc : Nat} {q : QT} {h : pm_H} {R : pm_Rs} {g : Int32} {c : Int32} (hw : HC q cc gc h) (hb1 : cB gc g = false) (hh : pm_run PT n fr lo 230 (0, pm_l0 [.ref 162, .int g, .int c] 3, [], h, 198, sl) = some R) : R = (some (.int ((v230w1 q cc gc h g c).1)), (v230w1 q cc gc h g c).2, 198, sl) ∧ HC q cc gc ((v230w1 q cc gc h g c).2) ∧ frm [162] [(162, 0)] h ((v230w1 q cc gc h g c).2) := by
  have hcc := hw.cb
  have hgc := hw.gb
  have hzr := hw.zr
  obtain ⟨n, hh⟩ := rn_i rfl rfl rfl rfl hh
  obtain ⟨n, hh⟩ := rn_i rfl rfl rfl rfl hh
  have hh : pm_run PT n fr lo 230 (2, [some (.ref 162), some (.int g), some (.int c)], [.int (nI 0), .ref 162], h, 198, sl) = some R := hh
  obtain ⟨n, hh⟩ := rn_pi hw.wt rfl rfl (by decide) rfl (by decide) rfl hh
  obtain ⟨n, hh⟩ := rn_i rfl rfl rfl rfl hh
  obtain ⟨n, hh⟩ := rn_i rfl rfl rfl rfl hh
  have hh : pm_run PT n fr lo 230 (7, [some (.ref 162), some (.int g), some (.int c)], [.int g, .ref 162], fset h 162 0 (.int (nI 0)), 198, sl) = some R := hh
  obtain ⟨n, fr1, lo1, r1, hh1, hh⟩ := rn_call (w := 0) (t := 169) rfl rfl hh
  have er1 := en_mg hgc (hc_m4 (hc_f rfl rfl (by decide) rfl hw)) hh1
  subst er1
  have hh : pm_run PT n fr lo 230 (10, [some (.ref 162), some (.int g), some (.int c)], [.int (cond (cB gc g) 1 0)], fset h 162 0 (.int (nI 0)), 198, sl) = some R := hh
  obtain ⟨n, hh⟩ := en_zn (cc := .eq) (off := 24) (t := 34) (b := !(cB gc g)) eb_eq rfl rfl hh
  have hh := en_nf hb1 hh
  have hh : pm_run PT n fr lo 230 (34, [some (.ref 162), some (.int g), some (.int c)], [], fset h 162 0 (.int (nI 0)), 198, sl) = some R := hh
  obtain ⟨n, hh⟩ := rn_i rfl rfl rfl rfl hh
  have hh : pm_run PT n fr lo 230 (35, [some (.ref 162), some (.int g), some (.int c)], [.int (Int32.ofInt (-1))], fset h 162 0 (.int (nI 0)), 198, sl) = some R := hh
  have er2 : R = (some (.int (Int32.ofInt (-1))), fset h 162 0 (.int (nI 0)), 198, sl) := (rn_ret rfl (Or.inl rfl) hh).2
  have ed : v230w1 q cc gc h g c = ((Int32.ofInt (-1)), fset h 162 0 (.int (nI 0))) := rfl
  refine ⟨?_, ?_, ?_⟩ <;> rw [ed]
  · exact er2
  · exact (hc_f rfl rfl (by decide) rfl hw)
  · exact (fr_f rfl rfl fr_0)
theorem v230w1_fr {cc gc : Nat} {q : QT} {h : pm_H} {g : Int32} {c : Int32} (hw : HC q cc gc h) (hb1 : cB gc g = false) : HC q cc gc ((v230w1 q cc gc h g c).2) ∧ frm [162] [(162, 0)] h ((v230w1 q cc gc h g c).2) := by
  unfold v230w1
  show HC q cc gc (fset h 162 0 (.int (nI 0))) ∧ frm [162] [(162, 0)] h (fset h 162 0 (.int (nI 0)))
  exact ⟨(hc_f rfl rfl (by decide) rfl hw), (fr_f rfl rfl fr_0)⟩
theorem v102w2_ok {n fr lo sl cc gc : Nat} {q : QT} {h : pm_H} {R : pm_Rs} {g : Int32} {c : Int32} (hw : HC q cc gc h) (hb1 : cB gc g = true) (hb2 : cB cc c = false) (hh : pm_run PT n fr lo 102 (0, pm_l0 [.ref 0, .int g, .int c] 3, [], h, 198, sl) = some R) : R = (some (.int (v102w1 q cc gc g c)), h, 198, sl) := by
  have hcc := hw.cb
  have hgc := hw.gb
  have hzr := hw.zr
  obtain ⟨n, hh⟩ := rn_i rfl rfl rfl rfl hh
  have hh : pm_run PT n fr lo 102 (1, [some (.ref 0), some (.int g), some (.int c)], [.ref 0], h, 198, sl) = some R := hh
  obtain ⟨n, hh⟩ := rn_gr hw.wt rfl rfl (by decide) rfl (by decide) (show _ = some (2, ((5 : Nat) : Int), 1) from rfl) rfl hh
  obtain ⟨n, hh⟩ := rn_i rfl rfl rfl rfl hh
  have hh : pm_run PT n fr lo 102 (5, [some (.ref 0), some (.int g), some (.int c)], [.int g, .ref 5], h, 198, sl) = some R := hh
  obtain ⟨n, fr1, lo1, r1, hh1, hh⟩ := rn_call (w := 0) (t := 25) rfl rfl hh
  have er1 := en_xg hgc (hc_rG hw) hh1
  subst er1
  have hh : pm_run PT n fr lo 102 (8, [some (.ref 0), some (.int g), some (.int c)], [.int (cond (cB gc g) 1 0)], h, 198, sl) = some R := hh
  obtain ⟨n, hh⟩ := en_zn (cc := .eq) (off := 14) (t := 22) (b := !(cB gc g)) eb_eq rfl rfl hh
  have hh := en_nt hb1 hh
  have hh : pm_run PT n fr lo 102 (11, [some (.ref 0), some (.int g), some (.int c)], [], h, 198, sl) = some R := hh
  obtain ⟨n, hh⟩ := rn_i rfl rfl rfl rfl hh
  have hh : pm_run PT n fr lo 102 (12, [some (.ref 0), some (.int g), some (.int c)], [.ref 0], h, 198, sl) = some R := hh
  obtain ⟨n, hh⟩ := rn_gr hw.wt rfl rfl (by decide) rfl (by decide) (show _ = some (2, ((5 : Nat) : Int), 1) from rfl) rfl hh
  obtain ⟨n, hh⟩ := rn_i rfl rfl rfl rfl hh
  have hh : pm_run PT n fr lo 102 (16, [some (.ref 0), some (.int g), some (.int c)], [.int c, .ref 5], h, 198, sl) = some R := hh
  obtain ⟨n, fr1, lo1, r1, hh1, hh⟩ := rn_call (w := 0) (t := 23) rfl rfl hh
  have er2 := xi_run hcc (hc_rC hw) hh1
  subst er2
  have hh : pm_run PT n fr lo 102 (19, [some (.ref 0), some (.int g), some (.int c)], [.int (cond (cB cc c) 1 0)], h, 198, sl) = some R := hh
  obtain ⟨n, hh⟩ := en_zn (cc := .ne) (off := 5) (t := 24) (b := cB cc c) eb_ne rfl rfl hh
  have hh := en_f hb2 hh
  have hh : pm_run PT n fr lo 102 (22, [some (.ref 0), some (.int g), some (.int c)], [], h, 198, sl) = some R := hh
  obtain ⟨n, hh⟩ := rn_i rfl rfl rfl rfl hh
  have hh : pm_run PT n fr lo 102 (23, [some (.ref 0), some (.int g), some (.int c)], [.int (Int32.ofInt (-1))], h, 198, sl) = some R := hh
  have er3 : R = (some (.int (Int32.ofInt (-1))), h, 198, sl) := (rn_ret rfl (Or.inl rfl) hh).2
  have ed : v102w1 q cc gc g c = (Int32.ofInt (-1)) := rfl
  rw [ed]
  exact er3
def v230w2 (q : QT) (cc gc : Nat) (h : pm_H) (g : Int32) (c : Int32) : Int32 × pm_H := ((Int32.ofInt (-1)), fset h 162 0 (.int (nI 0)))
theorem v230w2_ok {n fr lo sl cc gc : Nat} {q : QT} {h : pm_H} {R : pm_Rs} {g : Int32} {c : Int32} (hw : HC q cc gc h) (hb1 : cB gc g = true) (hb2 : cB cc c = false) (hh : pm_run PT n fr lo 230 (0, pm_l0 [.ref 162, .int g, .int c] 3, [], h, 198, sl) = some R) : R = (some (.int ((v230w2 q cc gc h g c).1)), (v230w2 q cc gc h g c).2, 198, sl) ∧ HC q cc gc ((v230w2 q cc gc h g c).2) ∧ frm [162] [(162, 0)] h ((v230w2 q cc gc h g c).2) := by
  have hcc := hw.cb
  have hgc := hw.gb
  have hzr := hw.zr
  obtain ⟨n, hh⟩ := rn_i rfl rfl rfl rfl hh
  obtain ⟨n, hh⟩ := rn_i rfl rfl rfl rfl hh
  have hh : pm_run PT n fr lo 230 (2, [some (.ref 162), some (.int g), some (.int c)], [.int (nI 0), .ref 162], h, 198, sl) = some R := hh
  obtain ⟨n, hh⟩ := rn_pi hw.wt rfl rfl (by decide) rfl (by decide) rfl hh
  obtain ⟨n, hh⟩ := rn_i rfl rfl rfl rfl hh
  obtain ⟨n, hh⟩ := rn_i rfl rfl rfl rfl hh
  have hh : pm_run PT n fr lo 230 (7, [some (.ref 162), some (.int g), some (.int c)], [.int g, .ref 162], fset h 162 0 (.int (nI 0)), 198, sl) = some R := hh
  obtain ⟨n, fr1, lo1, r1, hh1, hh⟩ := rn_call (w := 0) (t := 169) rfl rfl hh
  have er1 := en_mg hgc (hc_m4 (hc_f rfl rfl (by decide) rfl hw)) hh1
  subst er1
  have hh : pm_run PT n fr lo 230 (10, [some (.ref 162), some (.int g), some (.int c)], [.int (cond (cB gc g) 1 0)], fset h 162 0 (.int (nI 0)), 198, sl) = some R := hh
  obtain ⟨n, hh⟩ := en_zn (cc := .eq) (off := 24) (t := 34) (b := !(cB gc g)) eb_eq rfl rfl hh
  have hh := en_nt hb1 hh
  have hh : pm_run PT n fr lo 230 (13, [some (.ref 162), some (.int g), some (.int c)], [], fset h 162 0 (.int (nI 0)), 198, sl) = some R := hh
  obtain ⟨n, hh⟩ := rn_i rfl rfl rfl rfl hh
  obtain ⟨n, hh⟩ := rn_i rfl rfl rfl rfl hh
  have hh : pm_run PT n fr lo 230 (15, [some (.ref 162), some (.int g), some (.int c)], [.int c, .ref 162], fset h 162 0 (.int (nI 0)), 198, sl) = some R := hh
  obtain ⟨n, fr1, lo1, r1, hh1, hh⟩ := rn_call (w := 0) (t := 168) rfl rfl hh
  have er2 := mi_run hcc (hc_m3 (hc_f rfl rfl (by decide) rfl hw)) hh1
  subst er2
  have hh : pm_run PT n fr lo 230 (18, [some (.ref 162), some (.int g), some (.int c)], [.int (cond (cB cc c) 1 0)], fset h 162 0 (.int (nI 0)), 198, sl) = some R := hh
  obtain ⟨n, hh⟩ := en_zn (cc := .eq) (off := 16) (t := 34) (b := !(cB cc c)) eb_eq rfl rfl hh
  have hh := en_nf hb2 hh
  have hh : pm_run PT n fr lo 230 (34, [some (.ref 162), some (.int g), some (.int c)], [], fset h 162 0 (.int (nI 0)), 198, sl) = some R := hh
  obtain ⟨n, hh⟩ := rn_i rfl rfl rfl rfl hh
  have hh : pm_run PT n fr lo 230 (35, [some (.ref 162), some (.int g), some (.int c)], [.int (Int32.ofInt (-1))], fset h 162 0 (.int (nI 0)), 198, sl) = some R := hh
  have er3 : R = (some (.int (Int32.ofInt (-1))), fset h 162 0 (.int (nI 0)), 198, sl) := (rn_ret rfl (Or.inl rfl) hh).2
  have ed : v230w2 q cc gc h g c = ((Int32.ofInt (-1)), fset h 162 0 (.int (nI 0))) := rfl
  refine ⟨?_, ?_, ?_⟩ <;> rw [ed]
  · exact er3
  · exact (hc_f rfl rfl (by decide) rfl hw)
  · exact (fr_f rfl rfl fr_0)
theorem v230w2_fr {cc gc : Nat} {q : QT} {h : pm_H} {g : Int32} {c : Int32} (hw : HC q cc gc h) (hb1 : cB gc g = true) (hb2 : cB cc c = false) : HC q cc gc ((v230w2 q cc gc h g c).2) ∧ frm [162] [(162, 0)] h ((v230w2 q cc gc h g c).2) := by
  unfold v230w2
  show HC q cc gc (fset h 162 0 (.int (nI 0))) ∧ frm [162] [(162, 0)] h (fset h 162 0 (.int (nI 0)))
  exact ⟨(hc_f rfl rfl (by decide) rfl hw), (fr_f rfl rfl fr_0)⟩
def v103w (q : QT) (cc gc : Nat) (g : Int32) : Int32 := (Int32.ofInt (-1))
theorem v103w_ok {n fr lo sl cc gc : Nat} {q : QT} {h : pm_H} {R : pm_Rs} {g : Int32} (hw : HC q cc gc h) (hb : cB gc g = false) (hh : pm_run PT n fr lo 103 (0, pm_l0 [.ref 0, .int g] 7, [], h, 198, sl) = some R) : R = (some (.int (v103w q cc gc g)), h, 198, sl) := by
  have hcc := hw.cb
  have hgc := hw.gb
  have hzr := hw.zr
  obtain ⟨n, hh⟩ := rn_i rfl rfl rfl rfl hh
  have hh : pm_run PT n fr lo 103 (1, [some (.ref 0), some (.int g), none, none, none, none, none], [.ref 0], h, 198, sl) = some R := hh
  obtain ⟨n, hh⟩ := rn_gr hw.wt rfl rfl (by decide) rfl (by decide) (show _ = some (2, ((5 : Nat) : Int), 1) from rfl) rfl hh
  obtain ⟨n, hh⟩ := rn_i rfl rfl rfl rfl hh
  have hh : pm_run PT n fr lo 103 (5, [some (.ref 0), some (.int g), none, none, none, none, none], [.int g, .ref 5], h, 198, sl) = some R := hh
  obtain ⟨n, fr1, lo1, r1, hh1, hh⟩ := rn_call (w := 0) (t := 25) rfl rfl hh
  have er1 := en_xg hgc (hc_rG hw) hh1
  subst er1
  have hh : pm_run PT n fr lo 103 (8, [some (.ref 0), some (.int g), none, none, none, none, none], [.int (cond (cB gc g) 1 0)], h, 198, sl) = some R := hh
  obtain ⟨n, hh⟩ := en_zn (cc := .ne) (off := 5) (t := 13) (b := cB gc g) eb_ne rfl rfl hh
  have hh := en_f hb hh
  have hh : pm_run PT n fr lo 103 (11, [some (.ref 0), some (.int g), none, none, none, none, none], [], h, 198, sl) = some R := hh
  obtain ⟨n, hh⟩ := rn_i rfl rfl rfl rfl hh
  have hh : pm_run PT n fr lo 103 (12, [some (.ref 0), some (.int g), none, none, none, none, none], [.int (Int32.ofInt (-1))], h, 198, sl) = some R := hh
  have er2 : R = (some (.int (Int32.ofInt (-1))), h, 198, sl) := (rn_ret rfl (Or.inl rfl) hh).2
  have ed : v103w q cc gc g = (Int32.ofInt (-1)) := rfl
  rw [ed]
  exact er2
def v231w (q : QT) (cc gc : Nat) (h : pm_H) (g : Int32) : Int32 × pm_H := ((Int32.ofInt (-1)), fset h 162 0 (.int (nI 0)))
theorem v231w_ok {n fr lo sl cc gc : Nat} {q : QT} {h : pm_H} {R : pm_Rs} {g : Int32} (hw : HC q cc gc h) (hb : cB gc g = false) (hh : pm_run PT n fr lo 231 (0, pm_l0 [.ref 162, .int g] 7, [], h, 198, sl) = some R) : R = (some (.int ((v231w q cc gc h g).1)), (v231w q cc gc h g).2, 198, sl) ∧ HC q cc gc ((v231w q cc gc h g).2) ∧ frm [162] [(162, 0)] h ((v231w q cc gc h g).2) := by
  have hcc := hw.cb
  have hgc := hw.gb
  have hzr := hw.zr
  obtain ⟨n, hh⟩ := rn_i rfl rfl rfl rfl hh
  obtain ⟨n, hh⟩ := rn_i rfl rfl rfl rfl hh
  have hh : pm_run PT n fr lo 231 (2, [some (.ref 162), some (.int g), none, none, none, none, none], [.int (nI 0), .ref 162], h, 198, sl) = some R := hh
  obtain ⟨n, hh⟩ := rn_pi hw.wt rfl rfl (by decide) rfl (by decide) rfl hh
  obtain ⟨n, hh⟩ := rn_i rfl rfl rfl rfl hh
  obtain ⟨n, hh⟩ := rn_i rfl rfl rfl rfl hh
  have hh : pm_run PT n fr lo 231 (7, [some (.ref 162), some (.int g), none, none, none, none, none], [.int g, .ref 162], fset h 162 0 (.int (nI 0)), 198, sl) = some R := hh
  obtain ⟨n, fr1, lo1, r1, hh1, hh⟩ := rn_call (w := 0) (t := 169) rfl rfl hh
  have er1 := en_mg hgc (hc_m4 (hc_f rfl rfl (by decide) rfl hw)) hh1
  subst er1
  have hh : pm_run PT n fr lo 231 (10, [some (.ref 162), some (.int g), none, none, none, none, none], [.int (cond (cB gc g) 1 0)], fset h 162 0 (.int (nI 0)), 198, sl) = some R := hh
  obtain ⟨n, hh⟩ := en_zn (cc := .ne) (off := 5) (t := 15) (b := cB gc g) eb_ne rfl rfl hh
  have hh := en_f hb hh
  have hh : pm_run PT n fr lo 231 (13, [some (.ref 162), some (.int g), none, none, none, none, none], [], fset h 162 0 (.int (nI 0)), 198, sl) = some R := hh
  obtain ⟨n, hh⟩ := rn_i rfl rfl rfl rfl hh
  have hh : pm_run PT n fr lo 231 (14, [some (.ref 162), some (.int g), none, none, none, none, none], [.int (Int32.ofInt (-1))], fset h 162 0 (.int (nI 0)), 198, sl) = some R := hh
  have er2 : R = (some (.int (Int32.ofInt (-1))), fset h 162 0 (.int (nI 0)), 198, sl) := (rn_ret rfl (Or.inl rfl) hh).2
  have ed : v231w q cc gc h g = ((Int32.ofInt (-1)), fset h 162 0 (.int (nI 0))) := rfl
  refine ⟨?_, ?_, ?_⟩ <;> rw [ed]
  · exact er2
  · exact (hc_f rfl rfl (by decide) rfl hw)
  · exact (fr_f rfl rfl fr_0)
theorem v231w_fr {cc gc : Nat} {q : QT} {h : pm_H} {g : Int32} (hw : HC q cc gc h) (hb : cB gc g = false) : HC q cc gc ((v231w q cc gc h g).2) ∧ frm [162] [(162, 0)] h ((v231w q cc gc h g).2) := by
  unfold v231w
  show HC q cc gc (fset h 162 0 (.int (nI 0))) ∧ frm [162] [(162, 0)] h (fset h 162 0 (.int (nI 0)))
  exact ⟨(hc_f rfl rfl (by decide) rfl hw), (fr_f rfl rfl fr_0)⟩
def v106w (q : QT) (cc gc : Nat) (g : Int32) : Int32 := (Int32.ofInt (-1))
theorem v106w_ok {n fr lo sl cc gc : Nat} {q : QT} {h : pm_H} {R : pm_Rs} {g : Int32} (hw : HC q cc gc h) (hb : cB gc g = false) (hh : pm_run PT n fr lo 106 (0, pm_l0 [.ref 0, .int g] 6, [], h, 198, sl) = some R) : R = (some (.int (v106w q cc gc g)), h, 198, sl) := by
  have hcc := hw.cb
  have hgc := hw.gb
  have hzr := hw.zr
  obtain ⟨n, hh⟩ := rn_i rfl rfl rfl rfl hh
  have hh : pm_run PT n fr lo 106 (1, [some (.ref 0), some (.int g), none, none, none, none], [.ref 0], h, 198, sl) = some R := hh
  obtain ⟨n, hh⟩ := rn_gr hw.wt rfl rfl (by decide) rfl (by decide) (show _ = some (2, ((5 : Nat) : Int), 1) from rfl) rfl hh
  obtain ⟨n, hh⟩ := rn_i rfl rfl rfl rfl hh
  have hh : pm_run PT n fr lo 106 (5, [some (.ref 0), some (.int g), none, none, none, none], [.int g, .ref 5], h, 198, sl) = some R := hh
  obtain ⟨n, fr1, lo1, r1, hh1, hh⟩ := rn_call (w := 0) (t := 25) rfl rfl hh
  have er1 := en_xg hgc (hc_rG hw) hh1
  subst er1
  have hh : pm_run PT n fr lo 106 (8, [some (.ref 0), some (.int g), none, none, none, none], [.int (cond (cB gc g) 1 0)], h, 198, sl) = some R := hh
  obtain ⟨n, hh⟩ := en_zn (cc := .ne) (off := 5) (t := 13) (b := cB gc g) eb_ne rfl rfl hh
  have hh := en_f hb hh
  have hh : pm_run PT n fr lo 106 (11, [some (.ref 0), some (.int g), none, none, none, none], [], h, 198, sl) = some R := hh
  obtain ⟨n, hh⟩ := rn_i rfl rfl rfl rfl hh
  have hh : pm_run PT n fr lo 106 (12, [some (.ref 0), some (.int g), none, none, none, none], [.int (Int32.ofInt (-1))], h, 198, sl) = some R := hh
  have er2 : R = (some (.int (Int32.ofInt (-1))), h, 198, sl) := (rn_ret rfl (Or.inl rfl) hh).2
  have ed : v106w q cc gc g = (Int32.ofInt (-1)) := rfl
  rw [ed]
  exact er2
def v235w (q : QT) (cc gc : Nat) (h : pm_H) (g : Int32) : Int32 × pm_H := ((Int32.ofInt (-1)), fset h 162 0 (.int (nI 0)))
theorem v235w_ok {n fr lo sl cc gc : Nat} {q : QT} {h : pm_H} {R : pm_Rs} {g : Int32} (hw : HC q cc gc h) (hb : cB gc g = false) (hh : pm_run PT n fr lo 235 (0, pm_l0 [.ref 162, .int g] 6, [], h, 198, sl) = some R) : R = (some (.int ((v235w q cc gc h g).1)), (v235w q cc gc h g).2, 198, sl) ∧ HC q cc gc ((v235w q cc gc h g).2) ∧ frm [162] [(162, 0)] h ((v235w q cc gc h g).2) := by
  have hcc := hw.cb
  have hgc := hw.gb
  have hzr := hw.zr
  obtain ⟨n, hh⟩ := rn_i rfl rfl rfl rfl hh
  obtain ⟨n, hh⟩ := rn_i rfl rfl rfl rfl hh
  have hh : pm_run PT n fr lo 235 (2, [some (.ref 162), some (.int g), none, none, none, none], [.int (nI 0), .ref 162], h, 198, sl) = some R := hh
  obtain ⟨n, hh⟩ := rn_pi hw.wt rfl rfl (by decide) rfl (by decide) rfl hh
  obtain ⟨n, hh⟩ := rn_i rfl rfl rfl rfl hh
  obtain ⟨n, hh⟩ := rn_i rfl rfl rfl rfl hh
  have hh : pm_run PT n fr lo 235 (7, [some (.ref 162), some (.int g), none, none, none, none], [.int g, .ref 162], fset h 162 0 (.int (nI 0)), 198, sl) = some R := hh
  obtain ⟨n, fr1, lo1, r1, hh1, hh⟩ := rn_call (w := 0) (t := 169) rfl rfl hh
  have er1 := en_mg hgc (hc_m4 (hc_f rfl rfl (by decide) rfl hw)) hh1
  subst er1
  have hh : pm_run PT n fr lo 235 (10, [some (.ref 162), some (.int g), none, none, none, none], [.int (cond (cB gc g) 1 0)], fset h 162 0 (.int (nI 0)), 198, sl) = some R := hh
  obtain ⟨n, hh⟩ := en_zn (cc := .ne) (off := 5) (t := 15) (b := cB gc g) eb_ne rfl rfl hh
  have hh := en_f hb hh
  have hh : pm_run PT n fr lo 235 (13, [some (.ref 162), some (.int g), none, none, none, none], [], fset h 162 0 (.int (nI 0)), 198, sl) = some R := hh
  obtain ⟨n, hh⟩ := rn_i rfl rfl rfl rfl hh
  have hh : pm_run PT n fr lo 235 (14, [some (.ref 162), some (.int g), none, none, none, none], [.int (Int32.ofInt (-1))], fset h 162 0 (.int (nI 0)), 198, sl) = some R := hh
  have er2 : R = (some (.int (Int32.ofInt (-1))), fset h 162 0 (.int (nI 0)), 198, sl) := (rn_ret rfl (Or.inl rfl) hh).2
  have ed : v235w q cc gc h g = ((Int32.ofInt (-1)), fset h 162 0 (.int (nI 0))) := rfl
  refine ⟨?_, ?_, ?_⟩ <;> rw [ed]
  · exact er2
  · exact (hc_f rfl rfl (by decide) rfl hw)
  · exact (fr_f rfl rfl fr_0)
theorem v235w_fr {cc gc : Nat} {q : QT} {h : pm_H} {g : Int32} (hw : HC q cc gc h) (hb : cB gc g = false) : HC q cc gc ((v235w q cc gc h g).2) ∧ frm [162] [(162, 0)] h ((v235w q cc gc h g).2) := by
  unfold v235w
  show HC q cc gc (fset h 162 0 (.int (nI 0))) ∧ frm [162] [(162, 0)] h (fset h 162 0 (.int (nI 0)))
  exact ⟨(hc_f rfl rfl (by decide) rfl hw), (fr_f rfl rfl fr_0)⟩
def v111w (q : QT) (cc gc : Nat) (c : Int32) : Int32 := (Int32.ofInt (-1))
theorem v111w_ok {n fr lo sl cc gc : Nat} {q : QT} {h : pm_H} {R : pm_Rs} {c : Int32} (hw : HC q cc gc h) (hb : cB cc c = false) (hh : pm_run PT n fr lo 111 (0, pm_l0 [.ref 0, .int c] 3, [], h, 198, sl) = some R) : R = (some (.int (v111w q cc gc c)), h, 198, sl) := by
  have hcc := hw.cb
  have hgc := hw.gb
  have hzr := hw.zr
  obtain ⟨n, hh⟩ := rn_i rfl rfl rfl rfl hh
  have hh : pm_run PT n fr lo 111 (1, [some (.ref 0), some (.int c), none], [.ref 0], h, 198, sl) = some R := hh
  obtain ⟨n, hh⟩ := rn_gr hw.wt rfl rfl (by decide) rfl (by decide) (show _ = some (2, ((5 : Nat) : Int), 1) from rfl) rfl hh
  obtain ⟨n, hh⟩ := rn_i rfl rfl rfl rfl hh
  have hh : pm_run PT n fr lo 111 (5, [some (.ref 0), some (.int c), none], [.int c, .ref 5], h, 198, sl) = some R := hh
  obtain ⟨n, fr1, lo1, r1, hh1, hh⟩ := rn_call (w := 0) (t := 23) rfl rfl hh
  have er1 := xi_run hcc (hc_rC hw) hh1
  subst er1
  have hh : pm_run PT n fr lo 111 (8, [some (.ref 0), some (.int c), none], [.int (cond (cB cc c) 1 0)], h, 198, sl) = some R := hh
  obtain ⟨n, hh⟩ := en_zn (cc := .ne) (off := 5) (t := 13) (b := cB cc c) eb_ne rfl rfl hh
  have hh := en_f hb hh
  have hh : pm_run PT n fr lo 111 (11, [some (.ref 0), some (.int c), none], [], h, 198, sl) = some R := hh
  obtain ⟨n, hh⟩ := rn_i rfl rfl rfl rfl hh
  have hh : pm_run PT n fr lo 111 (12, [some (.ref 0), some (.int c), none], [.int (Int32.ofInt (-1))], h, 198, sl) = some R := hh
  have er2 : R = (some (.int (Int32.ofInt (-1))), h, 198, sl) := (rn_ret rfl (Or.inl rfl) hh).2
  have ed : v111w q cc gc c = (Int32.ofInt (-1)) := rfl
  rw [ed]
  exact er2
def v242w (q : QT) (cc gc : Nat) (h : pm_H) (c : Int32) : Int32 × pm_H := ((Int32.ofInt (-1)), fset h 162 0 (.int (nI 0)))
theorem v242w_ok {n fr lo sl cc gc : Nat} {q : QT} {h : pm_H} {R : pm_Rs} {c : Int32} (hw : HC q cc gc h) (hb : cB cc c = false) (hh : pm_run PT n fr lo 242 (0, pm_l0 [.ref 162, .int c] 3, [], h, 198, sl) = some R) : R = (some (.int ((v242w q cc gc h c).1)), (v242w q cc gc h c).2, 198, sl) ∧ HC q cc gc ((v242w q cc gc h c).2) ∧ frm [162] [(162, 0)] h ((v242w q cc gc h c).2) := by
  have hcc := hw.cb
  have hgc := hw.gb
  have hzr := hw.zr
  obtain ⟨n, hh⟩ := rn_i rfl rfl rfl rfl hh
  obtain ⟨n, hh⟩ := rn_i rfl rfl rfl rfl hh
  have hh : pm_run PT n fr lo 242 (2, [some (.ref 162), some (.int c), none], [.int (nI 0), .ref 162], h, 198, sl) = some R := hh
  obtain ⟨n, hh⟩ := rn_pi hw.wt rfl rfl (by decide) rfl (by decide) rfl hh
  obtain ⟨n, hh⟩ := rn_i rfl rfl rfl rfl hh
  obtain ⟨n, hh⟩ := rn_i rfl rfl rfl rfl hh
  have hh : pm_run PT n fr lo 242 (7, [some (.ref 162), some (.int c), none], [.int c, .ref 162], fset h 162 0 (.int (nI 0)), 198, sl) = some R := hh
  obtain ⟨n, fr1, lo1, r1, hh1, hh⟩ := rn_call (w := 0) (t := 168) rfl rfl hh
  have er1 := mi_run hcc (hc_m3 (hc_f rfl rfl (by decide) rfl hw)) hh1
  subst er1
  have hh : pm_run PT n fr lo 242 (10, [some (.ref 162), some (.int c), none], [.int (cond (cB cc c) 1 0)], fset h 162 0 (.int (nI 0)), 198, sl) = some R := hh
  obtain ⟨n, hh⟩ := en_zn (cc := .ne) (off := 5) (t := 15) (b := cB cc c) eb_ne rfl rfl hh
  have hh := en_f hb hh
  have hh : pm_run PT n fr lo 242 (13, [some (.ref 162), some (.int c), none], [], fset h 162 0 (.int (nI 0)), 198, sl) = some R := hh
  obtain ⟨n, hh⟩ := rn_i rfl rfl rfl rfl hh
  have hh : pm_run PT n fr lo 242 (14, [some (.ref 162), some (.int c), none], [.int (Int32.ofInt (-1))], fset h 162 0 (.int (nI 0)), 198, sl) = some R := hh
  have er2 : R = (some (.int (Int32.ofInt (-1))), fset h 162 0 (.int (nI 0)), 198, sl) := (rn_ret rfl (Or.inl rfl) hh).2
  have ed : v242w q cc gc h c = ((Int32.ofInt (-1)), fset h 162 0 (.int (nI 0))) := rfl
  refine ⟨?_, ?_, ?_⟩ <;> rw [ed]
  · exact er2
  · exact (hc_f rfl rfl (by decide) rfl hw)
  · exact (fr_f rfl rfl fr_0)
theorem v242w_fr {cc gc : Nat} {q : QT} {h : pm_H} {c : Int32} (hw : HC q cc gc h) (hb : cB cc c = false) : HC q cc gc ((v242w q cc gc h c).2) ∧ frm [162] [(162, 0)] h ((v242w q cc gc h c).2) := by
  unfold v242w
  show HC q cc gc (fset h 162 0 (.int (nI 0))) ∧ frm [162] [(162, 0)] h (fset h 162 0 (.int (nI 0)))
  exact ⟨(hc_f rfl rfl (by decide) rfl hw), (fr_f rfl rfl fr_0)⟩
def v113w (q : QT) (cc gc : Nat) (c : Int32) : Int32 := (Int32.ofInt (-100000))
theorem v113w_ok {n fr lo sl cc gc : Nat} {q : QT} {h : pm_H} {R : pm_Rs} {c : Int32} (hw : HC q cc gc h) (hb : cB cc c = false) (hh : pm_run PT n fr lo 113 (0, pm_l0 [.ref 0, .int c] 4, [], h, 198, sl) = some R) : R = (some (.int (v113w q cc gc c)), h, 198, sl) := by
  have hcc := hw.cb
  have hgc := hw.gb
  have hzr := hw.zr
  obtain ⟨n, hh⟩ := rn_i rfl rfl rfl rfl hh
  have hh : pm_run PT n fr lo 113 (1, [some (.ref 0), some (.int c), none, none], [.ref 0], h, 198, sl) = some R := hh
  obtain ⟨n, hh⟩ := rn_gr hw.wt rfl rfl (by decide) rfl (by decide) (show _ = some (2, ((5 : Nat) : Int), 1) from rfl) rfl hh
  obtain ⟨n, hh⟩ := rn_i rfl rfl rfl rfl hh
  have hh : pm_run PT n fr lo 113 (5, [some (.ref 0), some (.int c), none, none], [.int c, .ref 5], h, 198, sl) = some R := hh
  obtain ⟨n, fr1, lo1, r1, hh1, hh⟩ := rn_call (w := 0) (t := 23) rfl rfl hh
  have er1 := xi_run hcc (hc_rC hw) hh1
  subst er1
  have hh : pm_run PT n fr lo 113 (8, [some (.ref 0), some (.int c), none, none], [.int (cond (cB cc c) 1 0)], h, 198, sl) = some R := hh
  obtain ⟨n, hh⟩ := en_zn (cc := .ne) (off := 7) (t := 15) (b := cB cc c) eb_ne rfl rfl hh
  have hh := en_f hb hh
  have hh : pm_run PT n fr lo 113 (11, [some (.ref 0), some (.int c), none, none], [], h, 198, sl) = some R := hh
  obtain ⟨n, hh⟩ := rn_i rfl rfl rfl rfl hh
  have hh : pm_run PT n fr lo 113 (14, [some (.ref 0), some (.int c), none, none], [.int (Int32.ofInt (-100000))], h, 198, sl) = some R := hh
  have er2 : R = (some (.int (Int32.ofInt (-100000))), h, 198, sl) := (rn_ret rfl (Or.inl rfl) hh).2
  have ed : v113w q cc gc c = (Int32.ofInt (-100000)) := rfl
  rw [ed]
  exact er2
def v244w (q : QT) (cc gc : Nat) (h : pm_H) (c : Int32) : Int32 × pm_H := ((Int32.ofInt (-100000)), fset h 162 0 (.int (nI 0)))
theorem v244w_ok {n fr lo sl cc gc : Nat} {q : QT} {h : pm_H} {R : pm_Rs} {c : Int32} (hw : HC q cc gc h) (hb : cB cc c = false) (hh : pm_run PT n fr lo 244 (0, pm_l0 [.ref 162, .int c] 2, [], h, 198, sl) = some R) : R = (some (.int ((v244w q cc gc h c).1)), (v244w q cc gc h c).2, 198, sl) ∧ HC q cc gc ((v244w q cc gc h c).2) ∧ frm [162] [(162, 0)] h ((v244w q cc gc h c).2) := by
  have hcc := hw.cb
  have hgc := hw.gb
  have hzr := hw.zr
  obtain ⟨n, hh⟩ := rn_i rfl rfl rfl rfl hh
  obtain ⟨n, hh⟩ := rn_i rfl rfl rfl rfl hh
  have hh : pm_run PT n fr lo 244 (2, [some (.ref 162), some (.int c)], [.int (nI 0), .ref 162], h, 198, sl) = some R := hh
  obtain ⟨n, hh⟩ := rn_pi hw.wt rfl rfl (by decide) rfl (by decide) rfl hh
  obtain ⟨n, hh⟩ := rn_i rfl rfl rfl rfl hh
  obtain ⟨n, hh⟩ := rn_i rfl rfl rfl rfl hh
  have hh : pm_run PT n fr lo 244 (7, [some (.ref 162), some (.int c)], [.int c, .ref 162], fset h 162 0 (.int (nI 0)), 198, sl) = some R := hh
  obtain ⟨n, fr1, lo1, r1, hh1, hh⟩ := rn_call (w := 0) (t := 168) rfl rfl hh
  have er1 := mi_run hcc (hc_m3 (hc_f rfl rfl (by decide) rfl hw)) hh1
  subst er1
  have hh : pm_run PT n fr lo 244 (10, [some (.ref 162), some (.int c)], [.int (cond (cB cc c) 1 0)], fset h 162 0 (.int (nI 0)), 198, sl) = some R := hh
  obtain ⟨n, hh⟩ := en_zn (cc := .ne) (off := 7) (t := 17) (b := cB cc c) eb_ne rfl rfl hh
  have hh := en_f hb hh
  have hh : pm_run PT n fr lo 244 (13, [some (.ref 162), some (.int c)], [], fset h 162 0 (.int (nI 0)), 198, sl) = some R := hh
  obtain ⟨n, hh⟩ := rn_i rfl rfl rfl rfl hh
  have hh : pm_run PT n fr lo 244 (16, [some (.ref 162), some (.int c)], [.int (Int32.ofInt (-100000))], fset h 162 0 (.int (nI 0)), 198, sl) = some R := hh
  have er2 : R = (some (.int (Int32.ofInt (-100000))), fset h 162 0 (.int (nI 0)), 198, sl) := (rn_ret rfl (Or.inl rfl) hh).2
  have ed : v244w q cc gc h c = ((Int32.ofInt (-100000)), fset h 162 0 (.int (nI 0))) := rfl
  refine ⟨?_, ?_, ?_⟩ <;> rw [ed]
  · exact er2
  · exact (hc_f rfl rfl (by decide) rfl hw)
  · exact (fr_f rfl rfl fr_0)
theorem v244w_fr {cc gc : Nat} {q : QT} {h : pm_H} {c : Int32} (hw : HC q cc gc h) (hb : cB cc c = false) : HC q cc gc ((v244w q cc gc h c).2) ∧ frm [162] [(162, 0)] h ((v244w q cc gc h c).2) := by
  unfold v244w
  show HC q cc gc (fset h 162 0 (.int (nI 0))) ∧ frm [162] [(162, 0)] h (fset h 162 0 (.int (nI 0)))
  exact ⟨(hc_f rfl rfl (by decide) rfl hw), (fr_f rfl rfl fr_0)⟩
def v112w (q : QT) (cc gc : Nat) (a : Int32) (b : Int32) : Int32 := (Int32.ofInt (-1))
theorem v112w_ok {n fr lo sl cc gc : Nat} {q : QT} {h : pm_H} {R : pm_Rs} {a : Int32} {b : Int32} (hw : HC q cc gc h) (hb : pP cc a b = false) (hh : pm_run PT n fr lo 112 (0, pm_l0 [.ref 0, .int a, .int b] 7, [], h, 198, sl) = some R) : R = (some (.int (v112w q cc gc a b)), h, 198, sl) := by
  have hcc := hw.cb
  have hgc := hw.gb
  have hzr := hw.zr
  obtain ⟨n, hh⟩ := rn_i rfl rfl rfl rfl hh
  have hh : pm_run PT n fr lo 112 (1, [some (.ref 0), some (.int a), some (.int b), none, none, none, none], [.ref 0], h, 198, sl) = some R := hh
  obtain ⟨n, hh⟩ := rn_gr hw.wt rfl rfl (by decide) rfl (by decide) (show _ = some (2, ((5 : Nat) : Int), 1) from rfl) rfl hh
  obtain ⟨n, hh⟩ := rn_i rfl rfl rfl rfl hh
  obtain ⟨n, hh⟩ := rn_i rfl rfl rfl rfl hh
  have hh : pm_run PT n fr lo 112 (6, [some (.ref 0), some (.int a), some (.int b), none, none, none, none], [.int b, .int a, .ref 5], h, 198, sl) = some R := hh
  obtain ⟨n, fr1, lo1, r1, hh1, hh⟩ := rn_call (w := 0) (t := 24) rfl rfl hh
  have er1 := xa_run hcc (hc_rC hw) hh1
  subst er1
  have hh : pm_run PT n fr lo 112 (9, [some (.ref 0), some (.int a), some (.int b), none, none, none, none], [.int (cond (pP cc a b) 1 0)], h, 198, sl) = some R := hh
  obtain ⟨n, hh⟩ := en_zn (cc := .ne) (off := 5) (t := 14) (b := pP cc a b) eb_ne rfl rfl hh
  have hh := en_f hb hh
  have hh : pm_run PT n fr lo 112 (12, [some (.ref 0), some (.int a), some (.int b), none, none, none, none], [], h, 198, sl) = some R := hh
  obtain ⟨n, hh⟩ := rn_i rfl rfl rfl rfl hh
  have hh : pm_run PT n fr lo 112 (13, [some (.ref 0), some (.int a), some (.int b), none, none, none, none], [.int (Int32.ofInt (-1))], h, 198, sl) = some R := hh
  have er2 : R = (some (.int (Int32.ofInt (-1))), h, 198, sl) := (rn_ret rfl (Or.inl rfl) hh).2
  have ed : v112w q cc gc a b = (Int32.ofInt (-1)) := rfl
  rw [ed]
  exact er2
def v243w (q : QT) (cc gc : Nat) (h : pm_H) (a : Int32) (b : Int32) : Int32 × pm_H := ((Int32.ofInt (-1)), fset h 162 0 (.int (nI 0)))
theorem v243w_ok {n fr lo sl cc gc : Nat} {q : QT} {h : pm_H} {R : pm_Rs} {a : Int32} {b : Int32} (hw : HC q cc gc h) (hb : pP cc a b = false) (hh : pm_run PT n fr lo 243 (0, pm_l0 [.ref 162, .int a, .int b] 7, [], h, 198, sl) = some R) : R = (some (.int ((v243w q cc gc h a b).1)), (v243w q cc gc h a b).2, 198, sl) ∧ HC q cc gc ((v243w q cc gc h a b).2) ∧ frm [162] [(162, 0)] h ((v243w q cc gc h a b).2) := by
  have hcc := hw.cb
  have hgc := hw.gb
  have hzr := hw.zr
  obtain ⟨n, hh⟩ := rn_i rfl rfl rfl rfl hh
  obtain ⟨n, hh⟩ := rn_i rfl rfl rfl rfl hh
  have hh : pm_run PT n fr lo 243 (2, [some (.ref 162), some (.int a), some (.int b), none, none, none, none], [.int (nI 0), .ref 162], h, 198, sl) = some R := hh
  obtain ⟨n, hh⟩ := rn_pi hw.wt rfl rfl (by decide) rfl (by decide) rfl hh
  obtain ⟨n, hh⟩ := rn_i rfl rfl rfl rfl hh
  obtain ⟨n, hh⟩ := rn_i rfl rfl rfl rfl hh
  obtain ⟨n, hh⟩ := rn_i rfl rfl rfl rfl hh
  have hh : pm_run PT n fr lo 243 (8, [some (.ref 162), some (.int a), some (.int b), none, none, none, none], [.int b, .int a, .ref 162], fset h 162 0 (.int (nI 0)), 198, sl) = some R := hh
  obtain ⟨n, fr1, lo1, r1, hh1, hh⟩ := rn_call (w := 0) (t := 170) rfl rfl hh
  have er1 := ma_run hcc (hc_m3 (hc_f rfl rfl (by decide) rfl hw)) hh1
  subst er1
  have hh : pm_run PT n fr lo 243 (11, [some (.ref 162), some (.int a), some (.int b), none, none, none, none], [.int (cond (pP cc a b) 1 0)], fset h 162 0 (.int (nI 0)), 198, sl) = some R := hh
  obtain ⟨n, hh⟩ := en_zn (cc := .ne) (off := 5) (t := 16) (b := pP cc a b) eb_ne rfl rfl hh
  have hh := en_f hb hh
  have hh : pm_run PT n fr lo 243 (14, [some (.ref 162), some (.int a), some (.int b), none, none, none, none], [], fset h 162 0 (.int (nI 0)), 198, sl) = some R := hh
  obtain ⟨n, hh⟩ := rn_i rfl rfl rfl rfl hh
  have hh : pm_run PT n fr lo 243 (15, [some (.ref 162), some (.int a), some (.int b), none, none, none, none], [.int (Int32.ofInt (-1))], fset h 162 0 (.int (nI 0)), 198, sl) = some R := hh
  have er2 : R = (some (.int (Int32.ofInt (-1))), fset h 162 0 (.int (nI 0)), 198, sl) := (rn_ret rfl (Or.inl rfl) hh).2
  have ed : v243w q cc gc h a b = ((Int32.ofInt (-1)), fset h 162 0 (.int (nI 0))) := rfl
  refine ⟨?_, ?_, ?_⟩ <;> rw [ed]
  · exact er2
  · exact (hc_f rfl rfl (by decide) rfl hw)
  · exact (fr_f rfl rfl fr_0)
theorem v243w_fr {cc gc : Nat} {q : QT} {h : pm_H} {a : Int32} {b : Int32} (hw : HC q cc gc h) (hb : pP cc a b = false) : HC q cc gc ((v243w q cc gc h a b).2) ∧ frm [162] [(162, 0)] h ((v243w q cc gc h a b).2) := by
  unfold v243w
  show HC q cc gc (fset h 162 0 (.int (nI 0))) ∧ frm [162] [(162, 0)] h (fset h 162 0 (.int (nI 0)))
  exact ⟨(hc_f rfl rfl (by decide) rfl hw), (fr_f rfl rfl fr_0)⟩
def v104w (q : QT) (cc gc : Nat) (a : Int32) (b : Int32) : Int32 := (Int32.ofInt (-1))
theorem v104w_ok {n fr lo sl cc gc : Nat} {q : QT} {h : pm_H} {R : pm_Rs} {a : Int32} {b : Int32} (hw : HC q cc gc h) (hb : pP cc a b = false) (hh : pm_run PT n fr lo 104 (0, pm_l0 [.ref 0, .int a, .int b] 12, [], h, 198, sl) = some R) : R = (some (.int (v104w q cc gc a b)), h, 198, sl) := by
  have hcc := hw.cb
  have hgc := hw.gb
  have hzr := hw.zr
  obtain ⟨n, hh⟩ := rn_i rfl rfl rfl rfl hh
  have hh : pm_run PT n fr lo 104 (1, [some (.ref 0), some (.int a), some (.int b), none, none, none, none, none, none, none, none, none], [.ref 0], h, 198, sl) = some R := hh
  obtain ⟨n, hh⟩ := rn_gr hw.wt rfl rfl (by decide) rfl (by decide) (show _ = some (2, ((5 : Nat) : Int), 1) from rfl) rfl hh
  obtain ⟨n, hh⟩ := rn_i rfl rfl rfl rfl hh
  obtain ⟨n, hh⟩ := rn_i rfl rfl rfl rfl hh
  have hh : pm_run PT n fr lo 104 (6, [some (.ref 0), some (.int a), some (.int b), none, none, none, none, none, none, none, none, none], [.int b, .int a, .ref 5], h, 198, sl) = some R := hh
  obtain ⟨n, fr1, lo1, r1, hh1, hh⟩ := rn_call (w := 0) (t := 24) rfl rfl hh
  have er1 := xa_run hcc (hc_rC hw) hh1
  subst er1
  have hh : pm_run PT n fr lo 104 (9, [some (.ref 0), some (.int a), some (.int b), none, none, none, none, none, none, none, none, none], [.int (cond (pP cc a b) 1 0)], h, 198, sl) = some R := hh
  obtain ⟨n, hh⟩ := en_zn (cc := .ne) (off := 5) (t := 14) (b := pP cc a b) eb_ne rfl rfl hh
  have hh := en_f hb hh
  have hh : pm_run PT n fr lo 104 (12, [some (.ref 0), some (.int a), some (.int b), none, none, none, none, none, none, none, none, none], [], h, 198, sl) = some R := hh
  obtain ⟨n, hh⟩ := rn_i rfl rfl rfl rfl hh
  have hh : pm_run PT n fr lo 104 (13, [some (.ref 0), some (.int a), some (.int b), none, none, none, none, none, none, none, none, none], [.int (Int32.ofInt (-1))], h, 198, sl) = some R := hh
  have er2 : R = (some (.int (Int32.ofInt (-1))), h, 198, sl) := (rn_ret rfl (Or.inl rfl) hh).2
  have ed : v104w q cc gc a b = (Int32.ofInt (-1)) := rfl
  rw [ed]
  exact er2
def v232w (q : QT) (cc gc : Nat) (h : pm_H) (a : Int32) (b : Int32) : Int32 × pm_H := ((Int32.ofInt (-1)), fset h 162 0 (.int (nI 0)))
theorem v232w_ok {n fr lo sl cc gc : Nat} {q : QT} {h : pm_H} {R : pm_Rs} {a : Int32} {b : Int32} (hw : HC q cc gc h) (hb : pP cc a b = false) (hh : pm_run PT n fr lo 232 (0, pm_l0 [.ref 162, .int a, .int b] 8, [], h, 198, sl) = some R) : R = (some (.int ((v232w q cc gc h a b).1)), (v232w q cc gc h a b).2, 198, sl) ∧ HC q cc gc ((v232w q cc gc h a b).2) ∧ frm [162] [(162, 0)] h ((v232w q cc gc h a b).2) := by
  have hcc := hw.cb
  have hgc := hw.gb
  have hzr := hw.zr
  obtain ⟨n, hh⟩ := rn_i rfl rfl rfl rfl hh
  obtain ⟨n, hh⟩ := rn_i rfl rfl rfl rfl hh
  have hh : pm_run PT n fr lo 232 (2, [some (.ref 162), some (.int a), some (.int b), none, none, none, none, none], [.int (nI 0), .ref 162], h, 198, sl) = some R := hh
  obtain ⟨n, hh⟩ := rn_pi hw.wt rfl rfl (by decide) rfl (by decide) rfl hh
  obtain ⟨n, hh⟩ := rn_i rfl rfl rfl rfl hh
  obtain ⟨n, hh⟩ := rn_i rfl rfl rfl rfl hh
  obtain ⟨n, hh⟩ := rn_i rfl rfl rfl rfl hh
  have hh : pm_run PT n fr lo 232 (8, [some (.ref 162), some (.int a), some (.int b), none, none, none, none, none], [.int b, .int a, .ref 162], fset h 162 0 (.int (nI 0)), 198, sl) = some R := hh
  obtain ⟨n, fr1, lo1, r1, hh1, hh⟩ := rn_call (w := 0) (t := 170) rfl rfl hh
  have er1 := ma_run hcc (hc_m3 (hc_f rfl rfl (by decide) rfl hw)) hh1
  subst er1
  have hh : pm_run PT n fr lo 232 (11, [some (.ref 162), some (.int a), some (.int b), none, none, none, none, none], [.int (cond (pP cc a b) 1 0)], fset h 162 0 (.int (nI 0)), 198, sl) = some R := hh
  obtain ⟨n, hh⟩ := en_zn (cc := .ne) (off := 5) (t := 16) (b := pP cc a b) eb_ne rfl rfl hh
  have hh := en_f hb hh
  have hh : pm_run PT n fr lo 232 (14, [some (.ref 162), some (.int a), some (.int b), none, none, none, none, none], [], fset h 162 0 (.int (nI 0)), 198, sl) = some R := hh
  obtain ⟨n, hh⟩ := rn_i rfl rfl rfl rfl hh
  have hh : pm_run PT n fr lo 232 (15, [some (.ref 162), some (.int a), some (.int b), none, none, none, none, none], [.int (Int32.ofInt (-1))], fset h 162 0 (.int (nI 0)), 198, sl) = some R := hh
  have er2 : R = (some (.int (Int32.ofInt (-1))), fset h 162 0 (.int (nI 0)), 198, sl) := (rn_ret rfl (Or.inl rfl) hh).2
  have ed : v232w q cc gc h a b = ((Int32.ofInt (-1)), fset h 162 0 (.int (nI 0))) := rfl
  refine ⟨?_, ?_, ?_⟩ <;> rw [ed]
  · exact er2
  · exact (hc_f rfl rfl (by decide) rfl hw)
  · exact (fr_f rfl rfl fr_0)
theorem v232w_fr {cc gc : Nat} {q : QT} {h : pm_H} {a : Int32} {b : Int32} (hw : HC q cc gc h) (hb : pP cc a b = false) : HC q cc gc ((v232w q cc gc h a b).2) ∧ frm [162] [(162, 0)] h ((v232w q cc gc h a b).2) := by
  unfold v232w
  show HC q cc gc (fset h 162 0 (.int (nI 0))) ∧ frm [162] [(162, 0)] h (fset h 162 0 (.int (nI 0)))
  exact ⟨(hc_f rfl rfl (by decide) rfl hw), (fr_f rfl rfl fr_0)⟩
end EW
