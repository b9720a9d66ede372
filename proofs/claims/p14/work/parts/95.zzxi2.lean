section MG95zzxi2x0
/-! runs told exactly, written by ext.py -/
section EE2
def v211_2b (q : QT) (cc gc : Nat) (h : pm_H) (u : Nat) (i : Nat) : pm_H := aset h 178 1536 (upd (Ar h 178) (96 * u + i) ((Ar h 170) i))
def v211_2 (q : QT) (cc gc : Nat) (u : Nat) (j i : Nat) (a : pm_H) : pm_H := lp (fun i a => v211_2b q cc gc a u i) j i a
theorem v211_2_e {n fr lo sl cc gc : Nat} {q : QT} {h : pm_H} {R : pm_Rs} {u : Nat} {i : Nat} (hw : HC q cc gc h) (hu : u ≤ 15) (e1 : Fi h 162 27 = nI u) (hi : 96 ≤ i) (hI : i < 1000000) (hh : pm_run PT n fr lo 211 (2, [some (.ref 162), some (.int (nI i))], [], h, 198, sl) = some R) : ∃ m, pm_run PT m fr lo 211 (34, [some (.ref 162), some (.int (nI i))], [], h, 198, sl) = some R := by
  have hcc := hw.cb
  have hgc := hw.gb
  have hzr := hw.zr
  obtain ⟨n, hh⟩ := rn_i rfl rfl rfl rfl hh
  obtain ⟨n, hh⟩ := rn_i rfl rfl rfl rfl hh
  have hh : pm_run PT n fr lo 211 (5, [some (.ref 162), some (.int (nI i))], [.int (nI 96), .int (nI i)], h, 198, sl) = some R := hh
  obtain ⟨n, hh⟩ := en_cn (cc := .ge) (off := 29) (t := 34) (b := decide (96 ≤ i)) (hI_ge (by omega) (by omega)) rfl rfl hh
  have hh := en_t (show decide (96 ≤ i) = true from decide_eq_true (by omega)) hh
  have hh : pm_run PT n fr lo 211 (34, [some (.ref 162), some (.int (nI i))], [], h, 198, sl) = some R := hh
  exact ⟨n, hh⟩
theorem v211_2_s {n fr lo sl cc gc : Nat} {q : QT} {h : pm_H} {R : pm_Rs} {u : Nat} {i : Nat} (hw : HC q cc gc h) (hu : u ≤ 15) (e1 : Fi h 162 27 = nI u) (hi : i < 96) (hI : i < 1000000) (hh : pm_run PT n fr lo 211 (2, [some (.ref 162), some (.int (nI i))], [], h, 198, sl) = some R) : ∃ m, HC q cc gc ((v211_2b q cc gc h u i)) ∧ frm [178] [] h ((v211_2b q cc gc h u i)) ∧ Fi ((v211_2b q cc gc h u i)) 162 27 = nI u ∧ pm_run PT m fr lo 211 (2, [some (.ref 162), some (.int (nI (i + 1)))], [], (v211_2b q cc gc h u i), 198, sl) = some R := by
  have hcc := hw.cb
  have hgc := hw.gb
  have hzr := hw.zr
  obtain ⟨n, hh⟩ := rn_i rfl rfl rfl rfl hh
  obtain ⟨n, hh⟩ := rn_i rfl rfl rfl rfl hh
  have hh : pm_run PT n fr lo 211 (5, [some (.ref 162), some (.int (nI i))], [.int (nI 96), .int (nI i)], h, 198, sl) = some R := hh
  obtain ⟨n, hh⟩ := en_cn (cc := .ge) (off := 29) (t := 34) (b := decide (96 ≤ i)) (hI_ge (by omega) (by omega)) rfl rfl hh
  have hh := en_f (show decide (96 ≤ i) = false from decide_eq_false (by omega)) hh
  have hh : pm_run PT n fr lo 211 (8, [some (.ref 162), some (.int (nI i))], [], h, 198, sl) = some R := hh
  obtain ⟨n, hh⟩ := rn_i rfl rfl rfl rfl hh
  have hh : pm_run PT n fr lo 211 (9, [some (.ref 162), some (.int (nI i))], [.ref 162], h, 198, sl) = some R := hh
  obtain ⟨n, hh⟩ := rn_gr hw.wt rfl rfl (by decide) rfl (by decide) (show _ = some (2, ((178 : Nat) : Int), 1) from rfl) rfl hh
  obtain ⟨n, hh⟩ := rn_i rfl rfl rfl rfl hh
  obtain ⟨n, hh⟩ := rn_i rfl rfl rfl rfl hh
  have hh : pm_run PT n fr lo 211 (15, [some (.ref 162), some (.int (nI i))], [.ref 162, .int (nI 96), .ref 178], h, 198, sl) = some R := hh
  obtain ⟨n, hh⟩ := rn_gi (x := nI u) hw.wt rfl rfl (by decide) rfl (by decide) rfl e1 hh
  have hh : pm_run PT n fr lo 211 (18, [some (.ref 162), some (.int (nI i))], [.int (nI u), .int (nI 96), .ref 178], h, 198, sl) = some R := hh
  obtain ⟨n, hh⟩ := en_mul rfl hh
  have hh : pm_run PT n fr lo 211 (19, [some (.ref 162), some (.int (nI i))], [.int (nI (96 * u)), .ref 178], h, 198, sl) = some R := hh
  obtain ⟨n, hh⟩ := rn_i rfl rfl rfl rfl hh
  have hh : pm_run PT n fr lo 211 (20, [some (.ref 162), some (.int (nI i))], [.int (nI i), .int (nI (96 * u)), .ref 178], h, 198, sl) = some R := hh
  obtain ⟨n, hh⟩ := en_add rfl hh
  have hh : pm_run PT n fr lo 211 (21, [some (.ref 162), some (.int (nI i))], [.int (nI (96 * u + i)), .ref 178], h, 198, sl) = some R := hh
  obtain ⟨n, hh⟩ := rn_i rfl rfl rfl rfl hh
  have hh : pm_run PT n fr lo 211 (22, [some (.ref 162), some (.int (nI i))], [.ref 162, .int (nI (96 * u + i)), .ref 178], h, 198, sl) = some R := hh
  obtain ⟨n, hh⟩ := rn_gr hw.wt rfl rfl (by decide) rfl (by decide) (show _ = some (2, ((170 : Nat) : Int), 1) from rfl) rfl hh
  obtain ⟨n, hh⟩ := rn_i rfl rfl rfl rfl hh
  have hh : pm_run PT n fr lo 211 (26, [some (.ref 162), some (.int (nI i))], [.int (nI i), .ref 170, .int (nI (96 * u + i)), .ref 178], h, 198, sl) = some R := hh
  obtain ⟨n, hx1, hh⟩ := en_lu (t := i) (f := Ar h 170) (w := (Ar h 170) i) (nI_clamp (by omega)) hw.wt rfl (by decide) rfl (by decide) rfl (fun _ => rfl) hh
  have hh : pm_run PT n fr lo 211 (27, [some (.ref 162), some (.int (nI i))], [.int ((Ar h 170) i), .int (nI (96 * u + i)), .ref 178], h, 198, sl) = some R := hh
  obtain ⟨n, hx2, hh⟩ := en_st (t := 96 * u + i) (f := Ar h 178) (nI_clamp (by omega)) hw.wt rfl (by decide) rfl (by decide) rfl hh
  have hh : pm_run PT n fr lo 211 (28, [some (.ref 162), some (.int (nI i))], [], aset h 178 1536 (upd (Ar h 178) (96 * u + i) ((Ar h 170) i)), 198, sl) = some R := hh
  obtain ⟨n, hh⟩ := en_inc (x := i) (c := 1) (j := 1) rfl rfl (by decide) hh
  have hh : pm_run PT n fr lo 211 (31, [some (.ref 162), some (.int (nI (i + 1)))], [], aset h 178 1536 (upd (Ar h 178) (96 * u + i) ((Ar h 170) i)), 198, sl) = some R := hh
  obtain ⟨n, hh⟩ := rn_i rfl rfl rfl rfl hh
  have ed : v211_2b q cc gc h u i = aset h 178 1536 (upd (Ar h 178) (96 * u + i) ((Ar h 170) i)) := rfl
  rw [ed]
  exact ⟨n, (hc_a rfl rfl hw), (fr_a rfl rfl fr_0), ((Fi_a (by decide)).trans e1), hh⟩
theorem v211_2_ok {fr lo sl cc gc : Nat} {q : QT} {R : pm_Rs} {u : Nat} : ∀ {j i : Nat} {h : pm_H} {n : Nat}, 96 - i = j → i + j < 1000000 → HC q cc gc h → u ≤ 15 → Fi h 162 27 = nI u → pm_run PT n fr lo 211 (2, [some (.ref 162), some (.int (nI i))], [], h, 198, sl) = some R → ∃ m wc, HC q cc gc ((v211_2 q cc gc u j i h)) ∧ frm [178] [] h ((v211_2 q cc gc u j i h)) ∧ Fi ((v211_2 q cc gc u j i h)) 162 27 = nI u ∧ pm_run PT m fr lo 211 (34, [some (.ref 162), wc], [], (v211_2 q cc gc u j i h), 198, sl) = some R := by
  intro j
  induction j with
  | zero =>
    intro i h n e eI hw hu e1 hh
    obtain ⟨n, hh⟩ := v211_2_e hw hu e1 (by omega) (by omega) hh
    exact ⟨n, _, hw, fr_0, e1, hh⟩
  | succ j ih =>
    intro i h n e eI hw hu e1 hh
    obtain ⟨n, hc, hf, e1', hh⟩ := v211_2_s hw hu e1 (by omega) (by omega) hh
    obtain ⟨n, wc, hc2, hf2, e1'', hh⟩ := ih (by omega) (by omega) hc hu e1' hh
    exact ⟨n, wc, hc2, fr_t hf2 hf, e1'', hh⟩
theorem v211_2_fb {cc gc : Nat} {q : QT} {h : pm_H} {u : Nat} {i : Nat} (hw : HC q cc gc h) (hu : u ≤ 15) : HC q cc gc ((v211_2b q cc gc h u i)) ∧ frm [178] [] h ((v211_2b q cc gc h u i)) := by
  unfold v211_2b
  show HC q cc gc (aset h 178 1536 (upd (Ar h 178) (96 * u + i) ((Ar h 170) i))) ∧ frm [178] [] h (aset h 178 1536 (upd (Ar h 178) (96 * u + i) ((Ar h 170) i)))
  exact ⟨(hc_a rfl rfl hw), (fr_a rfl rfl fr_0)⟩
theorem v211_2_fr {cc gc : Nat} {q : QT} {u : Nat} (hu : u ≤ 15) : ∀ {j i : Nat} {h : pm_H}, HC q cc gc h → HC q cc gc ((v211_2 q cc gc u j i h)) ∧ frm [178] [] h ((v211_2 q cc gc u j i h)) := by
  intro j
  induction j with
  | zero =>
    intro i h hw
    exact ⟨hw, fr_0⟩
  | succ j ih =>
    intro i h hw
    obtain ⟨a1, a2⟩ := v211_2_fb (i := i) (u := u) hw hu
    obtain ⟨b1, b2⟩ := ih (i := i + 1) a1
    exact ⟨b1, fr_t b2 a2⟩
def v211 (q : QT) (cc gc : Nat) (h : pm_H) (u : Nat) : pm_H := (v211_2 q cc gc u 96 0 h)
theorem v211_ok {n fr lo sl cc gc : Nat} {q : QT} {h : pm_H} {R : pm_Rs} {u : Nat} (hw : HC q cc gc h) (hu : u ≤ 15) (e1 : Fi h 162 27 = nI u) (hh : pm_run PT n fr lo 211 (0, pm_l0 [.ref 162] 2, [], h, 198, sl) = some R) : R = (none, v211 q cc gc h u, 198, sl) ∧ HC q cc gc (v211 q cc gc h u) ∧ frm [178] [] h (v211 q cc gc h u) := by
  have hcc := hw.cb
  have hgc := hw.gb
  have hzr := hw.zr
  obtain ⟨n, hh⟩ := rn_i rfl rfl rfl rfl hh
  obtain ⟨n, hh⟩ := rn_i rfl rfl rfl rfl hh
  have hh : pm_run PT n fr lo 211 (2, [some (.ref 162), some (.int (nI 0))], [], h, 198, sl) = some R := hh
  obtain ⟨n, u1, hc2, hf3, _, hh⟩ := v211_2_ok  (i := 0) (j := 96) (by omega) (by omega) hw hu e1 hh
  have hh : pm_run PT n fr lo 211 (34, [some (.ref 162), u1], [], (v211_2 q cc gc u 96 0 h), 198, sl) = some R := hh
  have er4 : R = (none, (v211_2 q cc gc u 96 0 h), 198, sl) := rn_vret rfl rfl hh
  have ed : v211 q cc gc h u = (v211_2 q cc gc u 96 0 h) := rfl
  refine ⟨?_, ?_, ?_⟩ <;> rw [ed]
  · exact er4
  · exact hc2
  · exact (fr_g rfl rfl hf3 fr_0)
theorem v211_fr {cc gc : Nat} {q : QT} {h : pm_H} {u : Nat} (hw : HC q cc gc h) (hu : u ≤ 15) : HC q cc gc (v211 q cc gc h u) ∧ frm [178] [] h (v211 q cc gc h u) := by
  unfold v211
  show HC q cc gc ((v211_2 q cc gc u 96 0 h)) ∧ frm [178] [] h ((v211_2 q cc gc u 96 0 h))
  exact ⟨(v211_2_fr (u := u) (j := 96) (i := 0) hu hw).1, (fr_g rfl rfl (v211_2_fr (u := u) (j := 96) (i := 0) hu hw).2 fr_0)⟩
def v212_21b (q : QT) (cc gc : Nat) (h : pm_H) (t1 : Int32) (i : Nat) : pm_H := aset h 178 1536 (upd (Ar h 178) i ((Ar h 178) (i + 96)))
def v212_21 (q : QT) (cc gc : Nat) (t1 : Int32) (j i : Nat) (a : pm_H) : pm_H := lp (fun i a => v212_21b q cc gc a t1 i) j i a
theorem v212_21_e {n fr lo sl cc gc : Nat} {q : QT} {h : pm_H} {R : pm_Rs} {t1 : Int32} {i : Nat} (hw : HC q cc gc h) (hi : 1440 ≤ i) (hI : i < 1000000) (hh : pm_run PT n fr lo 212 (21, [some (.ref 162), some (.int t1), some (.int (nI i))], [], h, 198, sl) = some R) : ∃ m, pm_run PT m fr lo 212 (49, [some (.ref 162), some (.int t1), some (.int (nI i))], [], h, 198, sl) = some R := by
  have hcc := hw.cb
  have hgc := hw.gb
  have hzr := hw.zr
  obtain ⟨n, hh⟩ := rn_i rfl rfl rfl rfl hh
  obtain ⟨n, hh⟩ := rn_i rfl rfl rfl rfl hh
  have hh : pm_run PT n fr lo 212 (25, [some (.ref 162), some (.int t1), some (.int (nI i))], [.int (nI 1440), .int (nI i)], h, 198, sl) = some R := hh
  obtain ⟨n, hh⟩ := en_cn (cc := .ge) (off := 24) (t := 49) (b := decide (1440 ≤ i)) (hI_ge (by omega) (by omega)) rfl rfl hh
  have hh := en_t (show decide (1440 ≤ i) = true from decide_eq_true (by omega)) hh
  have hh : pm_run PT n fr lo 212 (49, [some (.ref 162), some (.int t1), some (.int (nI i))], [], h, 198, sl) = some R := hh
  exact ⟨n, hh⟩
theorem v212_21_s {n fr lo sl cc gc : Nat} {q : QT} {h : pm_H} {R : pm_Rs} {t1 : Int32} {i : Nat} (hw : HC q cc gc h) (hi : i < 1440) (hI : i < 1000000) (hh : pm_run PT n fr lo 212 (21, [some (.ref 162), some (.int t1), some (.int (nI i))], [], h, 198, sl) = some R) : ∃ m, HC q cc gc ((v212_21b q cc gc h t1 i)) ∧ frm [178] [] h ((v212_21b q cc gc h t1 i)) ∧ pm_run PT m fr lo 212 (21, [some (.ref 162), some (.int t1), some (.int (nI (i + 1)))], [], (v212_21b q cc gc h t1 i), 198, sl) = some R := by
  have hcc := hw.cb
  have hgc := hw.gb
  have hzr := hw.zr
  obtain ⟨n, hh⟩ := rn_i rfl rfl rfl rfl hh
  obtain ⟨n, hh⟩ := rn_i rfl rfl rfl rfl hh
  have hh : pm_run PT n fr lo 212 (25, [some (.ref 162), some (.int t1), some (.int (nI i))], [.int (nI 1440), .int (nI i)], h, 198, sl) = some R := hh
  obtain ⟨n, hh⟩ := en_cn (cc := .ge) (off := 24) (t := 49) (b := decide (1440 ≤ i)) (hI_ge (by omega) (by omega)) rfl rfl hh
  have hh := en_f (show decide (1440 ≤ i) = false from decide_eq_false (by omega)) hh
  have hh : pm_run PT n fr lo 212 (28, [some (.ref 162), some (.int t1), some (.int (nI i))], [], h, 198, sl) = some R := hh
  obtain ⟨n, hh⟩ := rn_i rfl rfl rfl rfl hh
  have hh : pm_run PT n fr lo 212 (29, [some (.ref 162), some (.int t1), some (.int (nI i))], [.ref 162], h, 198, sl) = some R := hh
  obtain ⟨n, hh⟩ := rn_gr hw.wt rfl rfl (by decide) rfl (by decide) (show _ = some (2, ((178 : Nat) : Int), 1) from rfl) rfl hh
  obtain ⟨n, hh⟩ := rn_i rfl rfl rfl rfl hh
  obtain ⟨n, hh⟩ := rn_i rfl rfl rfl rfl hh
  have hh : pm_run PT n fr lo 212 (34, [some (.ref 162), some (.int t1), some (.int (nI i))], [.ref 162, .int (nI i), .ref 178], h, 198, sl) = some R := hh
  obtain ⟨n, hh⟩ := rn_gr hw.wt rfl rfl (by decide) rfl (by decide) (show _ = some (2, ((178 : Nat) : Int), 1) from rfl) rfl hh
  obtain ⟨n, hh⟩ := rn_i rfl rfl rfl rfl hh
  obtain ⟨n, hh⟩ := rn_i rfl rfl rfl rfl hh
  have hh : pm_run PT n fr lo 212 (40, [some (.ref 162), some (.int t1), some (.int (nI i))], [.int (nI 96), .int (nI i), .ref 178, .int (nI i), .ref 178], h, 198, sl) = some R := hh
  obtain ⟨n, hh⟩ := en_add rfl hh
  have hh : pm_run PT n fr lo 212 (41, [some (.ref 162), some (.int t1), some (.int (nI i))], [.int (nI (i + 96)), .ref 178, .int (nI i), .ref 178], h, 198, sl) = some R := hh
  have hh : pm_run PT n fr lo 212 (41, [some (.ref 162), some (.int t1), some (.int (nI i))], [.int (nI (i + 96)), .ref 178, .int (nI i), .ref 178], h, 198, sl) = some R := hh
  obtain ⟨n, hx5, hh⟩ := en_lu (t := i + 96) (f := Ar h 178) (w := (Ar h 178) (i + 96)) (nI_clamp (by omega)) hw.wt rfl (by decide) rfl (by decide) rfl (fun _ => rfl) hh
  have hh : pm_run PT n fr lo 212 (42, [some (.ref 162), some (.int t1), some (.int (nI i))], [.int ((Ar h 178) (i + 96)), .int (nI i), .ref 178], h, 198, sl) = some R := hh
  obtain ⟨n, hx6, hh⟩ := en_st (t := i) (f := Ar h 178) (nI_clamp (by omega)) hw.wt rfl (by decide) rfl (by decide) rfl hh
  have hh : pm_run PT n fr lo 212 (43, [some (.ref 162), some (.int t1), some (.int (nI i))], [], aset h 178 1536 (upd (Ar h 178) i ((Ar h 178) (i + 96))), 198, sl) = some R := hh
  obtain ⟨n, hh⟩ := en_inc (x := i) (c := 1) (j := 2) rfl rfl (by decide) hh
  have hh : pm_run PT n fr lo 212 (46, [some (.ref 162), some (.int t1), some (.int (nI (i + 1)))], [], aset h 178 1536 (upd (Ar h 178) i ((Ar h 178) (i + 96))), 198, sl) = some R := hh
  obtain ⟨n, hh⟩ := rn_i rfl rfl rfl rfl hh
  have ed : v212_21b q cc gc h t1 i = aset h 178 1536 (upd (Ar h 178) i ((Ar h 178) (i + 96))) := rfl
  rw [ed]
  exact ⟨n, (hc_a rfl rfl hw), (fr_a rfl rfl fr_0), hh⟩
theorem v212_21_ok {fr lo sl cc gc : Nat} {q : QT} {R : pm_Rs} {t1 : Int32} : ∀ {j i : Nat} {h : pm_H} {n : Nat}, 1440 - i = j → i + j < 1000000 → HC q cc gc h → pm_run PT n fr lo 212 (21, [some (.ref 162), some (.int t1), some (.int (nI i))], [], h, 198, sl) = some R → ∃ m wc, HC q cc gc ((v212_21 q cc gc t1 j i h)) ∧ frm [178] [] h ((v212_21 q cc gc t1 j i h)) ∧ pm_run PT m fr lo 212 (49, [some (.ref 162), some (.int t1), wc], [], (v212_21 q cc gc t1 j i h), 198, sl) = some R := by
  intro j
  induction j with
  | zero =>
    intro i h n e eI hw hh
    obtain ⟨n, hh⟩ := v212_21_e hw (by omega) (by omega) hh
    exact ⟨n, _, hw, fr_0, hh⟩
  | succ j ih =>
    intro i h n e eI hw hh
    obtain ⟨n, hc, hf, hh⟩ := v212_21_s hw (by omega) (by omega) hh
    obtain ⟨n, wc, hc2, hf2, hh⟩ := ih (by omega) (by omega) hc hh
    exact ⟨n, wc, hc2, fr_t hf2 hf, hh⟩
theorem v212_21_fb {cc gc : Nat} {q : QT} {h : pm_H} {t1 : Int32} {i : Nat} (hw : HC q cc gc h) : HC q cc gc ((v212_21b q cc gc h t1 i)) ∧ frm [178] [] h ((v212_21b q cc gc h t1 i)) := by
  unfold v212_21b
  show HC q cc gc (aset h 178 1536 (upd (Ar h 178) i ((Ar h 178) (i + 96)))) ∧ frm [178] [] h (aset h 178 1536 (upd (Ar h 178) i ((Ar h 178) (i + 96))))
  exact ⟨(hc_a rfl rfl hw), (fr_a rfl rfl fr_0)⟩
theorem v212_21_fr {cc gc : Nat} {q : QT} {t1 : Int32} : ∀ {j i : Nat} {h : pm_H}, HC q cc gc h → HC q cc gc ((v212_21 q cc gc t1 j i h)) ∧ frm [178] [] h ((v212_21 q cc gc t1 j i h)) := by
  intro j
  induction j with
  | zero =>
    intro i h hw
    exact ⟨hw, fr_0⟩
  | succ j ih =>
    intro i h hw
    obtain ⟨a1, a2⟩ := v212_21_fb (i := i) (t1 := t1) hw
    obtain ⟨b1, b2⟩ := ih (i := i + 1) a1
    exact ⟨b1, fr_t b2 a2⟩
def v212 (q : QT) (cc gc : Nat) (h : pm_H) (u : Nat) (v : Int32) : Int32 × pm_H := cond (decide (u + 1 ≤ 15)) (v, fset h 162 27 (.int (nI (u + 1)))) (v, fset (v212_21 q cc gc v 1440 0 (fset h 162 27 (.int (nI (u + 1))))) 162 27 (.int ((nI (u + 1)) - (nI 1))))
set_option maxRecDepth 100000 in
theorem v212_ok {n fr lo sl cc gc : Nat} {q : QT} {h : pm_H} {R : pm_Rs} {u : Nat} {v : Int32} (hw : HC q cc gc h) (hu : u ≤ 15) (e1 : Fi h 162 27 = nI u) (hh : pm_run PT n fr lo 212 (0, pm_l0 [.ref 162, .int v] 3, [], h, 198, sl) = some R) : R = (some (.int ((v212 q cc gc h u v).1)), (v212 q cc gc h u v).2, 198, sl) ∧ HC q cc gc ((v212 q cc gc h u v).2) ∧ frm [162, 178] [(162, 27)] h ((v212 q cc gc h u v).2) := by
  have hcc := hw.cb
  have hgc := hw.gb
  have hzr := hw.zr
  obtain ⟨n, hh⟩ := rn_i rfl rfl rfl rfl hh
  obtain ⟨n, hh⟩ := rn_i rfl rfl rfl rfl hh
  have hh : pm_run PT n fr lo 212 (2, [some (.ref 162), some (.int v), none], [.ref 162, .ref 162], h, 198, sl) = some R := hh
  obtain ⟨n, hh⟩ := rn_gi (x := nI u) hw.wt rfl rfl (by decide) rfl (by decide) rfl e1 hh
  obtain ⟨n, hh⟩ := rn_i rfl rfl rfl rfl hh
  have hh : pm_run PT n fr lo 212 (6, [some (.ref 162), some (.int v), none], [.int (nI 1), .int (nI u), .ref 162], h, 198, sl) = some R := hh
  obtain ⟨n, hh⟩ := en_add rfl hh
  have hh : pm_run PT n fr lo 212 (7, [some (.ref 162), some (.int v), none], [.int (nI (u + 1)), .ref 162], h, 198, sl) = some R := hh
  have hh : pm_run PT n fr lo 212 (7, [some (.ref 162), some (.int v), none], [.int (nI (u + 1)), .ref 162], h, 198, sl) = some R := hh
  obtain ⟨n, hh⟩ := rn_pi hw.wt rfl rfl (by decide) rfl (by decide) rfl hh
  obtain ⟨n, hh⟩ := rn_i rfl rfl rfl rfl hh
  have hh : pm_run PT n fr lo 212 (11, [some (.ref 162), some (.int v), none], [.ref 162], fset h 162 27 (.int (nI (u + 1))), 198, sl) = some R := hh
  obtain ⟨n, hh⟩ := rn_gi (x := nI (u + 1)) (hc_f rfl rfl (by decide) rfl hw).wt rfl rfl (by decide) rfl (by decide) rfl (Fi_s hw.wt (by decide) rfl (by decide) rfl) hh
  obtain ⟨n, hh⟩ := rn_i rfl rfl rfl rfl hh
  have hh : pm_run PT n fr lo 212 (16, [some (.ref 162), some (.int v), none], [.int (nI 15), .int (nI (u + 1))], fset h 162 27 (.int (nI (u + 1))), 198, sl) = some R := hh
  obtain ⟨n, hh⟩ := en_cn (cc := .le) (off := 43) (t := 59) (b := decide (u + 1 ≤ 15)) (hI_le (by omega) (by omega)) rfl rfl hh
  cases z1 : decide (u + 1 ≤ 15) with
  | true =>
    have hh := en_t z1 hh
    have hh : pm_run PT n fr lo 212 (59, [some (.ref 162), some (.int v), none], [], fset h 162 27 (.int (nI (u + 1))), 198, sl) = some R := hh
    have y2 := of_decide_eq_true z1
    obtain ⟨n, hh⟩ := rn_i rfl rfl rfl rfl hh
    have hh : pm_run PT n fr lo 212 (60, [some (.ref 162), some (.int v), none], [.int v], fset h 162 27 (.int (nI (u + 1))), 198, sl) = some R := hh
    have er3 : R = (some (.int v), fset h 162 27 (.int (nI (u + 1))), 198, sl) := (rn_ret rfl (Or.inl rfl) hh).2
    have ed : v212 q cc gc h u v = (v, fset h 162 27 (.int (nI (u + 1)))) := (ct z1).trans rfl
    refine ⟨?_, ?_, ?_⟩ <;> rw [ed]
    · exact er3
    · exact (hc_f rfl rfl (by decide) rfl hw)
    · exact (fr_f rfl rfl fr_0)
  | false =>
    have hh := en_f z1 hh
    have hh : pm_run PT n fr lo 212 (19, [some (.ref 162), some (.int v), none], [], fset h 162 27 (.int (nI (u + 1))), 198, sl) = some R := hh
    have y4 := of_decide_eq_false z1
    obtain ⟨n, hh⟩ := rn_i rfl rfl rfl rfl hh
    obtain ⟨n, hh⟩ := rn_i rfl rfl rfl rfl hh
    have hh : pm_run PT n fr lo 212 (21, [some (.ref 162), some (.int v), some (.int (nI 0))], [], fset h 162 27 (.int (nI (u + 1))), 198, sl) = some R := hh
    obtain ⟨n, u5, hc6, hf7, hh⟩ := v212_21_ok (t1 := v)  (i := 0) (j := 1440) (by omega) (by omega) (hc_f rfl rfl (by decide) rfl hw) hh
    have hh : pm_run PT n fr lo 212 (49, [some (.ref 162), some (.int v), u5], [], (v212_21 q cc gc v 1440 0 (fset h 162 27 (.int (nI (u + 1))))), 198, sl) = some R := hh
    obtain ⟨n, hh⟩ := rn_i rfl rfl rfl rfl hh
    obtain ⟨n, hh⟩ := rn_i rfl rfl rfl rfl hh
    have hh : pm_run PT n fr lo 212 (51, [some (.ref 162), some (.int v), u5], [.ref 162, .ref 162], (v212_21 q cc gc v 1440 0 (fset h 162 27 (.int (nI (u + 1))))), 198, sl) = some R := hh
    obtain ⟨n, hh⟩ := rn_gi (x := nI (u + 1)) hc6.wt rfl rfl (by decide) rfl (by decide) rfl ((hf7.2 162 27 (by decide +kernel) rfl).trans (Fi_s hw.wt (by decide) rfl (by decide) rfl)) hh
    obtain ⟨n, hh⟩ := rn_i rfl rfl rfl rfl hh
    obtain ⟨n, hh⟩ := rn_i rfl rfl rfl rfl hh
    have hh : pm_run PT n fr lo 212 (56, [some (.ref 162), some (.int v), u5], [.int ((nI (u + 1)) - (nI 1)), .ref 162], (v212_21 q cc gc v 1440 0 (fset h 162 27 (.int (nI (u + 1))))), 198, sl) = some R := hh
    obtain ⟨n, hh⟩ := rn_pi hc6.wt rfl rfl (by decide) rfl (by decide) rfl hh
    obtain ⟨n, hh⟩ := rn_i rfl rfl rfl rfl hh
    have hh : pm_run PT n fr lo 212 (60, [some (.ref 162), some (.int v), u5], [.int v], fset (v212_21 q cc gc v 1440 0 (fset h 162 27 (.int (nI (u + 1))))) 162 27 (.int ((nI (u + 1)) - (nI 1))), 198, sl) = some R := hh
    have er8 : R = (some (.int v), fset (v212_21 q cc gc v 1440 0 (fset h 162 27 (.int (nI (u + 1))))) 162 27 (.int ((nI (u + 1)) - (nI 1))), 198, sl) := (rn_ret rfl (Or.inl rfl) hh).2
    have ed : v212 q cc gc h u v = (v, fset (v212_21 q cc gc v 1440 0 (fset h 162 27 (.int (nI (u + 1))))) 162 27 (.int ((nI (u + 1)) - (nI 1)))) := (cf z1).trans rfl
    refine ⟨?_, ?_, ?_⟩ <;> rw [ed]
    · exact er8
    · exact (hc_f rfl rfl (by decide) rfl hc6)
    · exact (fr_f rfl rfl (fr_g rfl rfl hf7 (fr_f rfl rfl fr_0)))
theorem v212_fr {cc gc : Nat} {q : QT} {h : pm_H} {u : Nat} {v : Int32} (hw : HC q cc gc h) (hu : u ≤ 15) : HC q cc gc ((v212 q cc gc h u v).2) ∧ frm [162, 178] [(162, 27)] h ((v212 q cc gc h u v).2) := by
  unfold v212
  refine cd_s (P := fun (p : Int32 × pm_H) => HC q cc gc ((p).2) ∧ frm [162, 178] [(162, 27)] h ((p).2)) (b := decide (u + 1 ≤ 15)) (fun _ => ?_) (fun _ => ?_)
  · show HC q cc gc (fset h 162 27 (.int (nI (u + 1)))) ∧ frm [162, 178] [(162, 27)] h (fset h 162 27 (.int (nI (u + 1))))
    exact ⟨(hc_f rfl rfl (by decide) rfl hw), (fr_f rfl rfl fr_0)⟩
  · show HC q cc gc (fset (v212_21 q cc gc v 1440 0 (fset h 162 27 (.int (nI (u + 1))))) 162 27 (.int ((nI (u + 1)) - (nI 1)))) ∧ frm [162, 178] [(162, 27)] h (fset (v212_21 q cc gc v 1440 0 (fset h 162 27 (.int (nI (u + 1))))) 162 27 (.int ((nI (u + 1)) - (nI 1))))
    exact ⟨(hc_f rfl rfl (by decide) rfl (v212_21_fr (t1 := v) (j := 1440) (i := 0) (hc_f rfl rfl (by decide) rfl hw)).1), (fr_f rfl rfl (fr_g rfl rfl (v212_21_fr (t1 := v) (j := 1440) (i := 0) (hc_f rfl rfl (by decide) rfl hw)).2 (fr_f rfl rfl fr_0)))⟩
def v229_2b (q : QT) (cc gc : Nat) (h : pm_H) (i : Nat) : pm_H := aset h 171 96 (upd (Ar h 171) i ((Ar h 170) i))
def v229_2 (q : QT) (cc gc : Nat) (j i : Nat) (a : pm_H) : pm_H := lp (fun i a => v229_2b q cc gc a i) j i a
theorem v229_2_e {n fr lo sl cc gc : Nat} {q : QT} {h : pm_H} {R : pm_Rs} {i : Nat} (hw : HC q cc gc h) (hi : 96 ≤ i) (hI : i < 1000000) (hh : pm_run PT n fr lo 229 (2, [some (.ref 162), some (.int (nI i))], [], h, 198, sl) = some R) : ∃ m, pm_run PT m fr lo 229 (26, [some (.ref 162), some (.int (nI i))], [], h, 198, sl) = some R := by
  have hcc := hw.cb
  have hgc := hw.gb
  have hzr := hw.zr
  obtain ⟨n, hh⟩ := rn_i rfl rfl rfl rfl hh
  obtain ⟨n, hh⟩ := rn_i rfl rfl rfl rfl hh
  have hh : pm_run PT n fr lo 229 (5, [some (.ref 162), some (.int (nI i))], [.int (nI 96), .int (nI i)], h, 198, sl) = some R := hh
  obtain ⟨n, hh⟩ := en_cn (cc := .ge) (off := 21) (t := 26) (b := decide (96 ≤ i)) (hI_ge (by omega) (by omega)) rfl rfl hh
  have hh := en_t (show decide (96 ≤ i) = true from decide_eq_true (by omega)) hh
  have hh : pm_run PT n fr lo 229 (26, [some (.ref 162), some (.int (nI i))], [], h, 198, sl) = some R := hh
  exact ⟨n, hh⟩
theorem v229_2_s {n fr lo sl cc gc : Nat} {q : QT} {h : pm_H} {R : pm_Rs} {i : Nat} (hw : HC q cc gc h) (hi : i < 96) (hI : i < 1000000) (hh : pm_run PT n fr lo 229 (2, [some (.ref 162), some (.int (nI i))], [], h, 198, sl) = some R) : ∃ m, HC q cc gc ((v229_2b q cc gc h i)) ∧ frm [171] [] h ((v229_2b q cc gc h i)) ∧ pm_run PT m fr lo 229 (2, [some (.ref 162), some (.int (nI (i + 1)))], [], (v229_2b q cc gc h i), 198, sl) = some R := by
  have hcc := hw.cb
  have hgc := hw.gb
  have hzr := hw.zr
  obtain ⟨n, hh⟩ := rn_i rfl rfl rfl rfl hh
  obtain ⟨n, hh⟩ := rn_i rfl rfl rfl rfl hh
  have hh : pm_run PT n fr lo 229 (5, [some (.ref 162), some (.int (nI i))], [.int (nI 96), .int (nI i)], h, 198, sl) = some R := hh
  obtain ⟨n, hh⟩ := en_cn (cc := .ge) (off := 21) (t := 26) (b := decide (96 ≤ i)) (hI_ge (by omega) (by omega)) rfl rfl hh
  have hh := en_f (show decide (96 ≤ i) = false from decide_eq_false (by omega)) hh
  have hh : pm_run PT n fr lo 229 (8, [some (.ref 162), some (.int (nI i))], [], h, 198, sl) = some R := hh
  obtain ⟨n, hh⟩ := rn_i rfl rfl rfl rfl hh
  have hh : pm_run PT n fr lo 229 (9, [some (.ref 162), some (.int (nI i))], [.ref 162], h, 198, sl) = some R := hh
  obtain ⟨n, hh⟩ := rn_gr hw.wt rfl rfl (by decide) rfl (by decide) (show _ = some (2, ((171 : Nat) : Int), 1) from rfl) rfl hh
  obtain ⟨n, hh⟩ := rn_i rfl rfl rfl rfl hh
  obtain ⟨n, hh⟩ := rn_i rfl rfl rfl rfl hh
  have hh : pm_run PT n fr lo 229 (14, [some (.ref 162), some (.int (nI i))], [.ref 162, .int (nI i), .ref 171], h, 198, sl) = some R := hh
  obtain ⟨n, hh⟩ := rn_gr hw.wt rfl rfl (by decide) rfl (by decide) (show _ = some (2, ((170 : Nat) : Int), 1) from rfl) rfl hh
  obtain ⟨n, hh⟩ := rn_i rfl rfl rfl rfl hh
  have hh : pm_run PT n fr lo 229 (18, [some (.ref 162), some (.int (nI i))], [.int (nI i), .ref 170, .int (nI i), .ref 171], h, 198, sl) = some R := hh
  obtain ⟨n, hx1, hh⟩ := en_lu (t := i) (f := Ar h 170) (w := (Ar h 170) i) (nI_clamp (by omega)) hw.wt rfl (by decide) rfl (by decide) rfl (fun _ => rfl) hh
  have hh : pm_run PT n fr lo 229 (19, [some (.ref 162), some (.int (nI i))], [.int ((Ar h 170) i), .int (nI i), .ref 171], h, 198, sl) = some R := hh
  obtain ⟨n, hx2, hh⟩ := en_st (t := i) (f := Ar h 171) (nI_clamp (by omega)) hw.wt rfl (by decide) rfl (by decide) rfl hh
  have hh : pm_run PT n fr lo 229 (20, [some (.ref 162), some (.int (nI i))], [], aset h 171 96 (upd (Ar h 171) i ((Ar h 170) i)), 198, sl) = some R := hh
  obtain ⟨n, hh⟩ := en_inc (x := i) (c := 1) (j := 1) rfl rfl (by decide) hh
  have hh : pm_run PT n fr lo 229 (23, [some (.ref 162), some (.int (nI (i + 1)))], [], aset h 171 96 (upd (Ar h 171) i ((Ar h 170) i)), 198, sl) = some R := hh
  obtain ⟨n, hh⟩ := rn_i rfl rfl rfl rfl hh
  have ed : v229_2b q cc gc h i = aset h 171 96 (upd (Ar h 171) i ((Ar h 170) i)) := rfl
  rw [ed]
  exact ⟨n, (hc_a rfl rfl hw), (fr_a rfl rfl fr_0), hh⟩
theorem v229_2_ok {fr lo sl cc gc : Nat} {q : QT} {R : pm_Rs} : ∀ {j i : Nat} {h : pm_H} {n : Nat}, 96 - i = j → i + j < 1000000 → HC q cc gc h → pm_run PT n fr lo 229 (2, [some (.ref 162), some (.int (nI i))], [], h, 198, sl) = some R → ∃ m wc, HC q cc gc ((v229_2 q cc gc j i h)) ∧ frm [171] [] h ((v229_2 q cc gc j i h)) ∧ pm_run PT m fr lo 229 (26, [some (.ref 162), wc], [], (v229_2 q cc gc j i h), 198, sl) = some R := by
  intro j
  induction j with
  | zero =>
    intro i h n e eI hw hh
    obtain ⟨n, hh⟩ := v229_2_e hw (by omega) (by omega) hh
    exact ⟨n, _, hw, fr_0, hh⟩
  | succ j ih =>
    intro i h n e eI hw hh
    obtain ⟨n, hc, hf, hh⟩ := v229_2_s hw (by omega) (by omega) hh
    obtain ⟨n, wc, hc2, hf2, hh⟩ := ih (by omega) (by omega) hc hh
    exact ⟨n, wc, hc2, fr_t hf2 hf, hh⟩
def v229 (q : QT) (cc gc : Nat) (h : pm_H) : pm_H := (v229_2 q cc gc 96 0 h)
theorem v229_ok {n fr lo sl cc gc : Nat} {q : QT} {h : pm_H} {R : pm_Rs} (hw : HC q cc gc h) (hh : pm_run PT n fr lo 229 (0, pm_l0 [.ref 162] 2, [], h, 198, sl) = some R) : R = (none, v229 q cc gc h, 198, sl) ∧ HC q cc gc (v229 q cc gc h) ∧ frm [171] [] h (v229 q cc gc h) := by
  have hcc := hw.cb
  have hgc := hw.gb
  have hzr := hw.zr
  obtain ⟨n, hh⟩ := rn_i rfl rfl rfl rfl hh
  obtain ⟨n, hh⟩ := rn_i rfl rfl rfl rfl hh
  have hh : pm_run PT n fr lo 229 (2, [some (.ref 162), some (.int (nI 0))], [], h, 198, sl) = some R := hh
  obtain ⟨n, u1, hc2, hf3, hh⟩ := v229_2_ok  (i := 0) (j := 96) (by omega) (by omega) hw hh
  have hh : pm_run PT n fr lo 229 (26, [some (.ref 162), u1], [], (v229_2 q cc gc 96 0 h), 198, sl) = some R := hh
  have er4 : R = (none, (v229_2 q cc gc 96 0 h), 198, sl) := rn_vret rfl rfl hh
  have ed : v229 q cc gc h = (v229_2 q cc gc 96 0 h) := rfl
  refine ⟨?_, ?_, ?_⟩ <;> rw [ed]
  · exact er4
  · exact hc2
  · exact (fr_g rfl rfl hf3 fr_0)
def v167 (q : QT) (cc gc : Nat) (h : pm_H) (v : Int64) : pm_H := fset (lset h 163 128 (vp_updL (Al h 163) ((Fi h 162 1).toNatClampNeg) v)) 162 1 (.int ((Fi h 162 1) + (nI 1)))
theorem v167_ok {n fr lo sl cc gc : Nat} {q : QT} {h : pm_H} {R : pm_Rs} {v : Int64} (hw : HC q cc gc h) (hh : pm_run PT n fr lo 167 (0, pm_l0 [.ref 162, .long v] 3, [], h, 198, sl) = some R) : R = (none, v167 q cc gc h v, 198, sl) ∧ HC q cc gc (v167 q cc gc h v) ∧ frm [162, 163] [(162, 1)] h (v167 q cc gc h v) := by
  have hcc := hw.cb
  have hgc := hw.gb
  have hzr := hw.zr
  obtain ⟨n, hh⟩ := rn_i rfl rfl rfl rfl hh
  have hh : pm_run PT n fr lo 167 (1, [some (.ref 162), some (.long v), none], [.ref 162], h, 198, sl) = some R := hh
  obtain ⟨n, hh⟩ := rn_gr hw.wt rfl rfl (by decide) rfl (by decide) (show _ = some (2, ((163 : Nat) : Int), 1) from rfl) rfl hh
  obtain ⟨n, hh⟩ := rn_i rfl rfl rfl rfl hh
  have hh : pm_run PT n fr lo 167 (5, [some (.ref 162), some (.long v), none], [.ref 162, .ref 163], h, 198, sl) = some R := hh
  obtain ⟨n, hh⟩ := rn_gi (x := Fi h 162 1) hw.wt rfl rfl (by decide) rfl (by decide) rfl rfl hh
  obtain ⟨n, hh⟩ := rn_i rfl rfl rfl rfl hh
  have hh : pm_run PT n fr lo 167 (9, [some (.ref 162), some (.long v), none], [.long v, .int (Fi h 162 1), .ref 163], h, 198, sl) = some R := hh
  obtain ⟨n, hx1, hh⟩ := en_lst (t := (Fi h 162 1).toNatClampNeg) (f := Al h 163) rfl hw.wt rfl (by decide) rfl (by decide) rfl hh
  obtain ⟨n, hh⟩ := rn_i rfl rfl rfl rfl hh
  obtain ⟨n, hh⟩ := rn_i rfl rfl rfl rfl hh
  have hh : pm_run PT n fr lo 167 (12, [some (.ref 162), some (.long v), none], [.ref 162, .ref 162], lset h 163 128 (vp_updL (Al h 163) ((Fi h 162 1).toNatClampNeg) v), 198, sl) = some R := hh
  obtain ⟨n, hh⟩ := rn_gi (x := Fi h 162 1) (hc_l rfl rfl hw).wt rfl rfl (by decide) rfl (by decide) rfl ((Fi_e (ls_ne (by decide))).trans rfl) hh
  obtain ⟨n, hh⟩ := rn_i rfl rfl rfl rfl hh
  obtain ⟨n, hh⟩ := rn_i rfl rfl rfl rfl hh
  have hh : pm_run PT n fr lo 167 (17, [some (.ref 162), some (.long v), none], [.int ((Fi h 162 1) + (nI 1)), .ref 162], lset h 163 128 (vp_updL (Al h 163) ((Fi h 162 1).toNatClampNeg) v), 198, sl) = some R := hh
  obtain ⟨n, hh⟩ := rn_pi (hc_l rfl rfl hw).wt rfl rfl (by decide) rfl (by decide) rfl hh
  have er2 : R = (none, fset (lset h 163 128 (vp_updL (Al h 163) ((Fi h 162 1).toNatClampNeg) v)) 162 1 (.int ((Fi h 162 1) + (nI 1))), 198, sl) := rn_vret rfl rfl hh
  have ed : v167 q cc gc h v = fset (lset h 163 128 (vp_updL (Al h 163) ((Fi h 162 1).toNatClampNeg) v)) 162 1 (.int ((Fi h 162 1) + (nI 1))) := rfl
  refine ⟨?_, ?_, ?_⟩ <;> rw [ed]
  · exact er2
  · exact (hc_f rfl rfl (by decide) rfl (hc_l rfl rfl hw))
  · exact (fr_f rfl rfl (fr_l rfl rfl fr_0))
theorem v167_fr {cc gc : Nat} {q : QT} {h : pm_H} {v : Int64} (hw : HC q cc gc h) : HC q cc gc (v167 q cc gc h v) ∧ frm [162, 163] [(162, 1)] h (v167 q cc gc h v) := by
  unfold v167
  show HC q cc gc (fset (lset h 163 128 (vp_updL (Al h 163) ((Fi h 162 1).toNatClampNeg) v)) 162 1 (.int ((Fi h 162 1) + (nI 1)))) ∧ frm [162, 163] [(162, 1)] h (fset (lset h 163 128 (vp_updL (Al h 163) ((Fi h 162 1).toNatClampNeg) v)) 162 1 (.int ((Fi h 162 1) + (nI 1))))
  exact ⟨(hc_f rfl rfl (by decide) rfl (hc_l rfl rfl hw)), (fr_f rfl rfl (fr_l rfl rfl fr_0))⟩
end EE2
end MG95zzxi2x0
section MG95zzxi2x1
/-! runs told exactly, written by ext.py -/
section EE3
def v257_4b (q : QT) (cc gc : Nat) (h : pm_H) (i : Nat) (x1 : Int32) : Int32 × pm_H := (x1 + ((v201 q cc gc h i (((Ar h 170) (78 + i)).toNatClampNeg)).1), (v201 q cc gc h i (((Ar h 170) (78 + i)).toNatClampNeg)).2)
def v257_4 (q : QT) (cc gc : Nat) (j i : Nat) (a : Int32 × pm_H) : Int32 × pm_H := lp (fun i a => v257_4b q cc gc a.2 i a.1) j i a
theorem v257_4_e {n fr lo sl cc gc : Nat} {q : QT} {h : pm_H} {R : pm_Rs} {i : Nat} {x1 : Int32} (hw : HC q cc gc h) (hol : NA h 170 78 86 6) (hi : gc ≤ i) (hI : i < 1000000) (hh : pm_run PT n fr lo 257 (4, [some (.ref 162), some (.int x1), some (.int (nI i))], [], h, 198, sl) = some R) : ∃ m, pm_run PT m fr lo 257 (39, [some (.ref 162), some (.int x1), some (.int (nI i))], [], h, 198, sl) = some R := by
  have hcc := hw.cb
  have hgc := hw.gb
  have hzr := hw.zr
  obtain ⟨n, hh⟩ := rn_i rfl rfl rfl rfl hh
  obtain ⟨n, hh⟩ := rn_i rfl rfl rfl rfl hh
  have hh : pm_run PT n fr lo 257 (6, [some (.ref 162), some (.int x1), some (.int (nI i))], [.ref 162, .int (nI i)], h, 198, sl) = some R := hh
  obtain ⟨n, hh⟩ := rn_gi (x := nI gc) hw.wt rfl rfl (by decide) rfl (by decide) rfl hw.m4 hh
  have hh : pm_run PT n fr lo 257 (9, [some (.ref 162), some (.int x1), some (.int (nI i))], [.int (nI gc), .int (nI i)], h, 198, sl) = some R := hh
  obtain ⟨n, hh⟩ := en_cn (cc := .ge) (off := 30) (t := 39) (b := decide (gc ≤ i)) (hI_ge (by omega) (by omega)) rfl rfl hh
  have hh := en_t (show decide (gc ≤ i) = true from decide_eq_true (by omega)) hh
  have hh : pm_run PT n fr lo 257 (39, [some (.ref 162), some (.int x1), some (.int (nI i))], [], h, 198, sl) = some R := hh
  exact ⟨n, hh⟩
theorem v257_4_s {n fr lo sl cc gc : Nat} {q : QT} {h : pm_H} {R : pm_Rs} {i : Nat} {x1 : Int32} (hw : HC q cc gc h) (hol : NA h 170 78 86 6) (hi : i < gc) (hI : i < 1000000) (hh : pm_run PT n fr lo 257 (4, [some (.ref 162), some (.int x1), some (.int (nI i))], [], h, 198, sl) = some R) : ∃ m, HC q cc gc ((v257_4b q cc gc h i x1).2) ∧ frm [176, 177] [] h ((v257_4b q cc gc h i x1).2) ∧ NA ((v257_4b q cc gc h i x1).2) 170 78 86 6 ∧ pm_run PT m fr lo 257 (4, [some (.ref 162), some (.int ((v257_4b q cc gc h i x1).1)), some (.int (nI (i + 1)))], [], (v257_4b q cc gc h i x1).2, 198, sl) = some R := by
  have hcc := hw.cb
  have hgc := hw.gb
  have hzr := hw.zr
  obtain ⟨n, hh⟩ := rn_i rfl rfl rfl rfl hh
  obtain ⟨n, hh⟩ := rn_i rfl rfl rfl rfl hh
  have hh : pm_run PT n fr lo 257 (6, [some (.ref 162), some (.int x1), some (.int (nI i))], [.ref 162, .int (nI i)], h, 198, sl) = some R := hh
  obtain ⟨n, hh⟩ := rn_gi (x := nI gc) hw.wt rfl rfl (by decide) rfl (by decide) rfl hw.m4 hh
  have hh : pm_run PT n fr lo 257 (9, [some (.ref 162), some (.int x1), some (.int (nI i))], [.int (nI gc), .int (nI i)], h, 198, sl) = some R := hh
  obtain ⟨n, hh⟩ := en_cn (cc := .ge) (off := 30) (t := 39) (b := decide (gc ≤ i)) (hI_ge (by omega) (by omega)) rfl rfl hh
  have hh := en_f (show decide (gc ≤ i) = false from decide_eq_false (by omega)) hh
  have hh : pm_run PT n fr lo 257 (12, [some (.ref 162), some (.int x1), some (.int (nI i))], [], h, 198, sl) = some R := hh
  obtain ⟨n, hh⟩ := rn_i rfl rfl rfl rfl hh
  obtain ⟨n, hh⟩ := rn_i rfl rfl rfl rfl hh
  obtain ⟨n, hh⟩ := rn_i rfl rfl rfl rfl hh
  have hh : pm_run PT n fr lo 257 (15, [some (.ref 162), some (.int x1), some (.int (nI i))], [.ref 162, .ref 162, .int x1], h, 198, sl) = some R := hh
  obtain ⟨n, hh⟩ := rn_gr hw.wt rfl rfl (by decide) rfl (by decide) (show _ = some (2, ((170 : Nat) : Int), 1) from rfl) rfl hh
  obtain ⟨n, hh⟩ := rn_i rfl rfl rfl rfl hh
  obtain ⟨n, hh⟩ := rn_i rfl rfl rfl rfl hh
  have hh : pm_run PT n fr lo 257 (20, [some (.ref 162), some (.int x1), some (.int (nI i))], [.ref 162, .int (nI i), .ref 170, .ref 162, .int x1], h, 198, sl) = some R := hh
  obtain ⟨n, hh⟩ := rn_gr hw.wt rfl rfl (by decide) rfl (by decide) (show _ = some (2, ((170 : Nat) : Int), 1) from rfl) rfl hh
  obtain ⟨n, hh⟩ := rn_i rfl rfl rfl rfl hh
  obtain ⟨n, hh⟩ := rn_i rfl rfl rfl rfl hh
  have hh : pm_run PT n fr lo 257 (26, [some (.ref 162), some (.int x1), some (.int (nI i))], [.int (nI i), .int (nI 78), .ref 170, .int (nI i), .ref 170, .ref 162, .int x1], h, 198, sl) = some R := hh
  obtain ⟨n, hh⟩ := en_add rfl hh
  have hh : pm_run PT n fr lo 257 (27, [some (.ref 162), some (.int x1), some (.int (nI i))], [.int (nI (78 + i)), .ref 170, .int (nI i), .ref 170, .ref 162, .int x1], h, 198, sl) = some R := hh
  have hh : pm_run PT n fr lo 257 (27, [some (.ref 162), some (.int x1), some (.int (nI i))], [.int (nI (78 + i)), .ref 170, .int (nI i), .ref 170, .ref 162, .int x1], h, 198, sl) = some R := hh
  obtain ⟨n, hx1, hh⟩ := en_lu (t := 78 + i) (f := Ar h 170) (w := nI (((Ar h 170) (78 + i)).toNatClampNeg)) (nI_clamp (by omega)) hw.wt rfl (by decide) rfl (by decide) rfl (fun z => (hol _ (by omega) (by omega)).1) hh
  have hb2 := (hol (78 + i) (by omega) (by omega)).2
  have hh : pm_run PT n fr lo 257 (28, [some (.ref 162), some (.int x1), some (.int (nI i))], [.int (nI (((Ar h 170) (78 + i)).toNatClampNeg)), .int (nI i), .ref 170, .ref 162, .int x1], h, 198, sl) = some R := hh
  obtain ⟨n, fr1, lo1, r1, hh1, hh⟩ := rn_call (w := 0) (t := 201) rfl rfl hh
  obtain ⟨er3, hc4, hf5⟩ := v201_ok (g := i) (c := (((Ar h 170) (78 + i)).toNatClampNeg)) hw (by omega) (by omega) hh1
  subst er3
  obtain ⟨n, hh⟩ := rn_i rfl rfl rfl rfl hh
  obtain ⟨n, hh⟩ := rn_i rfl rfl rfl rfl hh
  have hh : pm_run PT n fr lo 257 (33, [some (.ref 162), some (.int (x1 + ((v201 q cc gc h i (((Ar h 170) (78 + i)).toNatClampNeg)).1))), some (.int (nI i))], [], (v201 q cc gc h i (((Ar h 170) (78 + i)).toNatClampNeg)).2, 198, sl) = some R := hh
  obtain ⟨n, hh⟩ := en_inc (x := i) (c := 1) (j := 2) rfl rfl (by decide) hh
  have hh : pm_run PT n fr lo 257 (36, [some (.ref 162), some (.int (x1 + ((v201 q cc gc h i (((Ar h 170) (78 + i)).toNatClampNeg)).1))), some (.int (nI (i + 1)))], [], (v201 q cc gc h i (((Ar h 170) (78 + i)).toNatClampNeg)).2, 198, sl) = some R := hh
  obtain ⟨n, hh⟩ := rn_i rfl rfl rfl rfl hh
  have ed : v257_4b q cc gc h i x1 = (x1 + ((v201 q cc gc h i (((Ar h 170) (78 + i)).toNatClampNeg)).1), (v201 q cc gc h i (((Ar h 170) (78 + i)).toNatClampNeg)).2) := rfl
  rw [ed]
  exact ⟨n, hc4, (fr_g rfl rfl hf5 fr_0), (NA_e ((Ar_e (hf5.1 170 rfl)).trans rfl) hol), hh⟩
theorem v257_4_ok {fr lo sl cc gc : Nat} {q : QT} {R : pm_Rs} : ∀ {j i : Nat} {x1 : Int32} {h : pm_H} {n : Nat}, gc - i = j → i + j < 1000000 → HC q cc gc h → NA h 170 78 86 6 → pm_run PT n fr lo 257 (4, [some (.ref 162), some (.int x1), some (.int (nI i))], [], h, 198, sl) = some R → ∃ m wc, HC q cc gc ((v257_4 q cc gc j i (x1, h)).2) ∧ frm [176, 177] [] h ((v257_4 q cc gc j i (x1, h)).2) ∧ NA ((v257_4 q cc gc j i (x1, h)).2) 170 78 86 6 ∧ pm_run PT m fr lo 257 (39, [some (.ref 162), some (.int ((v257_4 q cc gc j i (x1, h)).1)), wc], [], (v257_4 q cc gc j i (x1, h)).2, 198, sl) = some R := by
  intro j
  induction j with
  | zero =>
    intro i x1 h n e eI hw hol hh
    obtain ⟨n, hh⟩ := v257_4_e hw hol (by omega) (by omega) hh
    exact ⟨n, _, hw, fr_0, hol, hh⟩
  | succ j ih =>
    intro i x1 h n e eI hw hol hh
    obtain ⟨n, hc, hf, hol', hh⟩ := v257_4_s hw hol (by omega) (by omega) hh
    obtain ⟨n, wc, hc2, hf2, hol'', hh⟩ := ih (by omega) (by omega) hc hol' hh
    exact ⟨n, wc, hc2, fr_t hf2 hf, hol'', hh⟩
def v257 (q : QT) (cc gc : Nat) (h : pm_H) : Int32 × pm_H := ((v257_4 q cc gc gc 0 ((nI 0), h)).1, (v257_4 q cc gc gc 0 ((nI 0), h)).2)
theorem v257_ok {n fr lo sl cc gc : Nat} {q : QT} {h : pm_H} {R : pm_Rs} (hw : HC q cc gc h) (hol : NA h 170 78 86 6) (hh : pm_run PT n fr lo 257 (0, pm_l0 [.ref 162] 3, [], h, 198, sl) = some R) : R = (some (.int ((v257 q cc gc h).1)), (v257 q cc gc h).2, 198, sl) ∧ HC q cc gc ((v257 q cc gc h).2) ∧ frm [176, 177] [] h ((v257 q cc gc h).2) := by
  have hcc := hw.cb
  have hgc := hw.gb
  have hzr := hw.zr
  obtain ⟨n, hh⟩ := rn_i rfl rfl rfl rfl hh
  obtain ⟨n, hh⟩ := rn_i rfl rfl rfl rfl hh
  obtain ⟨n, hh⟩ := rn_i rfl rfl rfl rfl hh
  obtain ⟨n, hh⟩ := rn_i rfl rfl rfl rfl hh
  have hh : pm_run PT n fr lo 257 (4, [some (.ref 162), some (.int (nI 0)), some (.int (nI 0))], [], h, 198, sl) = some R := hh
  obtain ⟨n, u1, hc3, hf4, hn2, hh⟩ := v257_4_ok  (i := 0) (x1 := (nI 0)) (j := gc) (by omega) (by omega) hw hol hh
  have hh : pm_run PT n fr lo 257 (39, [some (.ref 162), some (.int ((v257_4 q cc gc gc 0 ((nI 0), h)).1)), u1], [], (v257_4 q cc gc gc 0 ((nI 0), h)).2, 198, sl) = some R := hh
  obtain ⟨n, hh⟩ := rn_i rfl rfl rfl rfl hh
  have hh : pm_run PT n fr lo 257 (40, [some (.ref 162), some (.int ((v257_4 q cc gc gc 0 ((nI 0), h)).1)), u1], [.int ((v257_4 q cc gc gc 0 ((nI 0), h)).1)], (v257_4 q cc gc gc 0 ((nI 0), h)).2, 198, sl) = some R := hh
  have er5 : R = (some (.int ((v257_4 q cc gc gc 0 ((nI 0), h)).1)), (v257_4 q cc gc gc 0 ((nI 0), h)).2, 198, sl) := (rn_ret rfl (Or.inl rfl) hh).2
  have ed : v257 q cc gc h = ((v257_4 q cc gc gc 0 ((nI 0), h)).1, (v257_4 q cc gc gc 0 ((nI 0), h)).2) := rfl
  refine ⟨?_, ?_, ?_⟩ <;> rw [ed]
  · exact er5
  · exact hc3
  · exact (fr_g rfl rfl hf4 fr_0)
end EE3
end MG95zzxi2x1
section MG95zzxi2x2
/-! runs told exactly, written by ext.py -/
section EE4
def v241_2b (q : QT) (cc gc : Nat) (h : pm_H) (m1 : Nat) (i : Nat) : (pm_H) ⊕ (Int32 × pm_H) := cond (pm_cmp .eq ((((Ar (v219t q cc gc h) 171) 94) &&& (((Ar h 171) 94) ^^^ (Int32.ofInt (-1)))) &&& (v174 q cc gc (Ar (v219t q cc gc h) 171) m1)) 0) (.inl (fset (v219t q cc gc h) 162 41 (.int ((((Ar (v219t q cc gc h) 171) 94) &&& (((Ar h 171) 94) ^^^ (Int32.ofInt (-1)))) &&& (v174 q cc gc (Ar (v219t q cc gc h) 171) m1))))) (.inr (nI i, fset (v219t q cc gc h) 162 41 (.int ((((Ar (v219t q cc gc h) 171) 94) &&& (((Ar h 171) 94) ^^^ (Int32.ofInt (-1)))) &&& (v174 q cc gc (Ar (v219t q cc gc h) 171) m1)))))
def v241_2 (q : QT) (cc gc : Nat) (m1 : Nat) (j i : Nat) (a : pm_H) : (pm_H) ⊕ (Int32 × pm_H) := lpE (fun i a => v241_2b q cc gc a m1 i) j i a
theorem v241_2_e {n fr lo sl cc gc : Nat} {q : QT} {h : pm_H} {R : pm_Rs} {m1 : Nat} {i : Nat} {o3 : Option Value} (hw : HC q cc gc h) (h_m1 : m1 < 10000) (hi : 100 ≤ i) (hI : i < 1000000) (hh : pm_run PT n fr lo 241 (2, [some (.ref 162), some (.int (nI m1)), some (.int (nI i)), o3], [], h, 198, sl) = some R) : ∃ m, pm_run PT m fr lo 241 (64, [some (.ref 162), some (.int (nI m1)), some (.int (nI i)), o3], [], h, 198, sl) = some R := by
  have hcc := hw.cb
  have hgc := hw.gb
  have hzr := hw.zr
  obtain ⟨n, hh⟩ := rn_i rfl rfl rfl rfl hh
  obtain ⟨n, hh⟩ := rn_i rfl rfl rfl rfl hh
  have hh : pm_run PT n fr lo 241 (5, [some (.ref 162), some (.int (nI m1)), some (.int (nI i)), o3], [.int (nI 99), .int (nI i)], h, 198, sl) = some R := hh
  obtain ⟨n, hh⟩ := en_cn (cc := .gt) (off := 59) (t := 64) (b := decide (99 < i)) (hI_gt (by omega) (by omega)) rfl rfl hh
  have hh := en_t (show decide (99 < i) = true from decide_eq_true (by omega)) hh
  have hh : pm_run PT n fr lo 241 (64, [some (.ref 162), some (.int (nI m1)), some (.int (nI i)), o3], [], h, 198, sl) = some R := hh
  exact ⟨n, hh⟩
theorem v241_2_s {n fr lo sl cc gc : Nat} {q : QT} {h : pm_H} {R : pm_Rs} {m1 : Nat} {i : Nat} {o3 : Option Value} (hw : HC q cc gc h) (h_m1 : m1 < 10000) (hi : i < 100) (hI : i < 1000000) (hh : pm_run PT n fr lo 241 (2, [some (.ref 162), some (.int (nI m1)), some (.int (nI i)), o3], [], h, 198, sl) = some R) : (∃ m, ∃ a : pm_H, ∃ w3, v241_2b q cc gc h m1 i = .inl a ∧ HC q cc gc (a) ∧ frm [162, 171] [(162, 41)] h (a) ∧ pm_run PT m fr lo 241 (2, [some (.ref 162), some (.int (nI m1)), some (.int (nI (i + 1))), w3], [], a, 198, sl) = some R) ∨ (∃ r : Int32 × pm_H, v241_2b q cc gc h m1 i = .inr r ∧ HC q cc gc r.2 ∧ frm [162, 171] [(162, 41)] h r.2 ∧ R = (some (.int r.1), r.2, 198, sl)) := by
  have hcc := hw.cb
  have hgc := hw.gb
  have hzr := hw.zr
  obtain ⟨n, hh⟩ := rn_i rfl rfl rfl rfl hh
  obtain ⟨n, hh⟩ := rn_i rfl rfl rfl rfl hh
  have hh : pm_run PT n fr lo 241 (5, [some (.ref 162), some (.int (nI m1)), some (.int (nI i)), o3], [.int (nI 99), .int (nI i)], h, 198, sl) = some R := hh
  obtain ⟨n, hh⟩ := en_cn (cc := .gt) (off := 59) (t := 64) (b := decide (99 < i)) (hI_gt (by omega) (by omega)) rfl rfl hh
  have hh := en_f (show decide (99 < i) = false from decide_eq_false (by omega)) hh
  have hh : pm_run PT n fr lo 241 (8, [some (.ref 162), some (.int (nI m1)), some (.int (nI i)), o3], [], h, 198, sl) = some R := hh
  obtain ⟨n, hh⟩ := rn_i rfl rfl rfl rfl hh
  have hh : pm_run PT n fr lo 241 (9, [some (.ref 162), some (.int (nI m1)), some (.int (nI i)), o3], [.ref 162], h, 198, sl) = some R := hh
  obtain ⟨n, hh⟩ := rn_gr hw.wt rfl rfl (by decide) rfl (by decide) (show _ = some (2, ((171 : Nat) : Int), 1) from rfl) rfl hh
  obtain ⟨n, hh⟩ := rn_i rfl rfl rfl rfl hh
  have hh : pm_run PT n fr lo 241 (14, [some (.ref 162), some (.int (nI m1)), some (.int (nI i)), o3], [.int (nI 94), .ref 171], h, 198, sl) = some R := hh
  obtain ⟨n, hx1, hh⟩ := en_lu (t := 94) (f := Ar h 171) (w := (Ar h 171) 94) (nI_clamp (by omega)) hw.wt rfl (by decide) rfl (by decide) rfl (fun _ => rfl) hh
  obtain ⟨n, hh⟩ := rn_i rfl rfl rfl rfl hh
  obtain ⟨n, hh⟩ := rn_i rfl rfl rfl rfl hh
  obtain ⟨n, hh⟩ := rn_i rfl rfl rfl rfl hh
  have hh : pm_run PT n fr lo 241 (18, [some (.ref 162), some (.int (nI m1)), some (.int (nI i)), some (.int ((Ar h 171) 94))], [.ref 162, .ref 162], h, 198, sl) = some R := hh
  obtain ⟨n, hh⟩ := rn_gr hw.wt rfl rfl (by decide) rfl (by decide) (show _ = some (2, ((171 : Nat) : Int), 1) from rfl) rfl hh
  have hh : pm_run PT n fr lo 241 (21, [some (.ref 162), some (.int (nI m1)), some (.int (nI i)), some (.int ((Ar h 171) 94))], [.ref 171, .ref 162], h, 198, sl) = some R := hh
  obtain ⟨n, fr1, lo1, r1, hh1, hh⟩ := rn_call (w := 0) (t := 219) rfl rfl hh
  obtain ⟨er2, hc3, hf4⟩ := v219t_ok hw hh1
  subst er2
  obtain ⟨n, hh⟩ := rn_i rfl rfl rfl rfl hh
  obtain ⟨n, hh⟩ := rn_i rfl rfl rfl rfl hh
  have hh : pm_run PT n fr lo 241 (26, [some (.ref 162), some (.int (nI m1)), some (.int (nI i)), some (.int ((Ar h 171) 94))], [.ref 162, .ref 162], v219t q cc gc h, 198, sl) = some R := hh
  obtain ⟨n, hh⟩ := rn_gr hc3.wt rfl rfl (by decide) rfl (by decide) (show _ = some (2, ((171 : Nat) : Int), 1) from rfl) rfl hh
  obtain ⟨n, hh⟩ := rn_i rfl rfl rfl rfl hh
  have hh : pm_run PT n fr lo 241 (31, [some (.ref 162), some (.int (nI m1)), some (.int (nI i)), some (.int ((Ar h 171) 94))], [.int (nI 94), .ref 171, .ref 162], v219t q cc gc h, 198, sl) = some R := hh
  obtain ⟨n, hx5, hh⟩ := en_lu (t := 94) (f := Ar (v219t q cc gc h) 171) (w := (Ar (v219t q cc gc h) 171) 94) (nI_clamp (by omega)) hc3.wt rfl (by decide) rfl (by decide) rfl (fun _ => rfl) hh
  obtain ⟨n, hh⟩ := rn_i rfl rfl rfl rfl hh
  obtain ⟨n, hh⟩ := rn_i rfl rfl rfl rfl hh
  obtain ⟨n, hh⟩ := rn_i rfl rfl rfl rfl hh
  obtain ⟨n, hh⟩ := rn_i rfl rfl rfl rfl hh
  obtain ⟨n, hh⟩ := rn_i rfl rfl rfl rfl hh
  obtain ⟨n, hh⟩ := rn_i rfl rfl rfl rfl hh
  have hh : pm_run PT n fr lo 241 (38, [some (.ref 162), some (.int (nI m1)), some (.int (nI i)), some (.int ((Ar h 171) 94))], [.ref 162, .ref 162, .int (((Ar (v219t q cc gc h) 171) 94) &&& (((Ar h 171) 94) ^^^ (Int32.ofInt (-1)))), .ref 162], v219t q cc gc h, 198, sl) = some R := hh
  obtain ⟨n, hh⟩ := rn_gr hc3.wt rfl rfl (by decide) rfl (by decide) (show _ = some (2, ((171 : Nat) : Int), 1) from rfl) rfl hh
  obtain ⟨n, hh⟩ := rn_i rfl rfl rfl rfl hh
  have hh : pm_run PT n fr lo 241 (42, [some (.ref 162), some (.int (nI m1)), some (.int (nI i)), some (.int ((Ar h 171) 94))], [.int (nI m1), .ref 171, .ref 162, .int (((Ar (v219t q cc gc h) 171) 94) &&& (((Ar h 171) 94) ^^^ (Int32.ofInt (-1)))), .ref 162], v219t q cc gc h, 198, sl) = some R := hh
  obtain ⟨n, fr1, lo1, r1, hh1, hh⟩ := rn_call (w := 0) (t := 174) rfl rfl hh
  have er6 := v174t_ok (c := m1) hc3 (by omega) hh1
  subst er6
  obtain ⟨n, hh⟩ := rn_i rfl rfl rfl rfl hh
  have hh : pm_run PT n fr lo 241 (46, [some (.ref 162), some (.int (nI m1)), some (.int (nI i)), some (.int ((Ar h 171) 94))], [.int ((((Ar (v219t q cc gc h) 171) 94) &&& (((Ar h 171) 94) ^^^ (Int32.ofInt (-1)))) &&& (v174 q cc gc (Ar (v219t q cc gc h) 171) m1)), .ref 162], v219t q cc gc h, 198, sl) = some R := hh
  obtain ⟨n, hh⟩ := rn_pi hc3.wt rfl rfl (by decide) rfl (by decide) rfl hh
  obtain ⟨n, hh⟩ := rn_i rfl rfl rfl rfl hh
  have hh : pm_run PT n fr lo 241 (50, [some (.ref 162), some (.int (nI m1)), some (.int (nI i)), some (.int ((Ar h 171) 94))], [.ref 162], fset (v219t q cc gc h) 162 41 (.int ((((Ar (v219t q cc gc h) 171) 94) &&& (((Ar h 171) 94) ^^^ (Int32.ofInt (-1)))) &&& (v174 q cc gc (Ar (v219t q cc gc h) 171) m1))), 198, sl) = some R := hh
  obtain ⟨n, hh⟩ := rn_gi (x := (((Ar (v219t q cc gc h) 171) 94) &&& (((Ar h 171) 94) ^^^ (Int32.ofInt (-1)))) &&& (v174 q cc gc (Ar (v219t q cc gc h) 171) m1)) (hc_f rfl rfl (by decide) rfl hc3).wt rfl rfl (by decide) rfl (by decide) rfl (Fi_s hc3.wt (by decide) rfl (by decide) rfl) hh
  have hh : pm_run PT n fr lo 241 (53, [some (.ref 162), some (.int (nI m1)), some (.int (nI i)), some (.int ((Ar h 171) 94))], [.int ((((Ar (v219t q cc gc h) 171) 94) &&& (((Ar h 171) 94) ^^^ (Int32.ofInt (-1)))) &&& (v174 q cc gc (Ar (v219t q cc gc h) 171) m1))], fset (v219t q cc gc h) 162 41 (.int ((((Ar (v219t q cc gc h) 171) 94) &&& (((Ar h 171) 94) ^^^ (Int32.ofInt (-1)))) &&& (v174 q cc gc (Ar (v219t q cc gc h) 171) m1))), 198, sl) = some R := hh
  obtain ⟨n, hh⟩ := en_zn (cc := .eq) (off := 5) (t := 58) (b := pm_cmp .eq ((((Ar (v219t q cc gc h) 171) 94) &&& (((Ar h 171) 94) ^^^ (Int32.ofInt (-1)))) &&& (v174 q cc gc (Ar (v219t q cc gc h) 171) m1)) 0) rfl rfl rfl hh
  cases z7 : pm_cmp .eq ((((Ar (v219t q cc gc h) 171) 94) &&& (((Ar h 171) 94) ^^^ (Int32.ofInt (-1)))) &&& (v174 q cc gc (Ar (v219t q cc gc h) 171) m1)) 0 with
  | true =>
    have hh := en_t z7 hh
    have hh : pm_run PT n fr lo 241 (58, [some (.ref 162), some (.int (nI m1)), some (.int (nI i)), some (.int ((Ar h 171) 94))], [], fset (v219t q cc gc h) 162 41 (.int ((((Ar (v219t q cc gc h) 171) 94) &&& (((Ar h 171) 94) ^^^ (Int32.ofInt (-1)))) &&& (v174 q cc gc (Ar (v219t q cc gc h) 171) m1))), 198, sl) = some R := hh
    have hh : pm_run PT n fr lo 241 (58, [some (.ref 162), some (.int (nI m1)), some (.int (nI i)), some (.int ((Ar h 171) 94))], [], fset (v219t q cc gc h) 162 41 (.int ((((Ar (v219t q cc gc h) 171) 94) &&& (((Ar h 171) 94) ^^^ (Int32.ofInt (-1)))) &&& (v174 q cc gc (Ar (v219t q cc gc h) 171) m1))), 198, sl) = some R := hh
    obtain ⟨n, hh⟩ := en_inc (x := i) (c := 1) (j := 2) rfl rfl (by decide) hh
    have hh : pm_run PT n fr lo 241 (61, [some (.ref 162), some (.int (nI m1)), some (.int (nI (i + 1))), some (.int ((Ar h 171) 94))], [], fset (v219t q cc gc h) 162 41 (.int ((((Ar (v219t q cc gc h) 171) 94) &&& (((Ar h 171) 94) ^^^ (Int32.ofInt (-1)))) &&& (v174 q cc gc (Ar (v219t q cc gc h) 171) m1))), 198, sl) = some R := hh
    obtain ⟨n, hh⟩ := rn_i rfl rfl rfl rfl hh
    have ed : v241_2b q cc gc h m1 i = .inl (fset (v219t q cc gc h) 162 41 (.int ((((Ar (v219t q cc gc h) 171) 94) &&& (((Ar h 171) 94) ^^^ (Int32.ofInt (-1)))) &&& (v174 q cc gc (Ar (v219t q cc gc h) 171) m1)))) := (ct z7).trans rfl
    exact Or.inl ⟨n, _, some (.int ((Ar h 171) 94)), ed, (hc_f rfl rfl (by decide) rfl hc3), (fr_f rfl rfl (fr_g rfl rfl hf4 fr_0)), hh⟩
  | false =>
    have hh := en_f z7 hh
    have hh : pm_run PT n fr lo 241 (56, [some (.ref 162), some (.int (nI m1)), some (.int (nI i)), some (.int ((Ar h 171) 94))], [], fset (v219t q cc gc h) 162 41 (.int ((((Ar (v219t q cc gc h) 171) 94) &&& (((Ar h 171) 94) ^^^ (Int32.ofInt (-1)))) &&& (v174 q cc gc (Ar (v219t q cc gc h) 171) m1))), 198, sl) = some R := hh
    obtain ⟨n, hh⟩ := rn_i rfl rfl rfl rfl hh
    have hh : pm_run PT n fr lo 241 (57, [some (.ref 162), some (.int (nI m1)), some (.int (nI i)), some (.int ((Ar h 171) 94))], [.int (nI i)], fset (v219t q cc gc h) 162 41 (.int ((((Ar (v219t q cc gc h) 171) 94) &&& (((Ar h 171) 94) ^^^ (Int32.ofInt (-1)))) &&& (v174 q cc gc (Ar (v219t q cc gc h) 171) m1))), 198, sl) = some R := hh
    have er8 : R = (some (.int (nI i)), fset (v219t q cc gc h) 162 41 (.int ((((Ar (v219t q cc gc h) 171) 94) &&& (((Ar h 171) 94) ^^^ (Int32.ofInt (-1)))) &&& (v174 q cc gc (Ar (v219t q cc gc h) 171) m1))), 198, sl) := (rn_ret rfl (Or.inl rfl) hh).2
    have ed : v241_2b q cc gc h m1 i = .inr (nI i, fset (v219t q cc gc h) 162 41 (.int ((((Ar (v219t q cc gc h) 171) 94) &&& (((Ar h 171) 94) ^^^ (Int32.ofInt (-1)))) &&& (v174 q cc gc (Ar (v219t q cc gc h) 171) m1)))) := (cf z7).trans rfl
    exact Or.inr ⟨_, ed, (hc_f rfl rfl (by decide) rfl hc3), (fr_f rfl rfl (fr_g rfl rfl hf4 fr_0)), er8⟩
theorem v241_2_ok {fr lo sl cc gc : Nat} {q : QT} {R : pm_Rs} {m1 : Nat} : ∀ {j i : Nat} {o3 : Option Value} {h : pm_H} {n : Nat}, 100 - i = j → i + j < 1000000 → HC q cc gc h → m1 < 10000 → pm_run PT n fr lo 241 (2, [some (.ref 162), some (.int (nI m1)), some (.int (nI i)), o3], [], h, 198, sl) = some R → (∃ m, ∃ a : pm_H, ∃ wc w3, v241_2 q cc gc m1 j i h = .inl a ∧ HC q cc gc (a) ∧ frm [162, 171] [(162, 41)] h (a) ∧ pm_run PT m fr lo 241 (64, [some (.ref 162), some (.int (nI m1)), wc, w3], [], a, 198, sl) = some R) ∨ (∃ r : Int32 × pm_H, v241_2 q cc gc m1 j i h = .inr r ∧ HC q cc gc r.2 ∧ frm [162, 171] [(162, 41)] h r.2 ∧ R = (some (.int r.1), r.2, 198, sl)) := by
  intro j
  induction j with
  | zero =>
    intro i o3 h n e eI hw h_m1 hh
    obtain ⟨n, hh⟩ := v241_2_e hw h_m1 (by omega) (by omega) hh
    exact Or.inl ⟨n, _, _, o3, rfl, hw, fr_0, hh⟩
  | succ j ih =>
    intro i o3 h n e eI hw h_m1 hh
    rcases v241_2_s hw h_m1 (by omega) (by omega) hh with ⟨n, a, w3, e1, hc, hf, hh⟩ | ⟨r, e1, hc, hf, er⟩
    · rcases ih (by omega) (by omega) hc h_m1 hh with ⟨n, b, wc, v3, e2, hc2, hf2, hh⟩ | ⟨r, e2, hc2, hf2, er⟩
      · exact Or.inl ⟨n, b, wc, v3, (lpE_l e1).trans e2, hc2, fr_t hf2 hf, hh⟩
      · exact Or.inr ⟨r, (lpE_l e1).trans e2, hc2, fr_t hf2 hf, er⟩
    · exact Or.inr ⟨r, lpE_r e1, hc, hf, er⟩
def v241 (q : QT) (cc gc : Nat) (h : pm_H) (c : Nat) : Int32 × pm_H := Sum.elim (fun a3 => ((Int32.ofInt (-1)), a3)) (fun r4 => (r4.1, r4.2)) (v241_2 q cc gc c (100 - 1) 1 h)
theorem v241_ok {n fr lo sl cc gc : Nat} {q : QT} {h : pm_H} {R : pm_Rs} {c : Nat} (hw : HC q cc gc h) (h_c : c < 10000) (hh : pm_run PT n fr lo 241 (0, pm_l0 [.ref 162, .int (nI c)] 4, [], h, 198, sl) = some R) : R = (some (.int ((v241 q cc gc h c).1)), (v241 q cc gc h c).2, 198, sl) ∧ HC q cc gc ((v241 q cc gc h c).2) ∧ frm [162, 171] [(162, 41)] h ((v241 q cc gc h c).2) := by
  have hcc := hw.cb
  have hgc := hw.gb
  have hzr := hw.zr
  obtain ⟨n, hh⟩ := rn_i rfl rfl rfl rfl hh
  obtain ⟨n, hh⟩ := rn_i rfl rfl rfl rfl hh
  have hh : pm_run PT n fr lo 241 (2, [some (.ref 162), some (.int (nI c)), some (.int (nI 1)), none], [], h, 198, sl) = some R := hh
  rcases v241_2_ok (m1 := c)  (i := 1) (o3 := none) (j := (100 - 1)) (by omega) (by omega) hw (by omega) hh with ⟨n, a3, u2, u1, hs5, hc_a3, hf_a3, hh⟩ | ⟨r4, hs5, hc_r4, hf_r4, er_r4⟩
  ·
    have hh : pm_run PT n fr lo 241 (64, [some (.ref 162), some (.int (nI c)), u2, u1], [], a3, 198, sl) = some R := hh
    obtain ⟨n, hh⟩ := rn_i rfl rfl rfl rfl hh
    have hh : pm_run PT n fr lo 241 (65, [some (.ref 162), some (.int (nI c)), u2, u1], [.int (Int32.ofInt (-1))], a3, 198, sl) = some R := hh
    have er6 : R = (some (.int (Int32.ofInt (-1))), a3, 198, sl) := (rn_ret rfl (Or.inl rfl) hh).2
    have ed : v241 q cc gc h c = ((Int32.ofInt (-1)), a3) := (se_l hs5).trans rfl
    refine ⟨?_, ?_, ?_⟩ <;> rw [ed]
    · exact er6
    · exact hc_a3
    · exact (fr_g rfl rfl hf_a3 fr_0)
  ·
    have ed : v241 q cc gc h c = (r4.1, r4.2) := (se_r hs5).trans rfl
    refine ⟨?_, ?_, ?_⟩ <;> rw [ed]
    · exact er_r4
    · exact hc_r4
    · exact (fr_g rfl rfl hf_r4 fr_0)
end EE4
end MG95zzxi2x2
