/-! runs told exactly, written by ext.py -/
section EK
def w132_13b (q : QT) (cc gc : Nat) (h : pm_H) (m1 : Nat) (i : Nat) : pm_H := aset h 15 36 (upd (upd (Ar h 15) (m1 * 6 + i) (nI 10)) (i * 6 + m1) (nI 10))
def w132_13 (q : QT) (cc gc : Nat) (m1 : Nat) (j i : Nat) (a : pm_H) : pm_H := lp (fun i a => w132_13b q cc gc a m1 i) j i a
theorem w132_13_e {n fr lo sl cc gc : Nat} {q : QT} {h : pm_H} {R : pm_Rs} {m1 : Nat} {i : Nat} (hw : WT h) (h_m1 : m1 < 10000) (hi : m1 ≤ i) (hI : i < 1000000) (hh : pm_run PT n fr lo 132 (13, [some (.ref 0), some (.int (nI m1)), some (.int (nI i))], [], h, 198, sl) = some R) : ∃ m, pm_run PT m fr lo 132 (54, [some (.ref 0), some (.int (nI m1)), some (.int (nI i))], [], h, 198, sl) = some R := by
  obtain ⟨n, hh⟩ := rn_i rfl rfl rfl rfl hh
  obtain ⟨n, hh⟩ := rn_i rfl rfl rfl rfl hh
  have hh : pm_run PT n fr lo 132 (15, [some (.ref 0), some (.int (nI m1)), some (.int (nI i))], [.int (nI m1), .int (nI i)], h, 198, sl) = some R := hh
  obtain ⟨n, hh⟩ := en_cn (cc := .ge) (off := 39) (t := 54) (b := decide (m1 ≤ i)) (hI_ge (by omega) (by omega)) rfl rfl hh
  have hh := en_t (show decide (m1 ≤ i) = true from decide_eq_true (by omega)) hh
  have hh : pm_run PT n fr lo 132 (54, [some (.ref 0), some (.int (nI m1)), some (.int (nI i))], [], h, 198, sl) = some R := hh
  exact ⟨n, hh⟩
theorem w132_13_s {n fr lo sl cc gc : Nat} {q : QT} {h : pm_H} {R : pm_Rs} {m1 : Nat} {i : Nat} (hw : WT h) (h_m1 : m1 < 10000) (hi : i < m1) (hI : i < 1000000) (hh : pm_run PT n fr lo 132 (13, [some (.ref 0), some (.int (nI m1)), some (.int (nI i))], [], h, 198, sl) = some R) : ∃ m, WT ((w132_13b q cc gc h m1 i)) ∧ frm [15] [] h ((w132_13b q cc gc h m1 i)) ∧ pm_run PT m fr lo 132 (13, [some (.ref 0), some (.int (nI m1)), some (.int (nI (i + 1)))], [], (w132_13b q cc gc h m1 i), 198, sl) = some R := by
  obtain ⟨n, hh⟩ := rn_i rfl rfl rfl rfl hh
  obtain ⟨n, hh⟩ := rn_i rfl rfl rfl rfl hh
  have hh : pm_run PT n fr lo 132 (15, [some (.ref 0), some (.int (nI m1)), some (.int (nI i))], [.int (nI m1), .int (nI i)], h, 198, sl) = some R := hh
  obtain ⟨n, hh⟩ := en_cn (cc := .ge) (off := 39) (t := 54) (b := decide (m1 ≤ i)) (hI_ge (by omega) (by omega)) rfl rfl hh
  have hh := en_f (show decide (m1 ≤ i) = false from decide_eq_false (by omega)) hh
  have hh : pm_run PT n fr lo 132 (18, [some (.ref 0), some (.int (nI m1)), some (.int (nI i))], [], h, 198, sl) = some R := hh
  obtain ⟨n, hh⟩ := rn_i rfl rfl rfl rfl hh
  have hh : pm_run PT n fr lo 132 (19, [some (.ref 0), some (.int (nI m1)), some (.int (nI i))], [.ref 0], h, 198, sl) = some R := hh
  obtain ⟨n, hh⟩ := rn_gr hw rfl rfl (by decide) rfl (by decide) (show _ = some (2, ((13 : Nat) : Int), 1) from rfl) rfl hh
  have hh : pm_run PT n fr lo 132 (22, [some (.ref 0), some (.int (nI m1)), some (.int (nI i))], [.ref 13], h, 198, sl) = some R := hh
  obtain ⟨n, hh⟩ := rn_gr hw rfl rfl (by decide) rfl (by decide) (show _ = some (2, ((15 : Nat) : Int), 1) from rfl) rfl hh
  obtain ⟨n, hh⟩ := rn_i rfl rfl rfl rfl hh
  obtain ⟨n, hh⟩ := rn_i rfl rfl rfl rfl hh
  have hh : pm_run PT n fr lo 132 (27, [some (.ref 0), some (.int (nI m1)), some (.int (nI i))], [.int (nI i), .int (nI m1), .ref 15], h, 198, sl) = some R := hh
  obtain ⟨n, fr1, lo1, r1, hh1, hh⟩ := rn_call (w := 2) (t := 160) rfl rfl hh
  have hh1 : pm_run PT n fr1 lo1 160 (0, [some (.int (nI m1)), some (.int (nI i))], [], h, 198, sl) = some r1 := hh1
  obtain ⟨n1, hh1⟩ := rn_i rfl rfl rfl rfl hh1
  obtain ⟨n1, hh1⟩ := rn_i rfl rfl rfl rfl hh1
  have hh1 : pm_run PT n1 fr1 lo1 160 (3, [some (.int (nI m1)), some (.int (nI i))], [.int (nI 6), .int (nI m1)], h, 198, sl) = some r1 := hh1
  obtain ⟨n1, hh1⟩ := en_mul rfl hh1
  have hh1 : pm_run PT n1 fr1 lo1 160 (4, [some (.int (nI m1)), some (.int (nI i))], [.int (nI (m1 * 6))], h, 198, sl) = some r1 := hh1
  obtain ⟨n1, hh1⟩ := rn_i rfl rfl rfl rfl hh1
  have hh1 : pm_run PT n1 fr1 lo1 160 (5, [some (.int (nI m1)), some (.int (nI i))], [.int (nI i), .int (nI (m1 * 6))], h, 198, sl) = some r1 := hh1
  obtain ⟨n1, hh1⟩ := en_add rfl hh1
  have hh1 : pm_run PT n1 fr1 lo1 160 (6, [some (.int (nI m1)), some (.int (nI i))], [.int (nI (m1 * 6 + i))], h, 198, sl) = some r1 := hh1
  have hh1 : pm_run PT n1 fr1 lo1 160 (6, [some (.int (nI m1)), some (.int (nI i))], [.int (nI (m1 * 6 + i))], h, 198, sl) = some r1 := hh1
  have er2 : r1 = (some (.int (nI (m1 * 6 + i))), h, 198, sl) := (rn_ret rfl (Or.inl rfl) hh1).2
  subst er2
  obtain ⟨n, hh⟩ := rn_i rfl rfl rfl rfl hh
  have hh : pm_run PT n fr lo 132 (32, [some (.ref 0), some (.int (nI m1)), some (.int (nI i))], [.int (nI 10), .int (nI (m1 * 6 + i)), .ref 15], h, 198, sl) = some R := hh
  obtain ⟨n, hx3, hh⟩ := en_st (t := m1 * 6 + i) (f := Ar h 15) (nI_clamp (by omega)) hw rfl (by decide) rfl (by decide) rfl hh
  obtain ⟨n, hh⟩ := rn_i rfl rfl rfl rfl hh
  have hh : pm_run PT n fr lo 132 (34, [some (.ref 0), some (.int (nI m1)), some (.int (nI i))], [.ref 0], aset h 15 36 (upd (Ar h 15) (m1 * 6 + i) (nI 10)), 198, sl) = some R := hh
  obtain ⟨n, hh⟩ := rn_gr (wt_as rfl hw) rfl rfl (by decide) rfl (by decide) (show _ = some (2, ((13 : Nat) : Int), 1) from rfl) rfl hh
  have hh : pm_run PT n fr lo 132 (37, [some (.ref 0), some (.int (nI m1)), some (.int (nI i))], [.ref 13], aset h 15 36 (upd (Ar h 15) (m1 * 6 + i) (nI 10)), 198, sl) = some R := hh
  obtain ⟨n, hh⟩ := rn_gr (wt_as rfl hw) rfl rfl (by decide) rfl (by decide) (show _ = some (2, ((15 : Nat) : Int), 1) from rfl) rfl hh
  obtain ⟨n, hh⟩ := rn_i rfl rfl rfl rfl hh
  obtain ⟨n, hh⟩ := rn_i rfl rfl rfl rfl hh
  have hh : pm_run PT n fr lo 132 (42, [some (.ref 0), some (.int (nI m1)), some (.int (nI i))], [.int (nI m1), .int (nI i), .ref 15], aset h 15 36 (upd (Ar h 15) (m1 * 6 + i) (nI 10)), 198, sl) = some R := hh
  obtain ⟨n, fr1, lo1, r1, hh1, hh⟩ := rn_call (w := 2) (t := 160) rfl rfl hh
  have hh1 : pm_run PT n fr1 lo1 160 (0, [some (.int (nI i)), some (.int (nI m1))], [], aset h 15 36 (upd (Ar h 15) (m1 * 6 + i) (nI 10)), 198, sl) = some r1 := hh1
  obtain ⟨n1, hh1⟩ := rn_i rfl rfl rfl rfl hh1
  obtain ⟨n1, hh1⟩ := rn_i rfl rfl rfl rfl hh1
  have hh1 : pm_run PT n1 fr1 lo1 160 (3, [some (.int (nI i)), some (.int (nI m1))], [.int (nI 6), .int (nI i)], aset h 15 36 (upd (Ar h 15) (m1 * 6 + i) (nI 10)), 198, sl) = some r1 := hh1
  obtain ⟨n1, hh1⟩ := en_mul rfl hh1
  have hh1 : pm_run PT n1 fr1 lo1 160 (4, [some (.int (nI i)), some (.int (nI m1))], [.int (nI (i * 6))], aset h 15 36 (upd (Ar h 15) (m1 * 6 + i) (nI 10)), 198, sl) = some r1 := hh1
  obtain ⟨n1, hh1⟩ := rn_i rfl rfl rfl rfl hh1
  have hh1 : pm_run PT n1 fr1 lo1 160 (5, [some (.int (nI i)), some (.int (nI m1))], [.int (nI m1), .int (nI (i * 6))], aset h 15 36 (upd (Ar h 15) (m1 * 6 + i) (nI 10)), 198, sl) = some r1 := hh1
  obtain ⟨n1, hh1⟩ := en_add rfl hh1
  have hh1 : pm_run PT n1 fr1 lo1 160 (6, [some (.int (nI i)), some (.int (nI m1))], [.int (nI (i * 6 + m1))], aset h 15 36 (upd (Ar h 15) (m1 * 6 + i) (nI 10)), 198, sl) = some r1 := hh1
  have hh1 : pm_run PT n1 fr1 lo1 160 (6, [some (.int (nI i)), some (.int (nI m1))], [.int (nI (i * 6 + m1))], aset h 15 36 (upd (Ar h 15) (m1 * 6 + i) (nI 10)), 198, sl) = some r1 := hh1
  have er4 : r1 = (some (.int (nI (i * 6 + m1))), aset h 15 36 (upd (Ar h 15) (m1 * 6 + i) (nI 10)), 198, sl) := (rn_ret rfl (Or.inl rfl) hh1).2
  subst er4
  obtain ⟨n, hh⟩ := rn_i rfl rfl rfl rfl hh
  have hh : pm_run PT n fr lo 132 (47, [some (.ref 0), some (.int (nI m1)), some (.int (nI i))], [.int (nI 10), .int (nI (i * 6 + m1)), .ref 15], aset h 15 36 (upd (Ar h 15) (m1 * 6 + i) (nI 10)), 198, sl) = some R := hh
  obtain ⟨n, hx5, hh⟩ := en_st (t := i * 6 + m1) (f := upd (Ar h 15) (m1 * 6 + i) (nI 10)) (nI_clamp (by omega)) (wt_as rfl hw) rfl (by decide) rfl (by decide) Ar_s hh
  have hh : pm_run PT n fr lo 132 (48, [some (.ref 0), some (.int (nI m1)), some (.int (nI i))], [], aset (aset h 15 36 (upd (Ar h 15) (m1 * 6 + i) (nI 10))) 15 36 (upd (upd (Ar h 15) (m1 * 6 + i) (nI 10)) (i * 6 + m1) (nI 10)), 198, sl) = some R := hh
  rw [aset_aset] at hh
  have hh : pm_run PT n fr lo 132 (48, [some (.ref 0), some (.int (nI m1)), some (.int (nI i))], [], aset h 15 36 (upd (upd (Ar h 15) (m1 * 6 + i) (nI 10)) (i * 6 + m1) (nI 10)), 198, sl) = some R := hh
  obtain ⟨n, hh⟩ := en_inc (x := i) (c := 1) (j := 2) rfl rfl (by decide) hh
  have hh : pm_run PT n fr lo 132 (51, [some (.ref 0), some (.int (nI m1)), some (.int (nI (i + 1)))], [], aset h 15 36 (upd (upd (Ar h 15) (m1 * 6 + i) (nI 10)) (i * 6 + m1) (nI 10)), 198, sl) = some R := hh
  obtain ⟨n, hh⟩ := rn_i rfl rfl rfl rfl hh
  have ed : w132_13b q cc gc h m1 i = aset h 15 36 (upd (upd (Ar h 15) (m1 * 6 + i) (nI 10)) (i * 6 + m1) (nI 10)) := rfl
  rw [ed]
  exact ⟨n, (wt_as rfl hw), (fr_a rfl rfl fr_0), hh⟩
theorem w132_13_ok {fr lo sl cc gc : Nat} {q : QT} {R : pm_Rs} {m1 : Nat} : ∀ {j i : Nat} {h : pm_H} {n : Nat}, m1 - i = j → i + j < 1000000 → WT h → m1 < 10000 → pm_run PT n fr lo 132 (13, [some (.ref 0), some (.int (nI m1)), some (.int (nI i))], [], h, 198, sl) = some R → ∃ m wc, WT ((w132_13 q cc gc m1 j i h)) ∧ frm [15] [] h ((w132_13 q cc gc m1 j i h)) ∧ pm_run PT m fr lo 132 (54, [some (.ref 0), some (.int (nI m1)), wc], [], (w132_13 q cc gc m1 j i h), 198, sl) = some R := by
  intro j
  induction j with
  | zero =>
    intro i h n e eI hw h_m1 hh
    obtain ⟨n, hh⟩ := w132_13_e (q := q) (cc := cc) (gc := gc) hw h_m1 (by omega) (by omega) hh
    exact ⟨n, _, hw, fr_0, hh⟩
  | succ j ih =>
    intro i h n e eI hw h_m1 hh
    obtain ⟨n, hc, hf, hh⟩ := w132_13_s (q := q) (cc := cc) (gc := gc) hw h_m1 (by omega) (by omega) hh
    obtain ⟨n, wc, hc2, hf2, hh⟩ := ih (by omega) (by omega) hc h_m1 hh
    exact ⟨n, wc, hc2, fr_t hf2 hf, hh⟩
theorem w132_13_fb {cc gc : Nat} {q : QT} {h : pm_H} {m1 : Nat} {i : Nat} (hw : WT h) : WT ((w132_13b q cc gc h m1 i)) ∧ frm [15] [] h ((w132_13b q cc gc h m1 i)) := by
  unfold w132_13b
  show WT (aset h 15 36 (upd (upd (Ar h 15) (m1 * 6 + i) (nI 10)) (i * 6 + m1) (nI 10))) ∧ frm [15] [] h (aset h 15 36 (upd (upd (Ar h 15) (m1 * 6 + i) (nI 10)) (i * 6 + m1) (nI 10)))
  exact ⟨(wt_as rfl hw), (fr_a rfl rfl fr_0)⟩
theorem w132_13_fr {cc gc : Nat} {q : QT} {m1 : Nat} : ∀ {j i : Nat} {h : pm_H}, WT h → WT ((w132_13 q cc gc m1 j i h)) ∧ frm [15] [] h ((w132_13 q cc gc m1 j i h)) := by
  intro j
  induction j with
  | zero =>
    intro i h hw
    exact ⟨hw, fr_0⟩
  | succ j ih =>
    intro i h hw
    obtain ⟨a1, a2⟩ := w132_13_fb (i := i) (m1 := m1) hw
    obtain ⟨b1, b2⟩ := ih (i := i + 1) a1
    exact ⟨b1, fr_t b2 a2⟩
def w132 (q : QT) (cc gc : Nat) (h : pm_H) (c : Nat) : pm_H := (w132_13 q cc gc c c 0 (aset h 14 6 (upd (Ar h 14) c (nI 50))))
theorem w132_ok {n fr lo sl cc gc : Nat} {q : QT} {h : pm_H} {R : pm_Rs} {c : Nat} (hw : WT h) (h_c : c < 10000) (hh : pm_run PT n fr lo 132 (0, pm_l0 [.ref 0, .int (nI c)] 3, [], h, 198, sl) = some R) : R = (none, w132 q cc gc h c, 198, sl) ∧ WT (w132 q cc gc h c) ∧ frm [14, 15] [] h (w132 q cc gc h c) := by
  obtain ⟨n, hh⟩ := rn_i rfl rfl rfl rfl hh
  have hh : pm_run PT n fr lo 132 (1, [some (.ref 0), some (.int (nI c)), none], [.ref 0], h, 198, sl) = some R := hh
  obtain ⟨n, hh⟩ := rn_gr hw rfl rfl (by decide) rfl (by decide) (show _ = some (2, ((13 : Nat) : Int), 1) from rfl) rfl hh
  have hh : pm_run PT n fr lo 132 (4, [some (.ref 0), some (.int (nI c)), none], [.ref 13], h, 198, sl) = some R := hh
  obtain ⟨n, hh⟩ := rn_gr hw rfl rfl (by decide) rfl (by decide) (show _ = some (2, ((14 : Nat) : Int), 1) from rfl) rfl hh
  obtain ⟨n, hh⟩ := rn_i rfl rfl rfl rfl hh
  obtain ⟨n, hh⟩ := rn_i rfl rfl rfl rfl hh
  have hh : pm_run PT n fr lo 132 (10, [some (.ref 0), some (.int (nI c)), none], [.int (nI 50), .int (nI c), .ref 14], h, 198, sl) = some R := hh
  obtain ⟨n, hx1, hh⟩ := en_st (t := c) (f := Ar h 14) (nI_clamp (by omega)) hw rfl (by decide) rfl (by decide) rfl hh
  obtain ⟨n, hh⟩ := rn_i rfl rfl rfl rfl hh
  obtain ⟨n, hh⟩ := rn_i rfl rfl rfl rfl hh
  have hh : pm_run PT n fr lo 132 (13, [some (.ref 0), some (.int (nI c)), some (.int (nI 0))], [], aset h 14 6 (upd (Ar h 14) c (nI 50)), 198, sl) = some R := hh
  obtain ⟨n, u2, hc3, hf4, hh⟩ := w132_13_ok (q := q) (cc := cc) (gc := gc) (m1 := c)  (i := 0) (j := c) (by omega) (by omega) (wt_as rfl hw) (by omega) hh
  have hh : pm_run PT n fr lo 132 (54, [some (.ref 0), some (.int (nI c)), u2], [], (w132_13 q cc gc c c 0 (aset h 14 6 (upd (Ar h 14) c (nI 50)))), 198, sl) = some R := hh
  have er5 : R = (none, (w132_13 q cc gc c c 0 (aset h 14 6 (upd (Ar h 14) c (nI 50)))), 198, sl) := rn_vret rfl rfl hh
  have ed : w132 q cc gc h c = (w132_13 q cc gc c c 0 (aset h 14 6 (upd (Ar h 14) c (nI 50)))) := rfl
  refine ⟨?_, ?_, ?_⟩ <;> rw [ed]
  · exact er5
  · exact hc3
  · exact (fr_g rfl rfl hf4 (fr_a rfl rfl fr_0))
theorem w132_fr {cc gc : Nat} {q : QT} {h : pm_H} {c : Nat} (hw : WT h) : WT (w132 q cc gc h c) ∧ frm [14, 15] [] h (w132 q cc gc h c) := by
  unfold w132
  show WT ((w132_13 q cc gc c c 0 (aset h 14 6 (upd (Ar h 14) c (nI 50))))) ∧ frm [14, 15] [] h ((w132_13 q cc gc c c 0 (aset h 14 6 (upd (Ar h 14) c (nI 50)))))
  exact ⟨(w132_13_fr (m1 := c) (j := c) (i := 0) (wt_as rfl hw)).1, (fr_g rfl rfl (w132_13_fr (m1 := c) (j := c) (i := 0) (wt_as rfl hw)).2 (fr_a rfl rfl fr_0))⟩
def w88_19b (q : QT) (cc gc : Nat) (h : pm_H) (z5_0 : Nat) (m1 : Nat) (i : Nat) : pm_H := fset (w132 q cc gc h (z5_0 + i)) 5 0 (.int (nI (z5_0 + i + 1)))
def w88_19 (q : QT) (cc gc : Nat) (z5_0 : Nat) (m1 : Nat) (j i : Nat) (a : pm_H) : pm_H := lp (fun i a => w88_19b q cc gc a z5_0 m1 i) j i a
theorem w88_19_e {n fr lo sl cc gc : Nat} {q : QT} {h : pm_H} {R : pm_Rs} {z5_0 : Nat} {m1 : Nat} {i : Nat} (hw : WT h) (h_m1 : m1 < 10000) (hz : z5_0 + m1 ≤ 6) (e5 : Fi h 5 0 = nI (z5_0 + i)) (hi : m1 ≤ i) (hI : i < 1000000) (hh : pm_run PT n fr lo 88 (19, [some (.ref 0), some (.int (nI m1)), some (.int (nI i))], [], h, 198, sl) = some R) : ∃ m, pm_run PT m fr lo 88 (54, [some (.ref 0), some (.int (nI m1)), some (.int (nI i))], [], h, 198, sl) = some R := by
  obtain ⟨n, hh⟩ := rn_i rfl rfl rfl rfl hh
  obtain ⟨n, hh⟩ := rn_i rfl rfl rfl rfl hh
  have hh : pm_run PT n fr lo 88 (21, [some (.ref 0), some (.int (nI m1)), some (.int (nI i))], [.int (nI m1), .int (nI i)], h, 198, sl) = some R := hh
  obtain ⟨n, hh⟩ := en_cn (cc := .ge) (off := 33) (t := 54) (b := decide (m1 ≤ i)) (hI_ge (by omega) (by omega)) rfl rfl hh
  have hh := en_t (show decide (m1 ≤ i) = true from decide_eq_true (by omega)) hh
  have hh : pm_run PT n fr lo 88 (54, [some (.ref 0), some (.int (nI m1)), some (.int (nI i))], [], h, 198, sl) = some R := hh
  exact ⟨n, hh⟩
theorem w88_19_s {n fr lo sl cc gc : Nat} {q : QT} {h : pm_H} {R : pm_Rs} {z5_0 : Nat} {m1 : Nat} {i : Nat} (hw : WT h) (h_m1 : m1 < 10000) (hz : z5_0 + m1 ≤ 6) (e5 : Fi h 5 0 = nI (z5_0 + i)) (hi : i < m1) (hI : i < 1000000) (hh : pm_run PT n fr lo 88 (19, [some (.ref 0), some (.int (nI m1)), some (.int (nI i))], [], h, 198, sl) = some R) : ∃ m, WT ((w88_19b q cc gc h z5_0 m1 i)) ∧ frm [5, 14, 15] [(5, 0)] h ((w88_19b q cc gc h z5_0 m1 i)) ∧ Fi ((w88_19b q cc gc h z5_0 m1 i)) 5 0 = nI (z5_0 + (i + 1)) ∧ pm_run PT m fr lo 88 (19, [some (.ref 0), some (.int (nI m1)), some (.int (nI (i + 1)))], [], (w88_19b q cc gc h z5_0 m1 i), 198, sl) = some R := by
  obtain ⟨n, hh⟩ := rn_i rfl rfl rfl rfl hh
  obtain ⟨n, hh⟩ := rn_i rfl rfl rfl rfl hh
  have hh : pm_run PT n fr lo 88 (21, [some (.ref 0), some (.int (nI m1)), some (.int (nI i))], [.int (nI m1), .int (nI i)], h, 198, sl) = some R := hh
  obtain ⟨n, hh⟩ := en_cn (cc := .ge) (off := 33) (t := 54) (b := decide (m1 ≤ i)) (hI_ge (by omega) (by omega)) rfl rfl hh
  have hh := en_f (show decide (m1 ≤ i) = false from decide_eq_false (by omega)) hh
  have hh : pm_run PT n fr lo 88 (24, [some (.ref 0), some (.int (nI m1)), some (.int (nI i))], [], h, 198, sl) = some R := hh
  obtain ⟨n, hh⟩ := rn_i rfl rfl rfl rfl hh
  obtain ⟨n, hh⟩ := rn_i rfl rfl rfl rfl hh
  have hh : pm_run PT n fr lo 88 (26, [some (.ref 0), some (.int (nI m1)), some (.int (nI i))], [.ref 0, .ref 0], h, 198, sl) = some R := hh
  obtain ⟨n, hh⟩ := rn_gr hw rfl rfl (by decide) rfl (by decide) (show _ = some (2, ((5 : Nat) : Int), 1) from rfl) rfl hh
  have hh : pm_run PT n fr lo 88 (29, [some (.ref 0), some (.int (nI m1)), some (.int (nI i))], [.ref 5, .ref 0], h, 198, sl) = some R := hh
  obtain ⟨n, hh⟩ := rn_gi (x := nI (z5_0 + i)) hw rfl rfl (by decide) rfl (by decide) rfl e5 hh
  have hh : pm_run PT n fr lo 88 (32, [some (.ref 0), some (.int (nI m1)), some (.int (nI i))], [.int (nI (z5_0 + i)), .ref 0], h, 198, sl) = some R := hh
  obtain ⟨n, fr1, lo1, r1, hh1, hh⟩ := rn_call (w := 0) (t := 132) rfl rfl hh
  obtain ⟨er5, hc6, hf7⟩ := w132_ok (q := q) (cc := cc) (gc := gc) (c := (z5_0 + i)) hw (by omega) hh1
  subst er5
  obtain ⟨n, hh⟩ := rn_i rfl rfl rfl rfl hh
  have hh : pm_run PT n fr lo 88 (36, [some (.ref 0), some (.int (nI m1)), some (.int (nI i))], [.ref 0], w132 q cc gc h (z5_0 + i), 198, sl) = some R := hh
  obtain ⟨n, hh⟩ := rn_gr hc6 rfl rfl (by decide) rfl (by decide) (show _ = some (2, ((5 : Nat) : Int), 1) from rfl) rfl hh
  obtain ⟨n, hh⟩ := rn_i rfl rfl rfl rfl hh
  have hh : pm_run PT n fr lo 88 (40, [some (.ref 0), some (.int (nI m1)), some (.int (nI i))], [.ref 5, .ref 5], w132 q cc gc h (z5_0 + i), 198, sl) = some R := hh
  obtain ⟨n, hh⟩ := rn_gi (x := nI (z5_0 + i)) hc6 rfl rfl (by decide) rfl (by decide) rfl ((hf7.2 5 0 (by decide +kernel) rfl).trans e5) hh
  obtain ⟨n, hh⟩ := rn_i rfl rfl rfl rfl hh
  have hh : pm_run PT n fr lo 88 (44, [some (.ref 0), some (.int (nI m1)), some (.int (nI i))], [.int (nI 1), .int (nI (z5_0 + i)), .ref 5], w132 q cc gc h (z5_0 + i), 198, sl) = some R := hh
  obtain ⟨n, hh⟩ := en_add rfl hh
  have hh : pm_run PT n fr lo 88 (45, [some (.ref 0), some (.int (nI m1)), some (.int (nI i))], [.int (nI (z5_0 + i + 1)), .ref 5], w132 q cc gc h (z5_0 + i), 198, sl) = some R := hh
  have hh : pm_run PT n fr lo 88 (45, [some (.ref 0), some (.int (nI m1)), some (.int (nI i))], [.int (nI (z5_0 + i + 1)), .ref 5], w132 q cc gc h (z5_0 + i), 198, sl) = some R := hh
  obtain ⟨n, hh⟩ := rn_pi hc6 rfl rfl (by decide) rfl (by decide) rfl hh
  have hh : pm_run PT n fr lo 88 (48, [some (.ref 0), some (.int (nI m1)), some (.int (nI i))], [], fset (w132 q cc gc h (z5_0 + i)) 5 0 (.int (nI (z5_0 + i + 1))), 198, sl) = some R := hh
  obtain ⟨n, hh⟩ := en_inc (x := i) (c := 1) (j := 2) rfl rfl (by decide) hh
  have hh : pm_run PT n fr lo 88 (51, [some (.ref 0), some (.int (nI m1)), some (.int (nI (i + 1)))], [], fset (w132 q cc gc h (z5_0 + i)) 5 0 (.int (nI (z5_0 + i + 1))), 198, sl) = some R := hh
  obtain ⟨n, hh⟩ := rn_i rfl rfl rfl rfl hh
  have ed : w88_19b q cc gc h z5_0 m1 i = fset (w132 q cc gc h (z5_0 + i)) 5 0 (.int (nI (z5_0 + i + 1))) := rfl
  rw [ed]
  exact ⟨n, (wt_fs rfl (by decide) rfl hc6), (fr_f rfl rfl (fr_g rfl rfl hf7 fr_0)), (show Fi (fset (w132 q cc gc h (z5_0 + i)) 5 0 (.int (nI (z5_0 + i + 1)))) 5 0 = nI (z5_0 + (i + 1)) from (Fi_s hc6 (by decide) rfl (by decide) rfl)), hh⟩
theorem w88_19_ok {fr lo sl cc gc : Nat} {q : QT} {R : pm_Rs} {z5_0 : Nat} {m1 : Nat} : ∀ {j i : Nat} {h : pm_H} {n : Nat}, m1 - i = j → i + j < 1000000 → WT h → m1 < 10000 → z5_0 + m1 ≤ 6 → i ≤ m1 → Fi h 5 0 = nI (z5_0 + i) → pm_run PT n fr lo 88 (19, [some (.ref 0), some (.int (nI m1)), some (.int (nI i))], [], h, 198, sl) = some R → ∃ m wc, WT ((w88_19 q cc gc z5_0 m1 j i h)) ∧ frm [5, 14, 15] [(5, 0)] h ((w88_19 q cc gc z5_0 m1 j i h)) ∧ Fi ((w88_19 q cc gc z5_0 m1 j i h)) 5 0 = nI (z5_0 + m1) ∧ pm_run PT m fr lo 88 (54, [some (.ref 0), some (.int (nI m1)), wc], [], (w88_19 q cc gc z5_0 m1 j i h), 198, sl) = some R := by
  intro j
  induction j with
  | zero =>
    intro i h n e eI hw h_m1 hz hiN e5 hh
    obtain ⟨n, hh⟩ := w88_19_e (q := q) (cc := cc) (gc := gc) hw h_m1 hz e5 (by omega) (by omega) hh
    exact ⟨n, _, hw, fr_0, (e5.trans (congrArg (fun i => nI (z5_0 + i)) (show i = m1 by omega))), hh⟩
  | succ j ih =>
    intro i h n e eI hw h_m1 hz hiN e5 hh
    obtain ⟨n, hc, hf, e5', hh⟩ := w88_19_s (q := q) (cc := cc) (gc := gc) hw h_m1 hz e5 (by omega) (by omega) hh
    obtain ⟨n, wc, hc2, hf2, e5'', hh⟩ := ih (by omega) (by omega) hc h_m1 hz (by omega) e5' hh
    exact ⟨n, wc, hc2, fr_t hf2 hf, e5'', hh⟩
theorem w88_19_fb {cc gc : Nat} {q : QT} {h : pm_H} {m1 : Nat} {z5_0 : Nat} {i : Nat} (hw : WT h) (hz : z5_0 + m1 ≤ 6) : WT ((w88_19b q cc gc h z5_0 m1 i)) ∧ frm [5, 14, 15] [(5, 0)] h ((w88_19b q cc gc h z5_0 m1 i)) := by
  unfold w88_19b
  show WT (fset (w132 q cc gc h (z5_0 + i)) 5 0 (.int (nI (z5_0 + i + 1)))) ∧ frm [5, 14, 15] [(5, 0)] h (fset (w132 q cc gc h (z5_0 + i)) 5 0 (.int (nI (z5_0 + i + 1))))
  exact ⟨(wt_fs rfl (by decide) rfl (w132_fr (c := (z5_0 + i)) hw).1), (fr_f rfl rfl (fr_g rfl rfl (w132_fr (c := (z5_0 + i)) hw).2 fr_0))⟩
theorem w88_19_fr {cc gc : Nat} {q : QT} {m1 : Nat} {z5_0 : Nat} (hz : z5_0 + m1 ≤ 6) : ∀ {j i : Nat} {h : pm_H}, WT h → WT ((w88_19 q cc gc z5_0 m1 j i h)) ∧ frm [5, 14, 15] [(5, 0)] h ((w88_19 q cc gc z5_0 m1 j i h)) := by
  intro j
  induction j with
  | zero =>
    intro i h hw
    exact ⟨hw, fr_0⟩
  | succ j ih =>
    intro i h hw
    obtain ⟨a1, a2⟩ := w88_19_fb (i := i) (m1 := m1) (z5_0 := z5_0) hw hz
    obtain ⟨b1, b2⟩ := ih (i := i + 1) a1
    exact ⟨b1, fr_t b2 a2⟩
def w88 (q : QT) (cc gc : Nat) (h : pm_H) (N : Nat) (c : Nat) : Int32 × pm_H := cond (decide (N ≤ 0)) (nI N, fset h 1 1 (.int (nI 0))) (nI N, fset (fset (w88_19 q cc gc c N N 0 (fset h 1 1 (.int (nI 0)))) 25 2 (.int (nI 0))) 0 7 (.int (nI 0)))
theorem w88_ok {n fr lo sl cc gc : Nat} {q : QT} {h : pm_H} {R : pm_Rs} {N : Nat} {c : Nat} (hw : WT h) (hN : N ≤ 6) (hc : c + N ≤ 6) (e5 : Fi h 5 0 = nI c) (hh : pm_run PT n fr lo 88 (5, [some (.ref 0), some (.int (nI N)), none], [], h, 198, sl) = some R) : R = (some (.int ((w88 q cc gc h N c).1)), (w88 q cc gc h N c).2, 198, sl) ∧ WT ((w88 q cc gc h N c).2) ∧ frm [0, 1, 5, 14, 15, 25] [(0, 7), (1, 1), (5, 0), (25, 2)] h ((w88 q cc gc h N c).2) := by
  obtain ⟨n, hh⟩ := rn_i rfl rfl rfl rfl hh
  have hh : pm_run PT n fr lo 88 (6, [some (.ref 0), some (.int (nI N)), none], [.ref 0], h, 198, sl) = some R := hh
  obtain ⟨n, hh⟩ := rn_gr hw rfl rfl (by decide) rfl (by decide) (show _ = some (2, ((1 : Nat) : Int), 1) from rfl) rfl hh
  obtain ⟨n, hh⟩ := rn_i rfl rfl rfl rfl hh
  have hh : pm_run PT n fr lo 88 (10, [some (.ref 0), some (.int (nI N)), none], [.int (nI 0), .ref 1], h, 198, sl) = some R := hh
  obtain ⟨n, hh⟩ := rn_pi hw rfl rfl (by decide) rfl (by decide) rfl hh
  obtain ⟨n, hh⟩ := rn_i rfl rfl rfl rfl hh
  have hh : pm_run PT n fr lo 88 (14, [some (.ref 0), some (.int (nI N)), none], [.int (nI N)], fset h 1 1 (.int (nI 0)), 198, sl) = some R := hh
  obtain ⟨n, hh⟩ := en_zn (cc := .le) (off := 44) (t := 58) (b := decide (N ≤ 0)) (hI_le (b := 0) (by omega) (by omega)) rfl rfl hh
  cases z1 : decide (N ≤ 0) with
  | true =>
    have hh := en_t z1 hh
    have hh : pm_run PT n fr lo 88 (58, [some (.ref 0), some (.int (nI N)), none], [], fset h 1 1 (.int (nI 0)), 198, sl) = some R := hh
    have y2 := of_decide_eq_true z1
    obtain ⟨n, hh⟩ := rn_i rfl rfl rfl rfl hh
    have hh : pm_run PT n fr lo 88 (59, [some (.ref 0), some (.int (nI N)), none], [.int (nI N)], fset h 1 1 (.int (nI 0)), 198, sl) = some R := hh
    have er3 : R = (some (.int (nI N)), fset h 1 1 (.int (nI 0)), 198, sl) := (rn_ret rfl (Or.inl rfl) hh).2
    have ed : w88 q cc gc h N c = (nI N, fset h 1 1 (.int (nI 0))) := (ct z1).trans rfl
    refine ⟨?_, ?_, ?_⟩ <;> rw [ed]
    · exact er3
    · exact (wt_fs rfl (by decide) rfl hw)
    · exact (fr_f rfl rfl fr_0)
  | false =>
    have hh := en_f z1 hh
    have hh : pm_run PT n fr lo 88 (17, [some (.ref 0), some (.int (nI N)), none], [], fset h 1 1 (.int (nI 0)), 198, sl) = some R := hh
    have y4 := of_decide_eq_false z1
    obtain ⟨n, hh⟩ := rn_i rfl rfl rfl rfl hh
    obtain ⟨n, hh⟩ := rn_i rfl rfl rfl rfl hh
    have hh : pm_run PT n fr lo 88 (19, [some (.ref 0), some (.int (nI N)), some (.int (nI 0))], [], fset h 1 1 (.int (nI 0)), 198, sl) = some R := hh
    obtain ⟨n, u5, hc7, hf8, hn6, hh⟩ := w88_19_ok (q := q) (cc := cc) (gc := gc) (m1 := N)  (z5_0 := c) (i := 0) (j := N) (by omega) (by omega) (wt_fs rfl (by decide) rfl hw) (by omega) (by omega) (by omega) (show Fi (fset h 1 1 (.int (nI 0))) 5 0 = nI (c + 0) from ((Fi_n (Or.inl (by decide))).trans e5)) hh
    have hh : pm_run PT n fr lo 88 (54, [some (.ref 0), some (.int (nI N)), u5], [], (w88_19 q cc gc c N N 0 (fset h 1 1 (.int (nI 0)))), 198, sl) = some R := hh
    obtain ⟨n, hh⟩ := rn_i rfl rfl rfl rfl hh
    have hh : pm_run PT n fr lo 88 (55, [some (.ref 0), some (.int (nI N)), u5], [.ref 0], (w88_19 q cc gc c N N 0 (fset h 1 1 (.int (nI 0)))), 198, sl) = some R := hh
    obtain ⟨n, fr1, lo1, r1, hh1, hh⟩ := rn_call (w := 0) (t := 133) rfl rfl hh
    have hh1 : pm_run PT n fr1 lo1 133 (0, [some (.ref 0)], [], (w88_19 q cc gc c N N 0 (fset h 1 1 (.int (nI 0)))), 198, sl) = some r1 := hh1
    obtain ⟨n1, hh1⟩ := rn_i rfl rfl rfl rfl hh1
    have hh1 : pm_run PT n1 fr1 lo1 133 (1, [some (.ref 0)], [.ref 0], (w88_19 q cc gc c N N 0 (fset h 1 1 (.int (nI 0)))), 198, sl) = some r1 := hh1
    obtain ⟨n1, hh1⟩ := rn_gr hc7 rfl rfl (by decide) rfl (by decide) (show _ = some (2, ((25 : Nat) : Int), 1) from rfl) rfl hh1
    have hh1 : pm_run PT n1 fr1 lo1 133 (4, [some (.ref 0)], [.ref 25], (w88_19 q cc gc c N N 0 (fset h 1 1 (.int (nI 0)))), 198, sl) = some r1 := hh1
    obtain ⟨n1, fr2, lo2, r2, hh2, hh1⟩ := rn_call (w := 0) (t := 20) rfl rfl hh1
    have hh2 : pm_run PT n1 fr2 lo2 20 (0, [some (.ref 25)], [], (w88_19 q cc gc c N N 0 (fset h 1 1 (.int (nI 0)))), 198, sl) = some r2 := hh2
    obtain ⟨n2, hh2⟩ := rn_i rfl rfl rfl rfl hh2
    obtain ⟨n2, hh2⟩ := rn_i rfl rfl rfl rfl hh2
    have hh2 : pm_run PT n2 fr2 lo2 20 (2, [some (.ref 25)], [.int (nI 0), .ref 25], (w88_19 q cc gc c N N 0 (fset h 1 1 (.int (nI 0)))), 198, sl) = some r2 := hh2
    obtain ⟨n2, hh2⟩ := rn_pi hc7 rfl rfl (by decide) rfl (by decide) rfl hh2
    have er9 : r2 = (none, fset (w88_19 q cc gc c N N 0 (fset h 1 1 (.int (nI 0)))) 25 2 (.int (nI 0)), 198, sl) := rn_vret rfl rfl hh2
    subst er9
    obtain ⟨n1, hh1⟩ := rn_i rfl rfl rfl rfl hh1
    obtain ⟨n1, hh1⟩ := rn_i rfl rfl rfl rfl hh1
    have hh1 : pm_run PT n1 fr1 lo1 133 (9, [some (.ref 0)], [.int (nI 0), .ref 0], fset (w88_19 q cc gc c N N 0 (fset h 1 1 (.int (nI 0)))) 25 2 (.int (nI 0)), 198, sl) = some r1 := hh1
    obtain ⟨n1, hh1⟩ := rn_pi (wt_fs rfl (by decide) rfl hc7) rfl rfl (by decide) rfl (by decide) rfl hh1
    have er10 : r1 = (none, fset (fset (w88_19 q cc gc c N N 0 (fset h 1 1 (.int (nI 0)))) 25 2 (.int (nI 0))) 0 7 (.int (nI 0)), 198, sl) := rn_vret rfl rfl hh1
    subst er10
    obtain ⟨n, hh⟩ := rn_i rfl rfl rfl rfl hh
    have hh : pm_run PT n fr lo 88 (59, [some (.ref 0), some (.int (nI N)), u5], [.int (nI N)], fset (fset (w88_19 q cc gc c N N 0 (fset h 1 1 (.int (nI 0)))) 25 2 (.int (nI 0))) 0 7 (.int (nI 0)), 198, sl) = some R := hh
    have er11 : R = (some (.int (nI N)), fset (fset (w88_19 q cc gc c N N 0 (fset h 1 1 (.int (nI 0)))) 25 2 (.int (nI 0))) 0 7 (.int (nI 0)), 198, sl) := (rn_ret rfl (Or.inl rfl) hh).2
    have ed : w88 q cc gc h N c = (nI N, fset (fset (w88_19 q cc gc c N N 0 (fset h 1 1 (.int (nI 0)))) 25 2 (.int (nI 0))) 0 7 (.int (nI 0))) := (cf z1).trans rfl
    refine ⟨?_, ?_, ?_⟩ <;> rw [ed]
    · exact er11
    · exact (wt_fs rfl (by decide) rfl (wt_fs rfl (by decide) rfl hc7))
    · exact (fr_f rfl rfl (fr_f rfl rfl (fr_g rfl rfl hf8 (fr_f rfl rfl fr_0))))
def w89 (q : QT) (cc gc : Nat) (h : pm_H) (N : Nat) (c : Nat) : Int32 × pm_H := cond (decide (N ≤ 0)) (nI N, fset h 1 1 (.int (nI 0))) (nI N, fset (fset (fset (fset h 1 1 (.int (nI 0))) 5 1 (.int (nI (c + N)))) 25 2 (.int (nI 0))) 0 7 (.int (nI 0)))
theorem w89_ok {n fr lo sl cc gc : Nat} {q : QT} {h : pm_H} {R : pm_Rs} {N : Nat} {c : Nat} (hw : WT h) (hN : N ≤ 8) (hc : c + N ≤ 8) (e5 : Fi h 5 1 = nI c) (hh : pm_run PT n fr lo 89 (5, [some (.ref 0), some (.int (nI N))], [], h, 198, sl) = some R) : R = (some (.int ((w89 q cc gc h N c).1)), (w89 q cc gc h N c).2, 198, sl) ∧ WT ((w89 q cc gc h N c).2) ∧ frm [0, 1, 5, 25] [(0, 7), (1, 1), (5, 1), (25, 2)] h ((w89 q cc gc h N c).2) := by
  obtain ⟨n, hh⟩ := rn_i rfl rfl rfl rfl hh
  have hh : pm_run PT n fr lo 89 (6, [some (.ref 0), some (.int (nI N))], [.ref 0], h, 198, sl) = some R := hh
  obtain ⟨n, hh⟩ := rn_gr hw rfl rfl (by decide) rfl (by decide) (show _ = some (2, ((1 : Nat) : Int), 1) from rfl) rfl hh
  obtain ⟨n, hh⟩ := rn_i rfl rfl rfl rfl hh
  have hh : pm_run PT n fr lo 89 (10, [some (.ref 0), some (.int (nI N))], [.int (nI 0), .ref 1], h, 198, sl) = some R := hh
  obtain ⟨n, hh⟩ := rn_pi hw rfl rfl (by decide) rfl (by decide) rfl hh
  obtain ⟨n, hh⟩ := rn_i rfl rfl rfl rfl hh
  have hh : pm_run PT n fr lo 89 (14, [some (.ref 0), some (.int (nI N))], [.int (nI N)], fset h 1 1 (.int (nI 0)), 198, sl) = some R := hh
  obtain ⟨n, hh⟩ := en_zn (cc := .le) (off := 20) (t := 34) (b := decide (N ≤ 0)) (hI_le (b := 0) (by omega) (by omega)) rfl rfl hh
  cases z1 : decide (N ≤ 0) with
  | true =>
    have hh := en_t z1 hh
    have hh : pm_run PT n fr lo 89 (34, [some (.ref 0), some (.int (nI N))], [], fset h 1 1 (.int (nI 0)), 198, sl) = some R := hh
    have y2 := of_decide_eq_true z1
    obtain ⟨n, hh⟩ := rn_i rfl rfl rfl rfl hh
    have hh : pm_run PT n fr lo 89 (35, [some (.ref 0), some (.int (nI N))], [.int (nI N)], fset h 1 1 (.int (nI 0)), 198, sl) = some R := hh
    have er3 : R = (some (.int (nI N)), fset h 1 1 (.int (nI 0)), 198, sl) := (rn_ret rfl (Or.inl rfl) hh).2
    have ed : w89 q cc gc h N c = (nI N, fset h 1 1 (.int (nI 0))) := (ct z1).trans rfl
    refine ⟨?_, ?_, ?_⟩ <;> rw [ed]
    · exact er3
    · exact (wt_fs rfl (by decide) rfl hw)
    · exact (fr_f rfl rfl fr_0)
  | false =>
    have hh := en_f z1 hh
    have hh : pm_run PT n fr lo 89 (17, [some (.ref 0), some (.int (nI N))], [], fset h 1 1 (.int (nI 0)), 198, sl) = some R := hh
    have y4 := of_decide_eq_false z1
    obtain ⟨n, hh⟩ := rn_i rfl rfl rfl rfl hh
    have hh : pm_run PT n fr lo 89 (18, [some (.ref 0), some (.int (nI N))], [.ref 0], fset h 1 1 (.int (nI 0)), 198, sl) = some R := hh
    obtain ⟨n, hh⟩ := rn_gr (wt_fs rfl (by decide) rfl hw) rfl rfl (by decide) rfl (by decide) (show _ = some (2, ((5 : Nat) : Int), 1) from rfl) rfl hh
    obtain ⟨n, hh⟩ := rn_i rfl rfl rfl rfl hh
    have hh : pm_run PT n fr lo 89 (22, [some (.ref 0), some (.int (nI N))], [.ref 5, .ref 5], fset h 1 1 (.int (nI 0)), 198, sl) = some R := hh
    obtain ⟨n, hh⟩ := rn_gi (x := nI c) (wt_fs rfl (by decide) rfl hw) rfl rfl (by decide) rfl (by decide) rfl ((Fi_n (Or.inl (by decide))).trans e5) hh
    obtain ⟨n, hh⟩ := rn_i rfl rfl rfl rfl hh
    have hh : pm_run PT n fr lo 89 (26, [some (.ref 0), some (.int (nI N))], [.int (nI N), .int (nI c), .ref 5], fset h 1 1 (.int (nI 0)), 198, sl) = some R := hh
    obtain ⟨n, hh⟩ := en_add rfl hh
    have hh : pm_run PT n fr lo 89 (27, [some (.ref 0), some (.int (nI N))], [.int (nI (c + N)), .ref 5], fset h 1 1 (.int (nI 0)), 198, sl) = some R := hh
    have hh : pm_run PT n fr lo 89 (27, [some (.ref 0), some (.int (nI N))], [.int (nI (c + N)), .ref 5], fset h 1 1 (.int (nI 0)), 198, sl) = some R := hh
    obtain ⟨n, hh⟩ := rn_pi (wt_fs rfl (by decide) rfl hw) rfl rfl (by decide) rfl (by decide) rfl hh
    obtain ⟨n, hh⟩ := rn_i rfl rfl rfl rfl hh
    have hh : pm_run PT n fr lo 89 (31, [some (.ref 0), some (.int (nI N))], [.ref 0], fset (fset h 1 1 (.int (nI 0))) 5 1 (.int (nI (c + N))), 198, sl) = some R := hh
    obtain ⟨n, fr1, lo1, r1, hh1, hh⟩ := rn_call (w := 0) (t := 133) rfl rfl hh
    have hh1 : pm_run PT n fr1 lo1 133 (0, [some (.ref 0)], [], fset (fset h 1 1 (.int (nI 0))) 5 1 (.int (nI (c + N))), 198, sl) = some r1 := hh1
    obtain ⟨n1, hh1⟩ := rn_i rfl rfl rfl rfl hh1
    have hh1 : pm_run PT n1 fr1 lo1 133 (1, [some (.ref 0)], [.ref 0], fset (fset h 1 1 (.int (nI 0))) 5 1 (.int (nI (c + N))), 198, sl) = some r1 := hh1
    obtain ⟨n1, hh1⟩ := rn_gr (wt_fs rfl (by decide) rfl (wt_fs rfl (by decide) rfl hw)) rfl rfl (by decide) rfl (by decide) (show _ = some (2, ((25 : Nat) : Int), 1) from rfl) rfl hh1
    have hh1 : pm_run PT n1 fr1 lo1 133 (4, [some (.ref 0)], [.ref 25], fset (fset h 1 1 (.int (nI 0))) 5 1 (.int (nI (c + N))), 198, sl) = some r1 := hh1
    obtain ⟨n1, fr2, lo2, r2, hh2, hh1⟩ := rn_call (w := 0) (t := 20) rfl rfl hh1
    have hh2 : pm_run PT n1 fr2 lo2 20 (0, [some (.ref 25)], [], fset (fset h 1 1 (.int (nI 0))) 5 1 (.int (nI (c + N))), 198, sl) = some r2 := hh2
    obtain ⟨n2, hh2⟩ := rn_i rfl rfl rfl rfl hh2
    obtain ⟨n2, hh2⟩ := rn_i rfl rfl rfl rfl hh2
    have hh2 : pm_run PT n2 fr2 lo2 20 (2, [some (.ref 25)], [.int (nI 0), .ref 25], fset (fset h 1 1 (.int (nI 0))) 5 1 (.int (nI (c + N))), 198, sl) = some r2 := hh2
    obtain ⟨n2, hh2⟩ := rn_pi (wt_fs rfl (by decide) rfl (wt_fs rfl (by decide) rfl hw)) rfl rfl (by decide) rfl (by decide) rfl hh2
    have er5 : r2 = (none, fset (fset (fset h 1 1 (.int (nI 0))) 5 1 (.int (nI (c + N)))) 25 2 (.int (nI 0)), 198, sl) := rn_vret rfl rfl hh2
    subst er5
    obtain ⟨n1, hh1⟩ := rn_i rfl rfl rfl rfl hh1
    obtain ⟨n1, hh1⟩ := rn_i rfl rfl rfl rfl hh1
    have hh1 : pm_run PT n1 fr1 lo1 133 (9, [some (.ref 0)], [.int (nI 0), .ref 0], fset (fset (fset h 1 1 (.int (nI 0))) 5 1 (.int (nI (c + N)))) 25 2 (.int (nI 0)), 198, sl) = some r1 := hh1
    obtain ⟨n1, hh1⟩ := rn_pi (wt_fs rfl (by decide) rfl (wt_fs rfl (by decide) rfl (wt_fs rfl (by decide) rfl hw))) rfl rfl (by decide) rfl (by decide) rfl hh1
    have er6 : r1 = (none, fset (fset (fset (fset h 1 1 (.int (nI 0))) 5 1 (.int (nI (c + N)))) 25 2 (.int (nI 0))) 0 7 (.int (nI 0)), 198, sl) := rn_vret rfl rfl hh1
    subst er6
    obtain ⟨n, hh⟩ := rn_i rfl rfl rfl rfl hh
    have hh : pm_run PT n fr lo 89 (35, [some (.ref 0), some (.int (nI N))], [.int (nI N)], fset (fset (fset (fset h 1 1 (.int (nI 0))) 5 1 (.int (nI (c + N)))) 25 2 (.int (nI 0))) 0 7 (.int (nI 0)), 198, sl) = some R := hh
    have er7 : R = (some (.int (nI N)), fset (fset (fset (fset h 1 1 (.int (nI 0))) 5 1 (.int (nI (c + N)))) 25 2 (.int (nI 0))) 0 7 (.int (nI 0)), 198, sl) := (rn_ret rfl (Or.inl rfl) hh).2
    have ed : w89 q cc gc h N c = (nI N, fset (fset (fset (fset h 1 1 (.int (nI 0))) 5 1 (.int (nI (c + N)))) 25 2 (.int (nI 0))) 0 7 (.int (nI 0))) := (cf z1).trans rfl
    refine ⟨?_, ?_, ?_⟩ <;> rw [ed]
    · exact er7
    · exact (wt_fs rfl (by decide) rfl (wt_fs rfl (by decide) rfl (wt_fs rfl (by decide) rfl (wt_fs rfl (by decide) rfl hw))))
    · exact (fr_f rfl rfl (fr_f rfl rfl (fr_f rfl rfl (fr_f rfl rfl fr_0))))
def w131 (q : QT) (cc gc : Nat) (h : pm_H) (g : Nat) (p : Int32) (k : Int32) (a : Nat) (w : Int32) (s : Int32) (e : Int32) (d : Int32) : Int32 × pm_H := (nI (a + 1), aset (aset (aset (aset (aset h 9 8 (upd (Ar h 9) g k)) 10 8 (upd (Ar h 10) g w)) 11 8 (upd (Ar h 11) g e)) 17 8 (upd (Ar h 17) g d)) 18 8 (upd (Ar h 18) g (shl (nI 1) d)))
theorem w131_ok {n fr lo sl cc gc : Nat} {q : QT} {h : pm_H} {R : pm_Rs} {g : Nat} {p : Int32} {k : Int32} {a : Nat} {w : Int32} {s : Int32} {e : Int32} {d : Int32} (hw : WT h) (h_g : g < 8) (h_a : a < 10000) (hh : pm_run PT n fr lo 131 (178, [some (.ref 0), some (.int (nI g)), some (.int p), some (.int k), some (.int (nI a)), some (.int w), some (.int s), some (.int e), some (.int d)], [], h, 198, sl) = some R) : R = (some (.int ((w131 q cc gc h g p k a w s e d).1)), (w131 q cc gc h g p k a w s e d).2, 198, sl) ∧ WT ((w131 q cc gc h g p k a w s e d).2) ∧ frm [9, 10, 11, 17, 18] [] h ((w131 q cc gc h g p k a w s e d).2) := by
  obtain ⟨n, hh⟩ := rn_i rfl rfl rfl rfl hh
  have hh : pm_run PT n fr lo 131 (179, [some (.ref 0), some (.int (nI g)), some (.int p), some (.int k), some (.int (nI a)), some (.int w), some (.int s), some (.int e), some (.int d)], [.ref 0], h, 198, sl) = some R := hh
  obtain ⟨n, hh⟩ := rn_gr hw rfl rfl (by decide) rfl (by decide) (show _ = some (2, ((5 : Nat) : Int), 1) from rfl) rfl hh
  obtain ⟨n, hh⟩ := rn_i rfl rfl rfl rfl hh
  obtain ⟨n, hh⟩ := rn_i rfl rfl rfl rfl hh
  obtain ⟨n, hh⟩ := rn_i rfl rfl rfl rfl hh
  obtain ⟨n, hh⟩ := rn_i rfl rfl rfl rfl hh
  have hh : pm_run PT n fr lo 131 (188, [some (.ref 0), some (.int (nI g)), some (.int p), some (.int k), some (.int (nI a)), some (.int w), some (.int s), some (.int e), some (.int d)], [.int e, .int w, .int k, .int (nI g), .ref 5], h, 198, sl) = some R := hh
  obtain ⟨n, fr1, lo1, r1, hh1, hh⟩ := rn_call (w := 0) (t := 27) rfl rfl hh
  have hh1 : pm_run PT n fr1 lo1 27 (0, [some (.ref 5), some (.int (nI g)), some (.int k), some (.int w), some (.int e)], [], h, 198, sl) = some r1 := hh1
  obtain ⟨n1, hh1⟩ := rn_i rfl rfl rfl rfl hh1
  have hh1 : pm_run PT n1 fr1 lo1 27 (1, [some (.ref 5), some (.int (nI g)), some (.int k), some (.int w), some (.int e)], [.ref 5], h, 198, sl) = some r1 := hh1
  obtain ⟨n1, hh1⟩ := rn_gr hw rfl rfl (by decide) rfl (by decide) (show _ = some (2, ((9 : Nat) : Int), 1) from rfl) rfl hh1
  obtain ⟨n1, hh1⟩ := rn_i rfl rfl rfl rfl hh1
  obtain ⟨n1, hh1⟩ := rn_i rfl rfl rfl rfl hh1
  have hh1 : pm_run PT n1 fr1 lo1 27 (6, [some (.ref 5), some (.int (nI g)), some (.int k), some (.int w), some (.int e)], [.int k, .int (nI g), .ref 9], h, 198, sl) = some r1 := hh1
  obtain ⟨n1, hx1, hh1⟩ := en_st (t := g) (f := Ar h 9) (nI_clamp (by omega)) hw rfl (by decide) rfl (by decide) rfl hh1
  obtain ⟨n1, hh1⟩ := rn_i rfl rfl rfl rfl hh1
  have hh1 : pm_run PT n1 fr1 lo1 27 (8, [some (.ref 5), some (.int (nI g)), some (.int k), some (.int w), some (.int e)], [.ref 5], aset h 9 8 (upd (Ar h 9) g k), 198, sl) = some r1 := hh1
  obtain ⟨n1, hh1⟩ := rn_gr (wt_as rfl hw) rfl rfl (by decide) rfl (by decide) (show _ = some (2, ((10 : Nat) : Int), 1) from rfl) rfl hh1
  obtain ⟨n1, hh1⟩ := rn_i rfl rfl rfl rfl hh1
  obtain ⟨n1, hh1⟩ := rn_i rfl rfl rfl rfl hh1
  have hh1 : pm_run PT n1 fr1 lo1 27 (13, [some (.ref 5), some (.int (nI g)), some (.int k), some (.int w), some (.int e)], [.int w, .int (nI g), .ref 10], aset h 9 8 (upd (Ar h 9) g k), 198, sl) = some r1 := hh1
  obtain ⟨n1, hx2, hh1⟩ := en_st (t := g) (f := Ar h 10) (nI_clamp (by omega)) (wt_as rfl hw) rfl (by decide) rfl (by decide) ((Ar_n (by decide)).trans rfl) hh1
  obtain ⟨n1, hh1⟩ := rn_i rfl rfl rfl rfl hh1
  have hh1 : pm_run PT n1 fr1 lo1 27 (15, [some (.ref 5), some (.int (nI g)), some (.int k), some (.int w), some (.int e)], [.ref 5], aset (aset h 9 8 (upd (Ar h 9) g k)) 10 8 (upd (Ar h 10) g w), 198, sl) = some r1 := hh1
  obtain ⟨n1, hh1⟩ := rn_gr (wt_as rfl (wt_as rfl hw)) rfl rfl (by decide) rfl (by decide) (show _ = some (2, ((11 : Nat) : Int), 1) from rfl) rfl hh1
  obtain ⟨n1, hh1⟩ := rn_i rfl rfl rfl rfl hh1
  obtain ⟨n1, hh1⟩ := rn_i rfl rfl rfl rfl hh1
  have hh1 : pm_run PT n1 fr1 lo1 27 (21, [some (.ref 5), some (.int (nI g)), some (.int k), some (.int w), some (.int e)], [.int e, .int (nI g), .ref 11], aset (aset h 9 8 (upd (Ar h 9) g k)) 10 8 (upd (Ar h 10) g w), 198, sl) = some r1 := hh1
  obtain ⟨n1, hx3, hh1⟩ := en_st (t := g) (f := Ar h 11) (nI_clamp (by omega)) (wt_as rfl (wt_as rfl hw)) rfl (by decide) rfl (by decide) ((Ar_n (by decide)).trans ((Ar_n (by decide)).trans rfl)) hh1
  have er4 : r1 = (none, aset (aset (aset h 9 8 (upd (Ar h 9) g k)) 10 8 (upd (Ar h 10) g w)) 11 8 (upd (Ar h 11) g e), 198, sl) := rn_vret rfl rfl hh1
  subst er4
  obtain ⟨n, hh⟩ := rn_i rfl rfl rfl rfl hh
  have hh : pm_run PT n fr lo 131 (192, [some (.ref 0), some (.int (nI g)), some (.int p), some (.int k), some (.int (nI a)), some (.int w), some (.int s), some (.int e), some (.int d)], [.ref 0], aset (aset (aset h 9 8 (upd (Ar h 9) g k)) 10 8 (upd (Ar h 10) g w)) 11 8 (upd (Ar h 11) g e), 198, sl) = some R := hh
  obtain ⟨n, hh⟩ := rn_gr (wt_as rfl (wt_as rfl (wt_as rfl hw))) rfl rfl (by decide) rfl (by decide) (show _ = some (2, ((13 : Nat) : Int), 1) from rfl) rfl hh
  have hh : pm_run PT n fr lo 131 (195, [some (.ref 0), some (.int (nI g)), some (.int p), some (.int k), some (.int (nI a)), some (.int w), some (.int s), some (.int e), some (.int d)], [.ref 13], aset (aset (aset h 9 8 (upd (Ar h 9) g k)) 10 8 (upd (Ar h 10) g w)) 11 8 (upd (Ar h 11) g e), 198, sl) = some R := hh
  obtain ⟨n, hh⟩ := rn_gr (wt_as rfl (wt_as rfl (wt_as rfl hw))) rfl rfl (by decide) rfl (by decide) (show _ = some (2, ((17 : Nat) : Int), 1) from rfl) rfl hh
  obtain ⟨n, hh⟩ := rn_i rfl rfl rfl rfl hh
  obtain ⟨n, hh⟩ := rn_i rfl rfl rfl rfl hh
  have hh : pm_run PT n fr lo 131 (201, [some (.ref 0), some (.int (nI g)), some (.int p), some (.int k), some (.int (nI a)), some (.int w), some (.int s), some (.int e), some (.int d)], [.int d, .int (nI g), .ref 17], aset (aset (aset h 9 8 (upd (Ar h 9) g k)) 10 8 (upd (Ar h 10) g w)) 11 8 (upd (Ar h 11) g e), 198, sl) = some R := hh
  obtain ⟨n, hx5, hh⟩ := en_st (t := g) (f := Ar h 17) (nI_clamp (by omega)) (wt_as rfl (wt_as rfl (wt_as rfl hw))) rfl (by decide) rfl (by decide) ((Ar_n (by decide)).trans ((Ar_n (by decide)).trans ((Ar_n (by decide)).trans rfl))) hh
  obtain ⟨n, hh⟩ := rn_i rfl rfl rfl rfl hh
  have hh : pm_run PT n fr lo 131 (203, [some (.ref 0), some (.int (nI g)), some (.int p), some (.int k), some (.int (nI a)), some (.int w), some (.int s), some (.int e), some (.int d)], [.ref 0], aset (aset (aset (aset h 9 8 (upd (Ar h 9) g k)) 10 8 (upd (Ar h 10) g w)) 11 8 (upd (Ar h 11) g e)) 17 8 (upd (Ar h 17) g d), 198, sl) = some R := hh
  obtain ⟨n, hh⟩ := rn_gr (wt_as rfl (wt_as rfl (wt_as rfl (wt_as rfl hw)))) rfl rfl (by decide) rfl (by decide) (show _ = some (2, ((13 : Nat) : Int), 1) from rfl) rfl hh
  have hh : pm_run PT n fr lo 131 (206, [some (.ref 0), some (.int (nI g)), some (.int p), some (.int k), some (.int (nI a)), some (.int w), some (.int s), some (.int e), some (.int d)], [.ref 13], aset (aset (aset (aset h 9 8 (upd (Ar h 9) g k)) 10 8 (upd (Ar h 10) g w)) 11 8 (upd (Ar h 11) g e)) 17 8 (upd (Ar h 17) g d), 198, sl) = some R := hh
  obtain ⟨n, hh⟩ := rn_gr (wt_as rfl (wt_as rfl (wt_as rfl (wt_as rfl hw)))) rfl rfl (by decide) rfl (by decide) (show _ = some (2, ((18 : Nat) : Int), 1) from rfl) rfl hh
  obtain ⟨n, hh⟩ := rn_i rfl rfl rfl rfl hh
  obtain ⟨n, hh⟩ := rn_i rfl rfl rfl rfl hh
  obtain ⟨n, hh⟩ := rn_i rfl rfl rfl rfl hh
  obtain ⟨n, hh⟩ := rn_i rfl rfl rfl rfl hh
  have hh : pm_run PT n fr lo 131 (214, [some (.ref 0), some (.int (nI g)), some (.int p), some (.int k), some (.int (nI a)), some (.int w), some (.int s), some (.int e), some (.int d)], [.int (shl (nI 1) d), .int (nI g), .ref 18], aset (aset (aset (aset h 9 8 (upd (Ar h 9) g k)) 10 8 (upd (Ar h 10) g w)) 11 8 (upd (Ar h 11) g e)) 17 8 (upd (Ar h 17) g d), 198, sl) = some R := hh
  obtain ⟨n, hx6, hh⟩ := en_st (t := g) (f := Ar h 18) (nI_clamp (by omega)) (wt_as rfl (wt_as rfl (wt_as rfl (wt_as rfl hw)))) rfl (by decide) rfl (by decide) ((Ar_n (by decide)).trans ((Ar_n (by decide)).trans ((Ar_n (by decide)).trans ((Ar_n (by decide)).trans rfl)))) hh
  obtain ⟨n, hh⟩ := rn_i rfl rfl rfl rfl hh
  obtain ⟨n, hh⟩ := rn_i rfl rfl rfl rfl hh
  have hh : pm_run PT n fr lo 131 (218, [some (.ref 0), some (.int (nI g)), some (.int p), some (.int k), some (.int (nI a)), some (.int w), some (.int s), some (.int e), some (.int d)], [.int (nI 1), .int (nI a)], aset (aset (aset (aset (aset h 9 8 (upd (Ar h 9) g k)) 10 8 (upd (Ar h 10) g w)) 11 8 (upd (Ar h 11) g e)) 17 8 (upd (Ar h 17) g d)) 18 8 (upd (Ar h 18) g (shl (nI 1) d)), 198, sl) = some R := hh
  obtain ⟨n, hh⟩ := en_add rfl hh
  have hh : pm_run PT n fr lo 131 (219, [some (.ref 0), some (.int (nI g)), some (.int p), some (.int k), some (.int (nI a)), some (.int w), some (.int s), some (.int e), some (.int d)], [.int (nI (a + 1))], aset (aset (aset (aset (aset h 9 8 (upd (Ar h 9) g k)) 10 8 (upd (Ar h 10) g w)) 11 8 (upd (Ar h 11) g e)) 17 8 (upd (Ar h 17) g d)) 18 8 (upd (Ar h 18) g (shl (nI 1) d)), 198, sl) = some R := hh
  have hh : pm_run PT n fr lo 131 (219, [some (.ref 0), some (.int (nI g)), some (.int p), some (.int k), some (.int (nI a)), some (.int w), some (.int s), some (.int e), some (.int d)], [.int (nI (a + 1))], aset (aset (aset (aset (aset h 9 8 (upd (Ar h 9) g k)) 10 8 (upd (Ar h 10) g w)) 11 8 (upd (Ar h 11) g e)) 17 8 (upd (Ar h 17) g d)) 18 8 (upd (Ar h 18) g (shl (nI 1) d)), 198, sl) = some R := hh
  have er7 : R = (some (.int (nI (a + 1))), aset (aset (aset (aset (aset h 9 8 (upd (Ar h 9) g k)) 10 8 (upd (Ar h 10) g w)) 11 8 (upd (Ar h 11) g e)) 17 8 (upd (Ar h 17) g d)) 18 8 (upd (Ar h 18) g (shl (nI 1) d)), 198, sl) := (rn_ret rfl (Or.inl rfl) hh).2
  have ed : w131 q cc gc h g p k a w s e d = (nI (a + 1), aset (aset (aset (aset (aset h 9 8 (upd (Ar h 9) g k)) 10 8 (upd (Ar h 10) g w)) 11 8 (upd (Ar h 11) g e)) 17 8 (upd (Ar h 17) g d)) 18 8 (upd (Ar h 18) g (shl (nI 1) d))) := rfl
  refine ⟨?_, ?_, ?_⟩ <;> rw [ed]
  · exact er7
  · exact (wt_as rfl (wt_as rfl (wt_as rfl (wt_as rfl (wt_as rfl hw)))))
  · exact (fr_a rfl rfl (fr_a rfl rfl (fr_a rfl rfl (fr_a rfl rfl (fr_a rfl rfl fr_0)))))
def w88n (q : QT) (cc gc : Nat) (h : pm_H) (v : Int32) : Int32 × pm_H := (v, fset h 1 1 (.int (nI 0)))
theorem w88n_ok {n fr lo sl cc gc : Nat} {q : QT} {h : pm_H} {R : pm_Rs} {v : Int32} (hw : WT h) (hle : pm_cmp .le v 0 = true) (hh : pm_run PT n fr lo 88 (5, [some (.ref 0), some (.int v), none], [], h, 198, sl) = some R) : R = (some (.int ((w88n q cc gc h v).1)), (w88n q cc gc h v).2, 198, sl) ∧ WT ((w88n q cc gc h v).2) ∧ frm [1] [(1, 1)] h ((w88n q cc gc h v).2) := by
  obtain ⟨n, hh⟩ := rn_i rfl rfl rfl rfl hh
  have hh : pm_run PT n fr lo 88 (6, [some (.ref 0), some (.int v), none], [.ref 0], h, 198, sl) = some R := hh
  obtain ⟨n, hh⟩ := rn_gr hw rfl rfl (by decide) rfl (by decide) (show _ = some (2, ((1 : Nat) : Int), 1) from rfl) rfl hh
  obtain ⟨n, hh⟩ := rn_i rfl rfl rfl rfl hh
  have hh : pm_run PT n fr lo 88 (10, [some (.ref 0), some (.int v), none], [.int (nI 0), .ref 1], h, 198, sl) = some R := hh
  obtain ⟨n, hh⟩ := rn_pi hw rfl rfl (by decide) rfl (by decide) rfl hh
  obtain ⟨n, hh⟩ := rn_i rfl rfl rfl rfl hh
  have hh : pm_run PT n fr lo 88 (14, [some (.ref 0), some (.int v), none], [.int v], fset h 1 1 (.int (nI 0)), 198, sl) = some R := hh
  obtain ⟨n, hh⟩ := en_zn (cc := .le) (off := 44) (t := 58) (b := pm_cmp .le v 0) rfl rfl rfl hh
  have hh := en_t hle hh
  have hh : pm_run PT n fr lo 88 (58, [some (.ref 0), some (.int v), none], [], fset h 1 1 (.int (nI 0)), 198, sl) = some R := hh
  obtain ⟨n, hh⟩ := rn_i rfl rfl rfl rfl hh
  have hh : pm_run PT n fr lo 88 (59, [some (.ref 0), some (.int v), none], [.int v], fset h 1 1 (.int (nI 0)), 198, sl) = some R := hh
  have er1 : R = (some (.int v), fset h 1 1 (.int (nI 0)), 198, sl) := (rn_ret rfl (Or.inl rfl) hh).2
  have ed : w88n q cc gc h v = (v, fset h 1 1 (.int (nI 0))) := rfl
  refine ⟨?_, ?_, ?_⟩ <;> rw [ed]
  · exact er1
  · exact (wt_fs rfl (by decide) rfl hw)
  · exact (fr_f rfl rfl fr_0)
def w89n (q : QT) (cc gc : Nat) (h : pm_H) (v : Int32) : Int32 × pm_H := (v, fset h 1 1 (.int (nI 0)))
theorem w89n_ok {n fr lo sl cc gc : Nat} {q : QT} {h : pm_H} {R : pm_Rs} {v : Int32} (hw : WT h) (hle : pm_cmp .le v 0 = true) (hh : pm_run PT n fr lo 89 (5, [some (.ref 0), some (.int v)], [], h, 198, sl) = some R) : R = (some (.int ((w89n q cc gc h v).1)), (w89n q cc gc h v).2, 198, sl) ∧ WT ((w89n q cc gc h v).2) ∧ frm [1] [(1, 1)] h ((w89n q cc gc h v).2) := by
  obtain ⟨n, hh⟩ := rn_i rfl rfl rfl rfl hh
  have hh : pm_run PT n fr lo 89 (6, [some (.ref 0), some (.int v)], [.ref 0], h, 198, sl) = some R := hh
  obtain ⟨n, hh⟩ := rn_gr hw rfl rfl (by decide) rfl (by decide) (show _ = some (2, ((1 : Nat) : Int), 1) from rfl) rfl hh
  obtain ⟨n, hh⟩ := rn_i rfl rfl rfl rfl hh
  have hh : pm_run PT n fr lo 89 (10, [some (.ref 0), some (.int v)], [.int (nI 0), .ref 1], h, 198, sl) = some R := hh
  obtain ⟨n, hh⟩ := rn_pi hw rfl rfl (by decide) rfl (by decide) rfl hh
  obtain ⟨n, hh⟩ := rn_i rfl rfl rfl rfl hh
  have hh : pm_run PT n fr lo 89 (14, [some (.ref 0), some (.int v)], [.int v], fset h 1 1 (.int (nI 0)), 198, sl) = some R := hh
  obtain ⟨n, hh⟩ := en_zn (cc := .le) (off := 20) (t := 34) (b := pm_cmp .le v 0) rfl rfl rfl hh
  have hh := en_t hle hh
  have hh : pm_run PT n fr lo 89 (34, [some (.ref 0), some (.int v)], [], fset h 1 1 (.int (nI 0)), 198, sl) = some R := hh
  obtain ⟨n, hh⟩ := rn_i rfl rfl rfl rfl hh
  have hh : pm_run PT n fr lo 89 (35, [some (.ref 0), some (.int v)], [.int v], fset h 1 1 (.int (nI 0)), 198, sl) = some R := hh
  have er1 : R = (some (.int v), fset h 1 1 (.int (nI 0)), 198, sl) := (rn_ret rfl (Or.inl rfl) hh).2
  have ed : w89n q cc gc h v = (v, fset h 1 1 (.int (nI 0))) := rfl
  refine ⟨?_, ?_, ?_⟩ <;> rw [ed]
  · exact er1
  · exact (wt_fs rfl (by decide) rfl hw)
  · exact (fr_f rfl rfl fr_0)
def w189 (q : QT) (cc gc : Nat) (h : pm_H) (a : Nat) (b : Nat) : pm_H := aset (aset h 170 96 (upd (upd (Ar h 170) (6 + 6 * a + b) (nI 10)) (42 + 6 * a + b) (nI 0))) 169 36 (upd (Ar h 169) (6 * a + b) (nI 0))
theorem w189_ok {n fr lo sl cc gc : Nat} {q : QT} {h : pm_H} {R : pm_Rs} {a : Nat} {b : Nat} (hw : WT h) (h_a : a < 10000) (h_b : b < 10000) (hh : pm_run PT n fr lo 189 (0, pm_l0 [.ref 162, .int (nI a), .int (nI b)] 3, [], h, 198, sl) = some R) : R = (none, w189 q cc gc h a b, 198, sl) ∧ WT (w189 q cc gc h a b) ∧ frm [169, 170] [] h (w189 q cc gc h a b) := by
  obtain ⟨n, hh⟩ := rn_i rfl rfl rfl rfl hh
  have hh : pm_run PT n fr lo 189 (1, [some (.ref 162), some (.int (nI a)), some (.int (nI b))], [.ref 162], h, 198, sl) = some R := hh
  obtain ⟨n, hh⟩ := rn_gr hw rfl rfl (by decide) rfl (by decide) (show _ = some (2, ((170 : Nat) : Int), 1) from rfl) rfl hh
  obtain ⟨n, hh⟩ := rn_i rfl rfl rfl rfl hh
  obtain ⟨n, hh⟩ := rn_i rfl rfl rfl rfl hh
  obtain ⟨n, hh⟩ := rn_i rfl rfl rfl rfl hh
  have hh : pm_run PT n fr lo 189 (9, [some (.ref 162), some (.int (nI a)), some (.int (nI b))], [.int (nI a), .int (nI 6), .int (nI 6), .ref 170], h, 198, sl) = some R := hh
  obtain ⟨n, hh⟩ := en_mul rfl hh
  have hh : pm_run PT n fr lo 189 (10, [some (.ref 162), some (.int (nI a)), some (.int (nI b))], [.int (nI (6 * a)), .int (nI 6), .ref 170], h, 198, sl) = some R := hh
  have hh : pm_run PT n fr lo 189 (10, [some (.ref 162), some (.int (nI a)), some (.int (nI b))], [.int (nI (6 * a)), .int (nI 6), .ref 170], h, 198, sl) = some R := hh
  obtain ⟨n, hh⟩ := en_add rfl hh
  have hh : pm_run PT n fr lo 189 (11, [some (.ref 162), some (.int (nI a)), some (.int (nI b))], [.int (nI (6 + 6 * a)), .ref 170], h, 198, sl) = some R := hh
  obtain ⟨n, hh⟩ := rn_i rfl rfl rfl rfl hh
  have hh : pm_run PT n fr lo 189 (12, [some (.ref 162), some (.int (nI a)), some (.int (nI b))], [.int (nI b), .int (nI (6 + 6 * a)), .ref 170], h, 198, sl) = some R := hh
  obtain ⟨n, hh⟩ := en_add rfl hh
  have hh : pm_run PT n fr lo 189 (13, [some (.ref 162), some (.int (nI a)), some (.int (nI b))], [.int (nI (6 + 6 * a + b)), .ref 170], h, 198, sl) = some R := hh
  obtain ⟨n, hh⟩ := rn_i rfl rfl rfl rfl hh
  have hh : pm_run PT n fr lo 189 (15, [some (.ref 162), some (.int (nI a)), some (.int (nI b))], [.int (nI 10), .int (nI (6 + 6 * a + b)), .ref 170], h, 198, sl) = some R := hh
  obtain ⟨n, hx1, hh⟩ := en_st (t := 6 + 6 * a + b) (f := Ar h 170) (nI_clamp (by omega)) hw rfl (by decide) rfl (by decide) rfl hh
  obtain ⟨n, hh⟩ := rn_i rfl rfl rfl rfl hh
  have hh : pm_run PT n fr lo 189 (17, [some (.ref 162), some (.int (nI a)), some (.int (nI b))], [.ref 162], aset h 170 96 (upd (Ar h 170) (6 + 6 * a + b) (nI 10)), 198, sl) = some R := hh
  obtain ⟨n, hh⟩ := rn_gr (wt_as rfl hw) rfl rfl (by decide) rfl (by decide) (show _ = some (2, ((170 : Nat) : Int), 1) from rfl) rfl hh
  obtain ⟨n, hh⟩ := rn_i rfl rfl rfl rfl hh
  obtain ⟨n, hh⟩ := rn_i rfl rfl rfl rfl hh
  obtain ⟨n, hh⟩ := rn_i rfl rfl rfl rfl hh
  have hh : pm_run PT n fr lo 189 (25, [some (.ref 162), some (.int (nI a)), some (.int (nI b))], [.int (nI a), .int (nI 6), .int (nI 42), .ref 170], aset h 170 96 (upd (Ar h 170) (6 + 6 * a + b) (nI 10)), 198, sl) = some R := hh
  obtain ⟨n, hh⟩ := en_mul rfl hh
  have hh : pm_run PT n fr lo 189 (26, [some (.ref 162), some (.int (nI a)), some (.int (nI b))], [.int (nI (6 * a)), .int (nI 42), .ref 170], aset h 170 96 (upd (Ar h 170) (6 + 6 * a + b) (nI 10)), 198, sl) = some R := hh
  have hh : pm_run PT n fr lo 189 (26, [some (.ref 162), some (.int (nI a)), some (.int (nI b))], [.int (nI (6 * a)), .int (nI 42), .ref 170], aset h 170 96 (upd (Ar h 170) (6 + 6 * a + b) (nI 10)), 198, sl) = some R := hh
  obtain ⟨n, hh⟩ := en_add rfl hh
  have hh : pm_run PT n fr lo 189 (27, [some (.ref 162), some (.int (nI a)), some (.int (nI b))], [.int (nI (42 + 6 * a)), .ref 170], aset h 170 96 (upd (Ar h 170) (6 + 6 * a + b) (nI 10)), 198, sl) = some R := hh
  obtain ⟨n, hh⟩ := rn_i rfl rfl rfl rfl hh
  have hh : pm_run PT n fr lo 189 (28, [some (.ref 162), some (.int (nI a)), some (.int (nI b))], [.int (nI b), .int (nI (42 + 6 * a)), .ref 170], aset h 170 96 (upd (Ar h 170) (6 + 6 * a + b) (nI 10)), 198, sl) = some R := hh
  obtain ⟨n, hh⟩ := en_add rfl hh
  have hh : pm_run PT n fr lo 189 (29, [some (.ref 162), some (.int (nI a)), some (.int (nI b))], [.int (nI (42 + 6 * a + b)), .ref 170], aset h 170 96 (upd (Ar h 170) (6 + 6 * a + b) (nI 10)), 198, sl) = some R := hh
  obtain ⟨n, hh⟩ := rn_i rfl rfl rfl rfl hh
  have hh : pm_run PT n fr lo 189 (30, [some (.ref 162), some (.int (nI a)), some (.int (nI b))], [.int (nI 0), .int (nI (42 + 6 * a + b)), .ref 170], aset h 170 96 (upd (Ar h 170) (6 + 6 * a + b) (nI 10)), 198, sl) = some R := hh
  obtain ⟨n, hx2, hh⟩ := en_st (t := 42 + 6 * a + b) (f := upd (Ar h 170) (6 + 6 * a + b) (nI 10)) (nI_clamp (by omega)) (wt_as rfl hw) rfl (by decide) rfl (by decide) Ar_s hh
  have hh : pm_run PT n fr lo 189 (31, [some (.ref 162), some (.int (nI a)), some (.int (nI b))], [], aset (aset h 170 96 (upd (Ar h 170) (6 + 6 * a + b) (nI 10))) 170 96 (upd (upd (Ar h 170) (6 + 6 * a + b) (nI 10)) (42 + 6 * a + b) (nI 0)), 198, sl) = some R := hh
  rw [aset_aset] at hh
  obtain ⟨n, hh⟩ := rn_i rfl rfl rfl rfl hh
  have hh : pm_run PT n fr lo 189 (32, [some (.ref 162), some (.int (nI a)), some (.int (nI b))], [.ref 162], aset h 170 96 (upd (upd (Ar h 170) (6 + 6 * a + b) (nI 10)) (42 + 6 * a + b) (nI 0)), 198, sl) = some R := hh
  obtain ⟨n, hh⟩ := rn_gr (wt_as rfl hw) rfl rfl (by decide) rfl (by decide) (show _ = some (2, ((169 : Nat) : Int), 1) from rfl) rfl hh
  obtain ⟨n, hh⟩ := rn_i rfl rfl rfl rfl hh
  obtain ⟨n, hh⟩ := rn_i rfl rfl rfl rfl hh
  have hh : pm_run PT n fr lo 189 (38, [some (.ref 162), some (.int (nI a)), some (.int (nI b))], [.int (nI a), .int (nI 6), .ref 169], aset h 170 96 (upd (upd (Ar h 170) (6 + 6 * a + b) (nI 10)) (42 + 6 * a + b) (nI 0)), 198, sl) = some R := hh
  obtain ⟨n, hh⟩ := en_mul rfl hh
  have hh : pm_run PT n fr lo 189 (39, [some (.ref 162), some (.int (nI a)), some (.int (nI b))], [.int (nI (6 * a)), .ref 169], aset h 170 96 (upd (upd (Ar h 170) (6 + 6 * a + b) (nI 10)) (42 + 6 * a + b) (nI 0)), 198, sl) = some R := hh
  obtain ⟨n, hh⟩ := rn_i rfl rfl rfl rfl hh
  have hh : pm_run PT n fr lo 189 (40, [some (.ref 162), some (.int (nI a)), some (.int (nI b))], [.int (nI b), .int (nI (6 * a)), .ref 169], aset h 170 96 (upd (upd (Ar h 170) (6 + 6 * a + b) (nI 10)) (42 + 6 * a + b) (nI 0)), 198, sl) = some R := hh
  obtain ⟨n, hh⟩ := en_add rfl hh
  have hh : pm_run PT n fr lo 189 (41, [some (.ref 162), some (.int (nI a)), some (.int (nI b))], [.int (nI (6 * a + b)), .ref 169], aset h 170 96 (upd (upd (Ar h 170) (6 + 6 * a + b) (nI 10)) (42 + 6 * a + b) (nI 0)), 198, sl) = some R := hh
  obtain ⟨n, hh⟩ := rn_i rfl rfl rfl rfl hh
  have hh : pm_run PT n fr lo 189 (42, [some (.ref 162), some (.int (nI a)), some (.int (nI b))], [.int (nI 0), .int (nI (6 * a + b)), .ref 169], aset h 170 96 (upd (upd (Ar h 170) (6 + 6 * a + b) (nI 10)) (42 + 6 * a + b) (nI 0)), 198, sl) = some R := hh
  obtain ⟨n, hx3, hh⟩ := en_st (t := 6 * a + b) (f := Ar h 169) (nI_clamp (by omega)) (wt_as rfl hw) rfl (by decide) rfl (by decide) ((Ar_n (by decide)).trans rfl) hh
  have er4 : R = (none, aset (aset h 170 96 (upd (upd (Ar h 170) (6 + 6 * a + b) (nI 10)) (42 + 6 * a + b) (nI 0))) 169 36 (upd (Ar h 169) (6 * a + b) (nI 0)), 198, sl) := rn_vret rfl rfl hh
  have ed : w189 q cc gc h a b = aset (aset h 170 96 (upd (upd (Ar h 170) (6 + 6 * a + b) (nI 10)) (42 + 6 * a + b) (nI 0))) 169 36 (upd (Ar h 169) (6 * a + b) (nI 0)) := rfl
  refine ⟨?_, ?_, ?_⟩ <;> rw [ed]
  · exact er4
  · exact (wt_as rfl (wt_as rfl hw))
  · exact (fr_a rfl rfl (fr_a rfl rfl fr_0))
theorem w189_fr {cc gc : Nat} {q : QT} {h : pm_H} {a : Nat} {b : Nat} (hw : WT h) : WT (w189 q cc gc h a b) ∧ frm [169, 170] [] h (w189 q cc gc h a b) := by
  unfold w189
  show WT (aset (aset h 170 96 (upd (upd (Ar h 170) (6 + 6 * a + b) (nI 10)) (42 + 6 * a + b) (nI 0))) 169 36 (upd (Ar h 169) (6 * a + b) (nI 0))) ∧ frm [169, 170] [] h (aset (aset h 170 96 (upd (upd (Ar h 170) (6 + 6 * a + b) (nI 10)) (42 + 6 * a + b) (nI 0))) 169 36 (upd (Ar h 169) (6 * a + b) (nI 0)))
  exact ⟨(wt_as rfl (wt_as rfl hw)), (fr_a rfl rfl (fr_a rfl rfl fr_0))⟩
def w190 (q : QT) (cc gc : Nat) (h : pm_H) (r : Nat) : pm_H := fset (fset h 162 27 (.int (cond (decide (r ≤ 0)) (Fi h 162 27) (nI 0)))) 162 5 (.int ((Fi h 162 5) + (cond (cond (decide (r ≤ 0)) false true) 1 0)))
theorem w190_ok {n fr lo sl cc gc : Nat} {q : QT} {h : pm_H} {R : pm_Rs} {r : Nat} (hw : WT h) (hr : r ≤ 8) (e20 : Fi h 162 20 = nI r) (hh : pm_run PT n fr lo 190 (0, pm_l0 [.ref 162] 1, [], h, 198, sl) = some R) : R = (none, w190 q cc gc h r, 198, sl) ∧ WT (w190 q cc gc h r) ∧ frm [162] [(162, 5), (162, 27)] h (w190 q cc gc h r) := by
  obtain ⟨n, hh⟩ := rn_i rfl rfl rfl rfl hh
  obtain ⟨n, hh⟩ := rn_i rfl rfl rfl rfl hh
  have hh : pm_run PT n fr lo 190 (2, [some (.ref 162)], [.ref 162, .ref 162], h, 198, sl) = some R := hh
  obtain ⟨n, hh⟩ := rn_gi (x := nI r) hw rfl rfl (by decide) rfl (by decide) rfl e20 hh
  have hh : pm_run PT n fr lo 190 (5, [some (.ref 162)], [.int (nI r), .ref 162], h, 198, sl) = some R := hh
  obtain ⟨n, hh⟩ := en_zn (cc := .le) (off := 7) (t := 12) (b := decide (r ≤ 0)) (hI_le (b := 0) (by omega) (by omega)) rfl rfl hh
  have hj2 : ∃ mJ, pm_run PT mJ fr lo 190 (cond (decide (r ≤ 0)) (16, [some (.ref 162)], [.int (Fi h 162 27), .ref 162], h, 198, sl) (16, [some (.ref 162)], [.int (nI 0), .ref 162], h, 198, sl)) = some R := en_J (fun z1 => by
      have hh := en_t z1 hh
      have hh : pm_run PT n fr lo 190 (12, [some (.ref 162)], [.ref 162], h, 198, sl) = some R := hh
      have y_z1 := of_decide_eq_true z1
      obtain ⟨n, hh⟩ := rn_i rfl rfl rfl rfl hh
      have hh : pm_run PT n fr lo 190 (13, [some (.ref 162)], [.ref 162, .ref 162], h, 198, sl) = some R := hh
      obtain ⟨n, hh⟩ := rn_gi (x := Fi h 162 27) hw rfl rfl (by decide) rfl (by decide) rfl rfl hh
      exact ⟨n, hh⟩) (fun z1 => by
      have hh := en_f z1 hh
      have hh : pm_run PT n fr lo 190 (8, [some (.ref 162)], [.ref 162], h, 198, sl) = some R := hh
      have y_z1 := of_decide_eq_false z1
      obtain ⟨n, hh⟩ := rn_i rfl rfl rfl rfl hh
      obtain ⟨n, hh⟩ := rn_i rfl rfl rfl rfl hh
      exact ⟨n, hh⟩)
  obtain ⟨n, hh⟩ := hj2
  rw [show (cond (decide (r ≤ 0)) (16, [some (.ref 162)], [.int (Fi h 162 27), .ref 162], h, 198, sl) (16, [some (.ref 162)], [.int (nI 0), .ref 162], h, 198, sl) : pm_St) = (16, [some (.ref 162)], [.int (cond (decide (r ≤ 0)) (Fi h 162 27) (nI 0)), .ref 162], h, 198, sl) from by cases (decide (r ≤ 0)) <;> rfl] at hh
  have hh : pm_run PT n fr lo 190 (16, [some (.ref 162)], [.int (cond (decide (r ≤ 0)) (Fi h 162 27) (nI 0)), .ref 162], h, 198, sl) = some R := hh
  obtain ⟨n, hh⟩ := rn_pi hw rfl rfl (by decide) rfl (by decide) rfl hh
  obtain ⟨n, hh⟩ := rn_i rfl rfl rfl rfl hh
  obtain ⟨n, hh⟩ := rn_i rfl rfl rfl rfl hh
  have hh : pm_run PT n fr lo 190 (21, [some (.ref 162)], [.ref 162, .ref 162], fset h 162 27 (.int (cond (decide (r ≤ 0)) (Fi h 162 27) (nI 0))), 198, sl) = some R := hh
  obtain ⟨n, hh⟩ := rn_gi (x := Fi h 162 5) (wt_fs rfl (by decide) rfl hw) rfl rfl (by decide) rfl (by decide) rfl ((Fi_n (Or.inr (by decide))).trans rfl) hh
  obtain ⟨n, hh⟩ := rn_i rfl rfl rfl rfl hh
  have hh : pm_run PT n fr lo 190 (25, [some (.ref 162)], [.ref 162, .int (Fi h 162 5), .ref 162], fset h 162 27 (.int (cond (decide (r ≤ 0)) (Fi h 162 27) (nI 0))), 198, sl) = some R := hh
  obtain ⟨n, hh⟩ := rn_gi (x := nI r) (wt_fs rfl (by decide) rfl hw) rfl rfl (by decide) rfl (by decide) rfl ((Fi_n (Or.inr (by decide))).trans e20) hh
  have hh : pm_run PT n fr lo 190 (28, [some (.ref 162)], [.int (nI r), .int (Fi h 162 5), .ref 162], fset h 162 27 (.int (cond (decide (r ≤ 0)) (Fi h 162 27) (nI 0))), 198, sl) = some R := hh
  obtain ⟨n, hh⟩ := en_zn (cc := .le) (off := 7) (t := 35) (b := decide (r ≤ 0)) (hI_le (b := 0) (by omega) (by omega)) rfl rfl hh
  have hj4 : ∃ mJ, pm_run PT mJ fr lo 190 (cond (decide (r ≤ 0)) (36, [some (.ref 162)], [.int (nI 0), .int (Fi h 162 5), .ref 162], fset h 162 27 (.int (cond (decide (r ≤ 0)) (Fi h 162 27) (nI 0))), 198, sl) (36, [some (.ref 162)], [.int (nI 1), .int (Fi h 162 5), .ref 162], fset h 162 27 (.int (cond (decide (r ≤ 0)) (Fi h 162 27) (nI 0))), 198, sl)) = some R := en_J (fun z3 => by
      have hh := en_t z3 hh
      have hh : pm_run PT n fr lo 190 (35, [some (.ref 162)], [.int (Fi h 162 5), .ref 162], fset h 162 27 (.int (cond (decide (r ≤ 0)) (Fi h 162 27) (nI 0))), 198, sl) = some R := hh
      have y_z3 := of_decide_eq_true z3
      obtain ⟨n, hh⟩ := rn_i rfl rfl rfl rfl hh
      exact ⟨n, hh⟩) (fun z3 => by
      have hh := en_f z3 hh
      have hh : pm_run PT n fr lo 190 (31, [some (.ref 162)], [.int (Fi h 162 5), .ref 162], fset h 162 27 (.int (cond (decide (r ≤ 0)) (Fi h 162 27) (nI 0))), 198, sl) = some R := hh
      have y_z3 := of_decide_eq_false z3
      obtain ⟨n, hh⟩ := rn_i rfl rfl rfl rfl hh
      obtain ⟨n, hh⟩ := rn_i rfl rfl rfl rfl hh
      exact ⟨n, hh⟩)
  obtain ⟨n, hh⟩ := hj4
  rw [show (cond (decide (r ≤ 0)) (36, [some (.ref 162)], [.int (nI 0), .int (Fi h 162 5), .ref 162], fset h 162 27 (.int (cond (decide (r ≤ 0)) (Fi h 162 27) (nI 0))), 198, sl) (36, [some (.ref 162)], [.int (nI 1), .int (Fi h 162 5), .ref 162], fset h 162 27 (.int (cond (decide (r ≤ 0)) (Fi h 162 27) (nI 0))), 198, sl) : pm_St) = (36, [some (.ref 162)], [.int (cond (cond (decide (r ≤ 0)) false true) 1 0), .int (Fi h 162 5), .ref 162], fset h 162 27 (.int (cond (decide (r ≤ 0)) (Fi h 162 27) (nI 0))), 198, sl) from by cases (decide (r ≤ 0)) <;> rfl] at hh
  have hh : pm_run PT n fr lo 190 (36, [some (.ref 162)], [.int (cond (cond (decide (r ≤ 0)) false true) 1 0), .int (Fi h 162 5), .ref 162], fset h 162 27 (.int (cond (decide (r ≤ 0)) (Fi h 162 27) (nI 0))), 198, sl) = some R := hh
  obtain ⟨n, fr1, lo1, r1, hh1, hh⟩ := rn_call (w := 2) (t := 165) rfl rfl hh
  have er5 := rn_dt (F := 10) (Lo := 1000) (hd_flag (fr := 10) (lo := 1000) (h := fset h 162 27 (.int (cond (decide (r ≤ 0)) (Fi h 162 27) (nI 0)))) (sl := sl) (cond (decide (r ≤ 0)) false true)) hh1
  subst er5
  obtain ⟨n, hh⟩ := rn_i rfl rfl rfl rfl hh
  have hh : pm_run PT n fr lo 190 (40, [some (.ref 162)], [.int ((Fi h 162 5) + (cond (cond (decide (r ≤ 0)) false true) 1 0)), .ref 162], fset h 162 27 (.int (cond (decide (r ≤ 0)) (Fi h 162 27) (nI 0))), 198, sl) = some R := hh
  obtain ⟨n, hh⟩ := rn_pi (wt_fs rfl (by decide) rfl hw) rfl rfl (by decide) rfl (by decide) rfl hh
  have er6 : R = (none, fset (fset h 162 27 (.int (cond (decide (r ≤ 0)) (Fi h 162 27) (nI 0)))) 162 5 (.int ((Fi h 162 5) + (cond (cond (decide (r ≤ 0)) false true) 1 0))), 198, sl) := rn_vret rfl rfl hh
  have ed : w190 q cc gc h r = fset (fset h 162 27 (.int (cond (decide (r ≤ 0)) (Fi h 162 27) (nI 0)))) 162 5 (.int ((Fi h 162 5) + (cond (cond (decide (r ≤ 0)) false true) 1 0))) := rfl
  refine ⟨?_, ?_, ?_⟩ <;> rw [ed]
  · exact er6
  · exact (wt_fs rfl (by decide) rfl (wt_fs rfl (by decide) rfl hw))
  · exact (fr_f rfl rfl (fr_f rfl rfl fr_0))
def w188_112b (q : QT) (cc gc : Nat) (h : pm_H) (z162_20 : Nat) (z162_3 : Nat) (t1 : Int32) (t2 : Int32) (t3 : Int32) (t4 : Int32) (m5 : Nat) (i : Nat) : pm_H := aset h 165 30 (upd (Ar h 165) (5 * z162_3 + i) ((Ar h 173) (6 * m5 + 1 + i)))
def w188_112 (q : QT) (cc gc : Nat) (z162_20 : Nat) (z162_3 : Nat) (t1 : Int32) (t2 : Int32) (t3 : Int32) (t4 : Int32) (m5 : Nat) (j i : Nat) (a : pm_H) : pm_H := lp (fun i a => w188_112b q cc gc a z162_20 z162_3 t1 t2 t3 t4 m5 i) j i a
theorem w188_112_e {n fr lo sl cc gc : Nat} {q : QT} {h : pm_H} {R : pm_Rs} {z162_20 : Nat} {z162_3 : Nat} {t1 : Int32} {t2 : Int32} {t3 : Int32} {t4 : Int32} {m5 : Nat} {i : Nat} (hw : WT h) (h_m5 : m5 < 10000) (hz : z162_3 ≤ 6) (e20 : Fi h 162 20 = nI z162_20) (e3 : Fi h 162 3 = nI z162_3) (hi : 5 ≤ i) (hI : i < 1000000) (hh : pm_run PT n fr lo 188 (112, [some (.ref 162), some (.int t1), some (.int t2), some (.int t3), some (.int t4), some (.int (nI m5)), some (.int (nI i))], [], h, 198, sl) = some R) : ∃ m, pm_run PT m fr lo 188 (153, [some (.ref 162), some (.int t1), some (.int t2), some (.int t3), some (.int t4), some (.int (nI m5)), some (.int (nI i))], [], h, 198, sl) = some R := by
  obtain ⟨n, hh⟩ := rn_i rfl rfl rfl rfl hh
  obtain ⟨n, hh⟩ := rn_i rfl rfl rfl rfl hh
  have hh : pm_run PT n fr lo 188 (115, [some (.ref 162), some (.int t1), some (.int t2), some (.int t3), some (.int t4), some (.int (nI m5)), some (.int (nI i))], [.int (nI 5), .int (nI i)], h, 198, sl) = some R := hh
  obtain ⟨n, hh⟩ := en_cn (cc := .ge) (off := 38) (t := 153) (b := decide (5 ≤ i)) (hI_ge (by omega) (by omega)) rfl rfl hh
  have hh := en_t (show decide (5 ≤ i) = true from decide_eq_true (by omega)) hh
  have hh : pm_run PT n fr lo 188 (153, [some (.ref 162), some (.int t1), some (.int t2), some (.int t3), some (.int t4), some (.int (nI m5)), some (.int (nI i))], [], h, 198, sl) = some R := hh
  exact ⟨n, hh⟩
theorem w188_112_s {n fr lo sl cc gc : Nat} {q : QT} {h : pm_H} {R : pm_Rs} {z162_20 : Nat} {z162_3 : Nat} {t1 : Int32} {t2 : Int32} {t3 : Int32} {t4 : Int32} {m5 : Nat} {i : Nat} (hw : WT h) (h_m5 : m5 < 10000) (hz : z162_3 ≤ 6) (e20 : Fi h 162 20 = nI z162_20) (e3 : Fi h 162 3 = nI z162_3) (hi : i < 5) (hI : i < 1000000) (hh : pm_run PT n fr lo 188 (112, [some (.ref 162), some (.int t1), some (.int t2), some (.int t3), some (.int t4), some (.int (nI m5)), some (.int (nI i))], [], h, 198, sl) = some R) : ∃ m, WT ((w188_112b q cc gc h z162_20 z162_3 t1 t2 t3 t4 m5 i)) ∧ frm [165] [] h ((w188_112b q cc gc h z162_20 z162_3 t1 t2 t3 t4 m5 i)) ∧ Fi ((w188_112b q cc gc h z162_20 z162_3 t1 t2 t3 t4 m5 i)) 162 20 = nI z162_20 ∧ Fi ((w188_112b q cc gc h z162_20 z162_3 t1 t2 t3 t4 m5 i)) 162 3 = nI z162_3 ∧ pm_run PT m fr lo 188 (112, [some (.ref 162), some (.int t1), some (.int t2), some (.int t3), some (.int t4), some (.int (nI m5)), some (.int (nI (i + 1)))], [], (w188_112b q cc gc h z162_20 z162_3 t1 t2 t3 t4 m5 i), 198, sl) = some R := by
  obtain ⟨n, hh⟩ := rn_i rfl rfl rfl rfl hh
  obtain ⟨n, hh⟩ := rn_i rfl rfl rfl rfl hh
  have hh : pm_run PT n fr lo 188 (115, [some (.ref 162), some (.int t1), some (.int t2), some (.int t3), some (.int t4), some (.int (nI m5)), some (.int (nI i))], [.int (nI 5), .int (nI i)], h, 198, sl) = some R := hh
  obtain ⟨n, hh⟩ := en_cn (cc := .ge) (off := 38) (t := 153) (b := decide (5 ≤ i)) (hI_ge (by omega) (by omega)) rfl rfl hh
  have hh := en_f (show decide (5 ≤ i) = false from decide_eq_false (by omega)) hh
  have hh : pm_run PT n fr lo 188 (118, [some (.ref 162), some (.int t1), some (.int t2), some (.int t3), some (.int t4), some (.int (nI m5)), some (.int (nI i))], [], h, 198, sl) = some R := hh
  obtain ⟨n, hh⟩ := rn_i rfl rfl rfl rfl hh
  have hh : pm_run PT n fr lo 188 (119, [some (.ref 162), some (.int t1), some (.int t2), some (.int t3), some (.int t4), some (.int (nI m5)), some (.int (nI i))], [.ref 162], h, 198, sl) = some R := hh
  obtain ⟨n, hh⟩ := rn_gr hw rfl rfl (by decide) rfl (by decide) (show _ = some (2, ((165 : Nat) : Int), 1) from rfl) rfl hh
  obtain ⟨n, hh⟩ := rn_i rfl rfl rfl rfl hh
  obtain ⟨n, hh⟩ := rn_i rfl rfl rfl rfl hh
  have hh : pm_run PT n fr lo 188 (124, [some (.ref 162), some (.int t1), some (.int t2), some (.int t3), some (.int t4), some (.int (nI m5)), some (.int (nI i))], [.ref 162, .int (nI 5), .ref 165], h, 198, sl) = some R := hh
  obtain ⟨n, hh⟩ := rn_gi (x := nI z162_3) hw rfl rfl (by decide) rfl (by decide) rfl e3 hh
  have hh : pm_run PT n fr lo 188 (127, [some (.ref 162), some (.int t1), some (.int t2), some (.int t3), some (.int t4), some (.int (nI m5)), some (.int (nI i))], [.int (nI z162_3), .int (nI 5), .ref 165], h, 198, sl) = some R := hh
  obtain ⟨n, hh⟩ := en_mul rfl hh
  have hh : pm_run PT n fr lo 188 (128, [some (.ref 162), some (.int t1), some (.int t2), some (.int t3), some (.int t4), some (.int (nI m5)), some (.int (nI i))], [.int (nI (5 * z162_3)), .ref 165], h, 198, sl) = some R := hh
  obtain ⟨n, hh⟩ := rn_i rfl rfl rfl rfl hh
  have hh : pm_run PT n fr lo 188 (130, [some (.ref 162), some (.int t1), some (.int t2), some (.int t3), some (.int t4), some (.int (nI m5)), some (.int (nI i))], [.int (nI i), .int (nI (5 * z162_3)), .ref 165], h, 198, sl) = some R := hh
  obtain ⟨n, hh⟩ := en_add rfl hh
  have hh : pm_run PT n fr lo 188 (131, [some (.ref 162), some (.int t1), some (.int t2), some (.int t3), some (.int t4), some (.int (nI m5)), some (.int (nI i))], [.int (nI (5 * z162_3 + i)), .ref 165], h, 198, sl) = some R := hh
  obtain ⟨n, hh⟩ := rn_i rfl rfl rfl rfl hh
  have hh : pm_run PT n fr lo 188 (132, [some (.ref 162), some (.int t1), some (.int t2), some (.int t3), some (.int t4), some (.int (nI m5)), some (.int (nI i))], [.ref 162, .int (nI (5 * z162_3 + i)), .ref 165], h, 198, sl) = some R := hh
  obtain ⟨n, hh⟩ := rn_gr hw rfl rfl (by decide) rfl (by decide) (show _ = some (2, ((173 : Nat) : Int), 1) from rfl) rfl hh
  obtain ⟨n, hh⟩ := rn_i rfl rfl rfl rfl hh
  obtain ⟨n, hh⟩ := rn_i rfl rfl rfl rfl hh
  have hh : pm_run PT n fr lo 188 (139, [some (.ref 162), some (.int t1), some (.int t2), some (.int t3), some (.int t4), some (.int (nI m5)), some (.int (nI i))], [.int (nI m5), .int (nI 6), .ref 173, .int (nI (5 * z162_3 + i)), .ref 165], h, 198, sl) = some R := hh
  obtain ⟨n, hh⟩ := en_mul rfl hh
  have hh : pm_run PT n fr lo 188 (140, [some (.ref 162), some (.int t1), some (.int t2), some (.int t3), some (.int t4), some (.int (nI m5)), some (.int (nI i))], [.int (nI (6 * m5)), .ref 173, .int (nI (5 * z162_3 + i)), .ref 165], h, 198, sl) = some R := hh
  obtain ⟨n, hh⟩ := rn_i rfl rfl rfl rfl hh
  have hh : pm_run PT n fr lo 188 (141, [some (.ref 162), some (.int t1), some (.int t2), some (.int t3), some (.int t4), some (.int (nI m5)), some (.int (nI i))], [.int (nI 1), .int (nI (6 * m5)), .ref 173, .int (nI (5 * z162_3 + i)), .ref 165], h, 198, sl) = some R := hh
  obtain ⟨n, hh⟩ := en_add rfl hh
  have hh : pm_run PT n fr lo 188 (142, [some (.ref 162), some (.int t1), some (.int t2), some (.int t3), some (.int t4), some (.int (nI m5)), some (.int (nI i))], [.int (nI (6 * m5 + 1)), .ref 173, .int (nI (5 * z162_3 + i)), .ref 165], h, 198, sl) = some R := hh
  obtain ⟨n, hh⟩ := rn_i rfl rfl rfl rfl hh
  have hh : pm_run PT n fr lo 188 (144, [some (.ref 162), some (.int t1), some (.int t2), some (.int t3), some (.int t4), some (.int (nI m5)), some (.int (nI i))], [.int (nI i), .int (nI (6 * m5 + 1)), .ref 173, .int (nI (5 * z162_3 + i)), .ref 165], h, 198, sl) = some R := hh
  obtain ⟨n, hh⟩ := en_add rfl hh
  have hh : pm_run PT n fr lo 188 (145, [some (.ref 162), some (.int t1), some (.int t2), some (.int t3), some (.int t4), some (.int (nI m5)), some (.int (nI i))], [.int (nI (6 * m5 + 1 + i)), .ref 173, .int (nI (5 * z162_3 + i)), .ref 165], h, 198, sl) = some R := hh
  have hh : pm_run PT n fr lo 188 (145, [some (.ref 162), some (.int t1), some (.int t2), some (.int t3), some (.int t4), some (.int (nI m5)), some (.int (nI i))], [.int (nI (6 * m5 + 1 + i)), .ref 173, .int (nI (5 * z162_3 + i)), .ref 165], h, 198, sl) = some R := hh
  obtain ⟨n, hx3, hh⟩ := en_lu (t := 6 * m5 + 1 + i) (f := Ar h 173) (w := (Ar h 173) (6 * m5 + 1 + i)) (nI_clamp (by omega)) hw rfl (by decide) rfl (by decide) rfl (fun _ => rfl) hh
  have hh : pm_run PT n fr lo 188 (146, [some (.ref 162), some (.int t1), some (.int t2), some (.int t3), some (.int t4), some (.int (nI m5)), some (.int (nI i))], [.int ((Ar h 173) (6 * m5 + 1 + i)), .int (nI (5 * z162_3 + i)), .ref 165], h, 198, sl) = some R := hh
  obtain ⟨n, hx4, hh⟩ := en_st (t := 5 * z162_3 + i) (f := Ar h 165) (nI_clamp (by omega)) hw rfl (by decide) rfl (by decide) rfl hh
  have hh : pm_run PT n fr lo 188 (147, [some (.ref 162), some (.int t1), some (.int t2), some (.int t3), some (.int t4), some (.int (nI m5)), some (.int (nI i))], [], aset h 165 30 (upd (Ar h 165) (5 * z162_3 + i) ((Ar h 173) (6 * m5 + 1 + i))), 198, sl) = some R := hh
  obtain ⟨n, hh⟩ := en_inc (x := i) (c := 1) (j := 6) rfl rfl (by decide) hh
  have hh : pm_run PT n fr lo 188 (150, [some (.ref 162), some (.int t1), some (.int t2), some (.int t3), some (.int t4), some (.int (nI m5)), some (.int (nI (i + 1)))], [], aset h 165 30 (upd (Ar h 165) (5 * z162_3 + i) ((Ar h 173) (6 * m5 + 1 + i))), 198, sl) = some R := hh
  obtain ⟨n, hh⟩ := rn_i rfl rfl rfl rfl hh
  have ed : w188_112b q cc gc h z162_20 z162_3 t1 t2 t3 t4 m5 i = aset h 165 30 (upd (Ar h 165) (5 * z162_3 + i) ((Ar h 173) (6 * m5 + 1 + i))) := rfl
  rw [ed]
  exact ⟨n, (wt_as rfl hw), (fr_a rfl rfl fr_0), (show Fi (aset h 165 30 (upd (Ar h 165) (5 * z162_3 + i) ((Ar h 173) (6 * m5 + 1 + i)))) 162 20 = nI z162_20 from ((Fi_a (by decide)).trans e20)), (show Fi (aset h 165 30 (upd (Ar h 165) (5 * z162_3 + i) ((Ar h 173) (6 * m5 + 1 + i)))) 162 3 = nI z162_3 from ((Fi_a (by decide)).trans e3)), hh⟩
theorem w188_112_ok {fr lo sl cc gc : Nat} {q : QT} {R : pm_Rs} {z162_20 : Nat} {z162_3 : Nat} {t1 : Int32} {t2 : Int32} {t3 : Int32} {t4 : Int32} {m5 : Nat} : ∀ {j i : Nat} {h : pm_H} {n : Nat}, 5 - i = j → i + j < 1000000 → WT h → m5 < 10000 → z162_3 ≤ 6 → Fi h 162 20 = nI z162_20 → Fi h 162 3 = nI z162_3 → pm_run PT n fr lo 188 (112, [some (.ref 162), some (.int t1), some (.int t2), some (.int t3), some (.int t4), some (.int (nI m5)), some (.int (nI i))], [], h, 198, sl) = some R → ∃ m wc, WT ((w188_112 q cc gc z162_20 z162_3 t1 t2 t3 t4 m5 j i h)) ∧ frm [165] [] h ((w188_112 q cc gc z162_20 z162_3 t1 t2 t3 t4 m5 j i h)) ∧ Fi ((w188_112 q cc gc z162_20 z162_3 t1 t2 t3 t4 m5 j i h)) 162 20 = nI z162_20 ∧ Fi ((w188_112 q cc gc z162_20 z162_3 t1 t2 t3 t4 m5 j i h)) 162 3 = nI z162_3 ∧ pm_run PT m fr lo 188 (153, [some (.ref 162), some (.int t1), some (.int t2), some (.int t3), some (.int t4), some (.int (nI m5)), wc], [], (w188_112 q cc gc z162_20 z162_3 t1 t2 t3 t4 m5 j i h), 198, sl) = some R := by
  intro j
  induction j with
  | zero =>
    intro i h n e eI hw h_m5 hz e20 e3 hh
    obtain ⟨n, hh⟩ := w188_112_e (q := q) (cc := cc) (gc := gc) hw h_m5 hz e20 e3 (by omega) (by omega) hh
    exact ⟨n, _, hw, fr_0, e20, e3, hh⟩
  | succ j ih =>
    intro i h n e eI hw h_m5 hz e20 e3 hh
    obtain ⟨n, hc, hf, e20', e3', hh⟩ := w188_112_s (q := q) (cc := cc) (gc := gc) hw h_m5 hz e20 e3 (by omega) (by omega) hh
    obtain ⟨n, wc, hc2, hf2, e20'', e3'', hh⟩ := ih (by omega) (by omega) hc h_m5 hz e20' e3' hh
    exact ⟨n, wc, hc2, fr_t hf2 hf, e20'', e3'', hh⟩
theorem w188_112_fb {cc gc : Nat} {q : QT} {h : pm_H} {t1 : Int32} {t2 : Int32} {t3 : Int32} {t4 : Int32} {m5 : Nat} {z162_20 : Nat} {z162_3 : Nat} {i : Nat} (hw : WT h) : WT ((w188_112b q cc gc h z162_20 z162_3 t1 t2 t3 t4 m5 i)) ∧ frm [165] [] h ((w188_112b q cc gc h z162_20 z162_3 t1 t2 t3 t4 m5 i)) := by
  unfold w188_112b
  show WT (aset h 165 30 (upd (Ar h 165) (5 * z162_3 + i) ((Ar h 173) (6 * m5 + 1 + i)))) ∧ frm [165] [] h (aset h 165 30 (upd (Ar h 165) (5 * z162_3 + i) ((Ar h 173) (6 * m5 + 1 + i))))
  exact ⟨(wt_as rfl hw), (fr_a rfl rfl fr_0)⟩
theorem w188_112_fr {cc gc : Nat} {q : QT} {t1 : Int32} {t2 : Int32} {t3 : Int32} {t4 : Int32} {m5 : Nat} {z162_20 : Nat} {z162_3 : Nat} : ∀ {j i : Nat} {h : pm_H}, WT h → WT ((w188_112 q cc gc z162_20 z162_3 t1 t2 t3 t4 m5 j i h)) ∧ frm [165] [] h ((w188_112 q cc gc z162_20 z162_3 t1 t2 t3 t4 m5 j i h)) := by
  intro j
  induction j with
  | zero =>
    intro i h hw
    exact ⟨hw, fr_0⟩
  | succ j ih =>
    intro i h hw
    obtain ⟨a1, a2⟩ := w188_112_fb (i := i) (t1 := t1) (t2 := t2) (t3 := t3) (t4 := t4) (m5 := m5) (z162_20 := z162_20) (z162_3 := z162_3) hw
    obtain ⟨b1, b2⟩ := ih (i := i + 1) a1
    exact ⟨b1, fr_t b2 a2⟩
def w188_167b (q : QT) (cc gc : Nat) (h : pm_H) (z162_20 : Nat) (z162_3 : Nat) (t1 : Int32) (t2 : Int32) (t3 : Int32) (t4 : Int32) (m5 : Nat) (i : Nat) : pm_H := w189 q cc gc (w189 q cc gc h z162_3 i) i z162_3
def w188_167 (q : QT) (cc gc : Nat) (z162_20 : Nat) (z162_3 : Nat) (t1 : Int32) (t2 : Int32) (t3 : Int32) (t4 : Int32) (m5 : Nat) (j i : Nat) (a : pm_H) : pm_H := lp (fun i a => w188_167b q cc gc a z162_20 z162_3 t1 t2 t3 t4 m5 i) j i a
theorem w188_167_e {n fr lo sl cc gc : Nat} {q : QT} {h : pm_H} {R : pm_Rs} {z162_20 : Nat} {z162_3 : Nat} {t1 : Int32} {t2 : Int32} {t3 : Int32} {t4 : Int32} {m5 : Nat} {i : Nat} (hw : WT h) (h_m5 : m5 < 10000) (hz : z162_3 ≤ 6) (e20 : Fi h 162 20 = nI z162_20) (e3 : Fi h 162 3 = nI z162_3) (hi : 6 ≤ i) (hI : i < 1000000) (hh : pm_run PT n fr lo 188 (167, [some (.ref 162), some (.int t1), some (.int t2), some (.int t3), some (.int t4), some (.int (nI m5)), some (.int (nI i))], [], h, 198, sl) = some R) : ∃ m, pm_run PT m fr lo 188 (200, [some (.ref 162), some (.int t1), some (.int t2), some (.int t3), some (.int t4), some (.int (nI m5)), some (.int (nI i))], [], h, 198, sl) = some R := by
  obtain ⟨n, hh⟩ := rn_i rfl rfl rfl rfl hh
  obtain ⟨n, hh⟩ := rn_i rfl rfl rfl rfl hh
  have hh : pm_run PT n fr lo 188 (171, [some (.ref 162), some (.int t1), some (.int t2), some (.int t3), some (.int t4), some (.int (nI m5)), some (.int (nI i))], [.int (nI 6), .int (nI i)], h, 198, sl) = some R := hh
  obtain ⟨n, hh⟩ := en_cn (cc := .ge) (off := 29) (t := 200) (b := decide (6 ≤ i)) (hI_ge (by omega) (by omega)) rfl rfl hh
  have hh := en_t (show decide (6 ≤ i) = true from decide_eq_true (by omega)) hh
  have hh : pm_run PT n fr lo 188 (200, [some (.ref 162), some (.int t1), some (.int t2), some (.int t3), some (.int t4), some (.int (nI m5)), some (.int (nI i))], [], h, 198, sl) = some R := hh
  exact ⟨n, hh⟩
theorem w188_167_s {n fr lo sl cc gc : Nat} {q : QT} {h : pm_H} {R : pm_Rs} {z162_20 : Nat} {z162_3 : Nat} {t1 : Int32} {t2 : Int32} {t3 : Int32} {t4 : Int32} {m5 : Nat} {i : Nat} (hw : WT h) (h_m5 : m5 < 10000) (hz : z162_3 ≤ 6) (e20 : Fi h 162 20 = nI z162_20) (e3 : Fi h 162 3 = nI z162_3) (hi : i < 6) (hI : i < 1000000) (hh : pm_run PT n fr lo 188 (167, [some (.ref 162), some (.int t1), some (.int t2), some (.int t3), some (.int t4), some (.int (nI m5)), some (.int (nI i))], [], h, 198, sl) = some R) : ∃ m, WT ((w188_167b q cc gc h z162_20 z162_3 t1 t2 t3 t4 m5 i)) ∧ frm [169, 170] [] h ((w188_167b q cc gc h z162_20 z162_3 t1 t2 t3 t4 m5 i)) ∧ Fi ((w188_167b q cc gc h z162_20 z162_3 t1 t2 t3 t4 m5 i)) 162 20 = nI z162_20 ∧ Fi ((w188_167b q cc gc h z162_20 z162_3 t1 t2 t3 t4 m5 i)) 162 3 = nI z162_3 ∧ pm_run PT m fr lo 188 (167, [some (.ref 162), some (.int t1), some (.int t2), some (.int t3), some (.int t4), some (.int (nI m5)), some (.int (nI (i + 1)))], [], (w188_167b q cc gc h z162_20 z162_3 t1 t2 t3 t4 m5 i), 198, sl) = some R := by
  obtain ⟨n, hh⟩ := rn_i rfl rfl rfl rfl hh
  obtain ⟨n, hh⟩ := rn_i rfl rfl rfl rfl hh
  have hh : pm_run PT n fr lo 188 (171, [some (.ref 162), some (.int t1), some (.int t2), some (.int t3), some (.int t4), some (.int (nI m5)), some (.int (nI i))], [.int (nI 6), .int (nI i)], h, 198, sl) = some R := hh
  obtain ⟨n, hh⟩ := en_cn (cc := .ge) (off := 29) (t := 200) (b := decide (6 ≤ i)) (hI_ge (by omega) (by omega)) rfl rfl hh
  have hh := en_f (show decide (6 ≤ i) = false from decide_eq_false (by omega)) hh
  have hh : pm_run PT n fr lo 188 (174, [some (.ref 162), some (.int t1), some (.int t2), some (.int t3), some (.int t4), some (.int (nI m5)), some (.int (nI i))], [], h, 198, sl) = some R := hh
  obtain ⟨n, hh⟩ := rn_i rfl rfl rfl rfl hh
  obtain ⟨n, hh⟩ := rn_i rfl rfl rfl rfl hh
  have hh : pm_run PT n fr lo 188 (176, [some (.ref 162), some (.int t1), some (.int t2), some (.int t3), some (.int t4), some (.int (nI m5)), some (.int (nI i))], [.ref 162, .ref 162], h, 198, sl) = some R := hh
  obtain ⟨n, hh⟩ := rn_gi (x := nI z162_3) hw rfl rfl (by decide) rfl (by decide) rfl e3 hh
  obtain ⟨n, hh⟩ := rn_i rfl rfl rfl rfl hh
  have hh : pm_run PT n fr lo 188 (181, [some (.ref 162), some (.int t1), some (.int t2), some (.int t3), some (.int t4), some (.int (nI m5)), some (.int (nI i))], [.int (nI i), .int (nI z162_3), .ref 162], h, 198, sl) = some R := hh
  obtain ⟨n, fr1, lo1, r1, hh1, hh⟩ := rn_call (w := 0) (t := 189) rfl rfl hh
  obtain ⟨er9, hc10, hf11⟩ := w189_ok (q := q) (cc := cc) (gc := gc) (a := z162_3) (b := i) hw (by omega) (by omega) hh1
  subst er9
  obtain ⟨n, hh⟩ := rn_i rfl rfl rfl rfl hh
  obtain ⟨n, hh⟩ := rn_i rfl rfl rfl rfl hh
  obtain ⟨n, hh⟩ := rn_i rfl rfl rfl rfl hh
  have hh : pm_run PT n fr lo 188 (188, [some (.ref 162), some (.int t1), some (.int t2), some (.int t3), some (.int t4), some (.int (nI m5)), some (.int (nI i))], [.ref 162, .int (nI i), .ref 162], w189 q cc gc h z162_3 i, 198, sl) = some R := hh
  obtain ⟨n, hh⟩ := rn_gi (x := nI z162_3) hc10 rfl rfl (by decide) rfl (by decide) rfl ((hf11.2 162 3 (by decide +kernel) rfl).trans e3) hh
  have hh : pm_run PT n fr lo 188 (191, [some (.ref 162), some (.int t1), some (.int t2), some (.int t3), some (.int t4), some (.int (nI m5)), some (.int (nI i))], [.int (nI z162_3), .int (nI i), .ref 162], w189 q cc gc h z162_3 i, 198, sl) = some R := hh
  obtain ⟨n, fr1, lo1, r1, hh1, hh⟩ := rn_call (w := 0) (t := 189) rfl rfl hh
  obtain ⟨er12, hc13, hf14⟩ := w189_ok (q := q) (cc := cc) (gc := gc) (a := i) (b := z162_3) hc10 (by omega) (by omega) hh1
  subst er12
  have hh : pm_run PT n fr lo 188 (194, [some (.ref 162), some (.int t1), some (.int t2), some (.int t3), some (.int t4), some (.int (nI m5)), some (.int (nI i))], [], w189 q cc gc (w189 q cc gc h z162_3 i) i z162_3, 198, sl) = some R := hh
  obtain ⟨n, hh⟩ := en_inc (x := i) (c := 1) (j := 6) rfl rfl (by decide) hh
  have hh : pm_run PT n fr lo 188 (197, [some (.ref 162), some (.int t1), some (.int t2), some (.int t3), some (.int t4), some (.int (nI m5)), some (.int (nI (i + 1)))], [], w189 q cc gc (w189 q cc gc h z162_3 i) i z162_3, 198, sl) = some R := hh
  obtain ⟨n, hh⟩ := rn_i rfl rfl rfl rfl hh
  have ed : w188_167b q cc gc h z162_20 z162_3 t1 t2 t3 t4 m5 i = w189 q cc gc (w189 q cc gc h z162_3 i) i z162_3 := rfl
  rw [ed]
  exact ⟨n, hc13, (fr_g rfl rfl hf14 (fr_g rfl rfl hf11 fr_0)), (show Fi (w189 q cc gc (w189 q cc gc h z162_3 i) i z162_3) 162 20 = nI z162_20 from ((hf14.2 162 20 (by decide +kernel) rfl).trans ((hf11.2 162 20 (by decide +kernel) rfl).trans e20))), (show Fi (w189 q cc gc (w189 q cc gc h z162_3 i) i z162_3) 162 3 = nI z162_3 from ((hf14.2 162 3 (by decide +kernel) rfl).trans ((hf11.2 162 3 (by decide +kernel) rfl).trans e3))), hh⟩
theorem w188_167_ok {fr lo sl cc gc : Nat} {q : QT} {R : pm_Rs} {z162_20 : Nat} {z162_3 : Nat} {t1 : Int32} {t2 : Int32} {t3 : Int32} {t4 : Int32} {m5 : Nat} : ∀ {j i : Nat} {h : pm_H} {n : Nat}, 6 - i = j → i + j < 1000000 → WT h → m5 < 10000 → z162_3 ≤ 6 → Fi h 162 20 = nI z162_20 → Fi h 162 3 = nI z162_3 → pm_run PT n fr lo 188 (167, [some (.ref 162), some (.int t1), some (.int t2), some (.int t3), some (.int t4), some (.int (nI m5)), some (.int (nI i))], [], h, 198, sl) = some R → ∃ m wc, WT ((w188_167 q cc gc z162_20 z162_3 t1 t2 t3 t4 m5 j i h)) ∧ frm [169, 170] [] h ((w188_167 q cc gc z162_20 z162_3 t1 t2 t3 t4 m5 j i h)) ∧ Fi ((w188_167 q cc gc z162_20 z162_3 t1 t2 t3 t4 m5 j i h)) 162 20 = nI z162_20 ∧ Fi ((w188_167 q cc gc z162_20 z162_3 t1 t2 t3 t4 m5 j i h)) 162 3 = nI z162_3 ∧ pm_run PT m fr lo 188 (200, [some (.ref 162), some (.int t1), some (.int t2), some (.int t3), some (.int t4), some (.int (nI m5)), wc], [], (w188_167 q cc gc z162_20 z162_3 t1 t2 t3 t4 m5 j i h), 198, sl) = some R := by
  intro j
  induction j with
  | zero =>
    intro i h n e eI hw h_m5 hz e20 e3 hh
    obtain ⟨n, hh⟩ := w188_167_e (q := q) (cc := cc) (gc := gc) hw h_m5 hz e20 e3 (by omega) (by omega) hh
    exact ⟨n, _, hw, fr_0, e20, e3, hh⟩
  | succ j ih =>
    intro i h n e eI hw h_m5 hz e20 e3 hh
    obtain ⟨n, hc, hf, e20', e3', hh⟩ := w188_167_s (q := q) (cc := cc) (gc := gc) hw h_m5 hz e20 e3 (by omega) (by omega) hh
    obtain ⟨n, wc, hc2, hf2, e20'', e3'', hh⟩ := ih (by omega) (by omega) hc h_m5 hz e20' e3' hh
    exact ⟨n, wc, hc2, fr_t hf2 hf, e20'', e3'', hh⟩
theorem w188_167_fb {cc gc : Nat} {q : QT} {h : pm_H} {t1 : Int32} {t2 : Int32} {t3 : Int32} {t4 : Int32} {m5 : Nat} {z162_20 : Nat} {z162_3 : Nat} {i : Nat} (hw : WT h) : WT ((w188_167b q cc gc h z162_20 z162_3 t1 t2 t3 t4 m5 i)) ∧ frm [169, 170] [] h ((w188_167b q cc gc h z162_20 z162_3 t1 t2 t3 t4 m5 i)) := by
  unfold w188_167b
  show WT (w189 q cc gc (w189 q cc gc h z162_3 i) i z162_3) ∧ frm [169, 170] [] h (w189 q cc gc (w189 q cc gc h z162_3 i) i z162_3)
  exact ⟨(w189_fr (a := i) (b := z162_3) (w189_fr (a := z162_3) (b := i) hw).1).1, (fr_g rfl rfl (w189_fr (a := i) (b := z162_3) (w189_fr (a := z162_3) (b := i) hw).1).2 (fr_g rfl rfl (w189_fr (a := z162_3) (b := i) hw).2 fr_0))⟩
theorem w188_167_fr {cc gc : Nat} {q : QT} {t1 : Int32} {t2 : Int32} {t3 : Int32} {t4 : Int32} {m5 : Nat} {z162_20 : Nat} {z162_3 : Nat} : ∀ {j i : Nat} {h : pm_H}, WT h → WT ((w188_167 q cc gc z162_20 z162_3 t1 t2 t3 t4 m5 j i h)) ∧ frm [169, 170] [] h ((w188_167 q cc gc z162_20 z162_3 t1 t2 t3 t4 m5 j i h)) := by
  intro j
  induction j with
  | zero =>
    intro i h hw
    exact ⟨hw, fr_0⟩
  | succ j ih =>
    intro i h hw
    obtain ⟨a1, a2⟩ := w188_167_fb (i := i) (t1 := t1) (t2 := t2) (t3 := t3) (t4 := t4) (m5 := m5) (z162_20 := z162_20) (z162_3 := z162_3) hw
    obtain ⟨b1, b2⟩ := ih (i := i + 1) a1
    exact ⟨b1, fr_t b2 a2⟩
def w188_81b (q : QT) (cc gc : Nat) (h : pm_H) (z162_20 : Nat) (z162_3 : Nat) (t1 : Int32) (t2 : Int32) (t3 : Int32) (t4 : Int32) (i : Nat) : pm_H := fset (w188_167 q cc gc z162_20 (z162_3 + i) t1 t2 t3 t4 i 6 0 (aset (w188_112 q cc gc z162_20 (z162_3 + i) t1 t2 t3 t4 i 5 0 (aset h 164 6 (upd (Ar h 164) (z162_3 + i) ((Ar h 173) (6 * i))))) 170 96 (upd (Ar h 170) (z162_3 + i) (nI 50)))) 162 3 (.int (nI (z162_3 + i + 1)))
def w188_81 (q : QT) (cc gc : Nat) (z162_20 : Nat) (z162_3 : Nat) (t1 : Int32) (t2 : Int32) (t3 : Int32) (t4 : Int32) (j i : Nat) (a : pm_H) : pm_H := lp (fun i a => w188_81b q cc gc a z162_20 z162_3 t1 t2 t3 t4 i) j i a
theorem w188_81_e {n fr lo sl cc gc : Nat} {q : QT} {h : pm_H} {R : pm_Rs} {z162_20 : Nat} {z162_3 : Nat} {t1 : Int32} {t2 : Int32} {t3 : Int32} {t4 : Int32} {i : Nat} {o6 : Option Value} (hw : WT h) (hz : z162_3 + z162_20 ≤ 6) (e20 : Fi h 162 20 = nI z162_20) (e3 : Fi h 162 3 = nI (z162_3 + i)) (hi : z162_20 ≤ i) (hI : i < 1000000) (hh : pm_run PT n fr lo 188 (81, [some (.ref 162), some (.int t1), some (.int t2), some (.int t3), some (.int t4), some (.int (nI i)), o6], [], h, 198, sl) = some R) : ∃ m, pm_run PT m fr lo 188 (216, [some (.ref 162), some (.int t1), some (.int t2), some (.int t3), some (.int t4), some (.int (nI i)), o6], [], h, 198, sl) = some R := by
  obtain ⟨n, hh⟩ := rn_i rfl rfl rfl rfl hh
  obtain ⟨n, hh⟩ := rn_i rfl rfl rfl rfl hh
  have hh : pm_run PT n fr lo 188 (84, [some (.ref 162), some (.int t1), some (.int t2), some (.int t3), some (.int t4), some (.int (nI i)), o6], [.ref 162, .int (nI i)], h, 198, sl) = some R := hh
  obtain ⟨n, hh⟩ := rn_gi (x := nI z162_20) hw rfl rfl (by decide) rfl (by decide) rfl e20 hh
  have hh : pm_run PT n fr lo 188 (87, [some (.ref 162), some (.int t1), some (.int t2), some (.int t3), some (.int t4), some (.int (nI i)), o6], [.int (nI z162_20), .int (nI i)], h, 198, sl) = some R := hh
  obtain ⟨n, hh⟩ := en_cn (cc := .ge) (off := 129) (t := 216) (b := decide (z162_20 ≤ i)) (hI_ge (by omega) (by omega)) rfl rfl hh
  have hh := en_t (show decide (z162_20 ≤ i) = true from decide_eq_true (by omega)) hh
  have hh : pm_run PT n fr lo 188 (216, [some (.ref 162), some (.int t1), some (.int t2), some (.int t3), some (.int t4), some (.int (nI i)), o6], [], h, 198, sl) = some R := hh
  exact ⟨n, hh⟩
theorem w188_81_s {n fr lo sl cc gc : Nat} {q : QT} {h : pm_H} {R : pm_Rs} {z162_20 : Nat} {z162_3 : Nat} {t1 : Int32} {t2 : Int32} {t3 : Int32} {t4 : Int32} {i : Nat} {o6 : Option Value} (hw : WT h) (hz : z162_3 + z162_20 ≤ 6) (e20 : Fi h 162 20 = nI z162_20) (e3 : Fi h 162 3 = nI (z162_3 + i)) (hi : i < z162_20) (hI : i < 1000000) (hh : pm_run PT n fr lo 188 (81, [some (.ref 162), some (.int t1), some (.int t2), some (.int t3), some (.int t4), some (.int (nI i)), o6], [], h, 198, sl) = some R) : ∃ m w6, WT ((w188_81b q cc gc h z162_20 z162_3 t1 t2 t3 t4 i)) ∧ frm [162, 164, 165, 169, 170] [(162, 3)] h ((w188_81b q cc gc h z162_20 z162_3 t1 t2 t3 t4 i)) ∧ Fi ((w188_81b q cc gc h z162_20 z162_3 t1 t2 t3 t4 i)) 162 20 = nI z162_20 ∧ Fi ((w188_81b q cc gc h z162_20 z162_3 t1 t2 t3 t4 i)) 162 3 = nI (z162_3 + (i + 1)) ∧ pm_run PT m fr lo 188 (81, [some (.ref 162), some (.int t1), some (.int t2), some (.int t3), some (.int t4), some (.int (nI (i + 1))), w6], [], (w188_81b q cc gc h z162_20 z162_3 t1 t2 t3 t4 i), 198, sl) = some R := by
  obtain ⟨n, hh⟩ := rn_i rfl rfl rfl rfl hh
  obtain ⟨n, hh⟩ := rn_i rfl rfl rfl rfl hh
  have hh : pm_run PT n fr lo 188 (84, [some (.ref 162), some (.int t1), some (.int t2), some (.int t3), some (.int t4), some (.int (nI i)), o6], [.ref 162, .int (nI i)], h, 198, sl) = some R := hh
  obtain ⟨n, hh⟩ := rn_gi (x := nI z162_20) hw rfl rfl (by decide) rfl (by decide) rfl e20 hh
  have hh : pm_run PT n fr lo 188 (87, [some (.ref 162), some (.int t1), some (.int t2), some (.int t3), some (.int t4), some (.int (nI i)), o6], [.int (nI z162_20), .int (nI i)], h, 198, sl) = some R := hh
  obtain ⟨n, hh⟩ := en_cn (cc := .ge) (off := 129) (t := 216) (b := decide (z162_20 ≤ i)) (hI_ge (by omega) (by omega)) rfl rfl hh
  have hh := en_f (show decide (z162_20 ≤ i) = false from decide_eq_false (by omega)) hh
  have hh : pm_run PT n fr lo 188 (90, [some (.ref 162), some (.int t1), some (.int t2), some (.int t3), some (.int t4), some (.int (nI i)), o6], [], h, 198, sl) = some R := hh
  obtain ⟨n, hh⟩ := rn_i rfl rfl rfl rfl hh
  have hh : pm_run PT n fr lo 188 (91, [some (.ref 162), some (.int t1), some (.int t2), some (.int t3), some (.int t4), some (.int (nI i)), o6], [.ref 162], h, 198, sl) = some R := hh
  obtain ⟨n, hh⟩ := rn_gr hw rfl rfl (by decide) rfl (by decide) (show _ = some (2, ((164 : Nat) : Int), 1) from rfl) rfl hh
  obtain ⟨n, hh⟩ := rn_i rfl rfl rfl rfl hh
  have hh : pm_run PT n fr lo 188 (95, [some (.ref 162), some (.int t1), some (.int t2), some (.int t3), some (.int t4), some (.int (nI i)), o6], [.ref 162, .ref 164], h, 198, sl) = some R := hh
  obtain ⟨n, hh⟩ := rn_gi (x := nI (z162_3 + i)) hw rfl rfl (by decide) rfl (by decide) rfl e3 hh
  obtain ⟨n, hh⟩ := rn_i rfl rfl rfl rfl hh
  have hh : pm_run PT n fr lo 188 (99, [some (.ref 162), some (.int t1), some (.int t2), some (.int t3), some (.int t4), some (.int (nI i)), o6], [.ref 162, .int (nI (z162_3 + i)), .ref 164], h, 198, sl) = some R := hh
  obtain ⟨n, hh⟩ := rn_gr hw rfl rfl (by decide) rfl (by decide) (show _ = some (2, ((173 : Nat) : Int), 1) from rfl) rfl hh
  obtain ⟨n, hh⟩ := rn_i rfl rfl rfl rfl hh
  obtain ⟨n, hh⟩ := rn_i rfl rfl rfl rfl hh
  have hh : pm_run PT n fr lo 188 (106, [some (.ref 162), some (.int t1), some (.int t2), some (.int t3), some (.int t4), some (.int (nI i)), o6], [.int (nI i), .int (nI 6), .ref 173, .int (nI (z162_3 + i)), .ref 164], h, 198, sl) = some R := hh
  obtain ⟨n, hh⟩ := en_mul rfl hh
  have hh : pm_run PT n fr lo 188 (107, [some (.ref 162), some (.int t1), some (.int t2), some (.int t3), some (.int t4), some (.int (nI i)), o6], [.int (nI (6 * i)), .ref 173, .int (nI (z162_3 + i)), .ref 164], h, 198, sl) = some R := hh
  have hh : pm_run PT n fr lo 188 (107, [some (.ref 162), some (.int t1), some (.int t2), some (.int t3), some (.int t4), some (.int (nI i)), o6], [.int (nI (6 * i)), .ref 173, .int (nI (z162_3 + i)), .ref 164], h, 198, sl) = some R := hh
  obtain ⟨n, hx1, hh⟩ := en_lu (t := 6 * i) (f := Ar h 173) (w := (Ar h 173) (6 * i)) (nI_clamp (by omega)) hw rfl (by decide) rfl (by decide) rfl (fun _ => rfl) hh
  have hh : pm_run PT n fr lo 188 (108, [some (.ref 162), some (.int t1), some (.int t2), some (.int t3), some (.int t4), some (.int (nI i)), o6], [.int ((Ar h 173) (6 * i)), .int (nI (z162_3 + i)), .ref 164], h, 198, sl) = some R := hh
  obtain ⟨n, hx2, hh⟩ := en_st (t := z162_3 + i) (f := Ar h 164) (nI_clamp (by omega)) hw rfl (by decide) rfl (by decide) rfl hh
  obtain ⟨n, hh⟩ := rn_i rfl rfl rfl rfl hh
  obtain ⟨n, hh⟩ := rn_i rfl rfl rfl rfl hh
  have hh : pm_run PT n fr lo 188 (112, [some (.ref 162), some (.int t1), some (.int t2), some (.int t3), some (.int t4), some (.int (nI i)), some (.int (nI 0))], [], aset h 164 6 (upd (Ar h 164) (z162_3 + i) ((Ar h 173) (6 * i))), 198, sl) = some R := hh
  obtain ⟨n, u3, hc6, hf7, hn4, hn5, hh⟩ := w188_112_ok (q := q) (cc := cc) (gc := gc) (t1 := t1) (t2 := t2) (t3 := t3) (t4 := t4) (m5 := i)  (z162_20 := z162_20) (z162_3 := z162_3 + i) (i := 0) (j := 5) (by omega) (by omega) (wt_as rfl hw) (by omega) (by omega) (show Fi (aset h 164 6 (upd (Ar h 164) (z162_3 + i) ((Ar h 173) (6 * i)))) 162 20 = nI z162_20 from ((Fi_a (by decide)).trans e20)) (show Fi (aset h 164 6 (upd (Ar h 164) (z162_3 + i) ((Ar h 173) (6 * i)))) 162 3 = nI (z162_3 + i) from ((Fi_a (by decide)).trans e3)) hh
  have hh : pm_run PT n fr lo 188 (153, [some (.ref 162), some (.int t1), some (.int t2), some (.int t3), some (.int t4), some (.int (nI i)), u3], [], (w188_112 q cc gc z162_20 (z162_3 + i) t1 t2 t3 t4 i 5 0 (aset h 164 6 (upd (Ar h 164) (z162_3 + i) ((Ar h 173) (6 * i))))), 198, sl) = some R := hh
  obtain ⟨n, hh⟩ := rn_i rfl rfl rfl rfl hh
  have hh : pm_run PT n fr lo 188 (154, [some (.ref 162), some (.int t1), some (.int t2), some (.int t3), some (.int t4), some (.int (nI i)), u3], [.ref 162], (w188_112 q cc gc z162_20 (z162_3 + i) t1 t2 t3 t4 i 5 0 (aset h 164 6 (upd (Ar h 164) (z162_3 + i) ((Ar h 173) (6 * i))))), 198, sl) = some R := hh
  obtain ⟨n, hh⟩ := rn_gr hc6 rfl rfl (by decide) rfl (by decide) (show _ = some (2, ((170 : Nat) : Int), 1) from rfl) rfl hh
  obtain ⟨n, hh⟩ := rn_i rfl rfl rfl rfl hh
  have hh : pm_run PT n fr lo 188 (158, [some (.ref 162), some (.int t1), some (.int t2), some (.int t3), some (.int t4), some (.int (nI i)), u3], [.ref 162, .ref 170], (w188_112 q cc gc z162_20 (z162_3 + i) t1 t2 t3 t4 i 5 0 (aset h 164 6 (upd (Ar h 164) (z162_3 + i) ((Ar h 173) (6 * i))))), 198, sl) = some R := hh
  obtain ⟨n, hh⟩ := rn_gi (x := nI (z162_3 + i)) hc6 rfl rfl (by decide) rfl (by decide) rfl hn5 hh
  obtain ⟨n, hh⟩ := rn_i rfl rfl rfl rfl hh
  have hh : pm_run PT n fr lo 188 (163, [some (.ref 162), some (.int t1), some (.int t2), some (.int t3), some (.int t4), some (.int (nI i)), u3], [.int (nI 50), .int (nI (z162_3 + i)), .ref 170], (w188_112 q cc gc z162_20 (z162_3 + i) t1 t2 t3 t4 i 5 0 (aset h 164 6 (upd (Ar h 164) (z162_3 + i) ((Ar h 173) (6 * i))))), 198, sl) = some R := hh
  obtain ⟨n, hx8, hh⟩ := en_st (t := z162_3 + i) (f := Ar h 170) (nI_clamp (by omega)) hc6 rfl (by decide) rfl (by decide) ((Ar_e (hf7.1 170 rfl)).trans ((Ar_n (by decide)).trans rfl)) hh
  obtain ⟨n, hh⟩ := rn_i rfl rfl rfl rfl hh
  obtain ⟨n, hh⟩ := rn_i rfl rfl rfl rfl hh
  have hh : pm_run PT n fr lo 188 (167, [some (.ref 162), some (.int t1), some (.int t2), some (.int t3), some (.int t4), some (.int (nI i)), some (.int (nI 0))], [], aset (w188_112 q cc gc z162_20 (z162_3 + i) t1 t2 t3 t4 i 5 0 (aset h 164 6 (upd (Ar h 164) (z162_3 + i) ((Ar h 173) (6 * i))))) 170 96 (upd (Ar h 170) (z162_3 + i) (nI 50)), 198, sl) = some R := hh
  obtain ⟨n, u9, hc12, hf13, hn10, hn11, hh⟩ := w188_167_ok (q := q) (cc := cc) (gc := gc) (t1 := t1) (t2 := t2) (t3 := t3) (t4 := t4) (m5 := i)  (z162_20 := z162_20) (z162_3 := z162_3 + i) (i := 0) (j := 6) (by omega) (by omega) (wt_as rfl hc6) (by omega) (by omega) (show Fi (aset (w188_112 q cc gc z162_20 (z162_3 + i) t1 t2 t3 t4 i 5 0 (aset h 164 6 (upd (Ar h 164) (z162_3 + i) ((Ar h 173) (6 * i))))) 170 96 (upd (Ar h 170) (z162_3 + i) (nI 50))) 162 20 = nI z162_20 from ((Fi_a (by decide)).trans hn4)) (show Fi (aset (w188_112 q cc gc z162_20 (z162_3 + i) t1 t2 t3 t4 i 5 0 (aset h 164 6 (upd (Ar h 164) (z162_3 + i) ((Ar h 173) (6 * i))))) 170 96 (upd (Ar h 170) (z162_3 + i) (nI 50))) 162 3 = nI (z162_3 + i) from ((Fi_a (by decide)).trans hn5)) hh
  have hh : pm_run PT n fr lo 188 (200, [some (.ref 162), some (.int t1), some (.int t2), some (.int t3), some (.int t4), some (.int (nI i)), u9], [], (w188_167 q cc gc z162_20 (z162_3 + i) t1 t2 t3 t4 i 6 0 (aset (w188_112 q cc gc z162_20 (z162_3 + i) t1 t2 t3 t4 i 5 0 (aset h 164 6 (upd (Ar h 164) (z162_3 + i) ((Ar h 173) (6 * i))))) 170 96 (upd (Ar h 170) (z162_3 + i) (nI 50)))), 198, sl) = some R := hh
  obtain ⟨n, hh⟩ := rn_i rfl rfl rfl rfl hh
  obtain ⟨n, hh⟩ := rn_i rfl rfl rfl rfl hh
  have hh : pm_run PT n fr lo 188 (202, [some (.ref 162), some (.int t1), some (.int t2), some (.int t3), some (.int t4), some (.int (nI i)), u9], [.ref 162, .ref 162], (w188_167 q cc gc z162_20 (z162_3 + i) t1 t2 t3 t4 i 6 0 (aset (w188_112 q cc gc z162_20 (z162_3 + i) t1 t2 t3 t4 i 5 0 (aset h 164 6 (upd (Ar h 164) (z162_3 + i) ((Ar h 173) (6 * i))))) 170 96 (upd (Ar h 170) (z162_3 + i) (nI 50)))), 198, sl) = some R := hh
  obtain ⟨n, hh⟩ := rn_gi (x := nI (z162_3 + i)) hc12 rfl rfl (by decide) rfl (by decide) rfl hn11 hh
  obtain ⟨n, hh⟩ := rn_i rfl rfl rfl rfl hh
  have hh : pm_run PT n fr lo 188 (206, [some (.ref 162), some (.int t1), some (.int t2), some (.int t3), some (.int t4), some (.int (nI i)), u9], [.int (nI 1), .int (nI (z162_3 + i)), .ref 162], (w188_167 q cc gc z162_20 (z162_3 + i) t1 t2 t3 t4 i 6 0 (aset (w188_112 q cc gc z162_20 (z162_3 + i) t1 t2 t3 t4 i 5 0 (aset h 164 6 (upd (Ar h 164) (z162_3 + i) ((Ar h 173) (6 * i))))) 170 96 (upd (Ar h 170) (z162_3 + i) (nI 50)))), 198, sl) = some R := hh
  obtain ⟨n, hh⟩ := en_add rfl hh
  have hh : pm_run PT n fr lo 188 (207, [some (.ref 162), some (.int t1), some (.int t2), some (.int t3), some (.int t4), some (.int (nI i)), u9], [.int (nI (z162_3 + i + 1)), .ref 162], (w188_167 q cc gc z162_20 (z162_3 + i) t1 t2 t3 t4 i 6 0 (aset (w188_112 q cc gc z162_20 (z162_3 + i) t1 t2 t3 t4 i 5 0 (aset h 164 6 (upd (Ar h 164) (z162_3 + i) ((Ar h 173) (6 * i))))) 170 96 (upd (Ar h 170) (z162_3 + i) (nI 50)))), 198, sl) = some R := hh
  have hh : pm_run PT n fr lo 188 (207, [some (.ref 162), some (.int t1), some (.int t2), some (.int t3), some (.int t4), some (.int (nI i)), u9], [.int (nI (z162_3 + i + 1)), .ref 162], (w188_167 q cc gc z162_20 (z162_3 + i) t1 t2 t3 t4 i 6 0 (aset (w188_112 q cc gc z162_20 (z162_3 + i) t1 t2 t3 t4 i 5 0 (aset h 164 6 (upd (Ar h 164) (z162_3 + i) ((Ar h 173) (6 * i))))) 170 96 (upd (Ar h 170) (z162_3 + i) (nI 50)))), 198, sl) = some R := hh
  obtain ⟨n, hh⟩ := rn_pi hc12 rfl rfl (by decide) rfl (by decide) rfl hh
  have hh : pm_run PT n fr lo 188 (210, [some (.ref 162), some (.int t1), some (.int t2), some (.int t3), some (.int t4), some (.int (nI i)), u9], [], fset (w188_167 q cc gc z162_20 (z162_3 + i) t1 t2 t3 t4 i 6 0 (aset (w188_112 q cc gc z162_20 (z162_3 + i) t1 t2 t3 t4 i 5 0 (aset h 164 6 (upd (Ar h 164) (z162_3 + i) ((Ar h 173) (6 * i))))) 170 96 (upd (Ar h 170) (z162_3 + i) (nI 50)))) 162 3 (.int (nI (z162_3 + i + 1))), 198, sl) = some R := hh
  obtain ⟨n, hh⟩ := en_inc (x := i) (c := 1) (j := 5) rfl rfl (by decide) hh
  have hh : pm_run PT n fr lo 188 (213, [some (.ref 162), some (.int t1), some (.int t2), some (.int t3), some (.int t4), some (.int (nI (i + 1))), u9], [], fset (w188_167 q cc gc z162_20 (z162_3 + i) t1 t2 t3 t4 i 6 0 (aset (w188_112 q cc gc z162_20 (z162_3 + i) t1 t2 t3 t4 i 5 0 (aset h 164 6 (upd (Ar h 164) (z162_3 + i) ((Ar h 173) (6 * i))))) 170 96 (upd (Ar h 170) (z162_3 + i) (nI 50)))) 162 3 (.int (nI (z162_3 + i + 1))), 198, sl) = some R := hh
  obtain ⟨n, hh⟩ := rn_i rfl rfl rfl rfl hh
  have ed : w188_81b q cc gc h z162_20 z162_3 t1 t2 t3 t4 i = fset (w188_167 q cc gc z162_20 (z162_3 + i) t1 t2 t3 t4 i 6 0 (aset (w188_112 q cc gc z162_20 (z162_3 + i) t1 t2 t3 t4 i 5 0 (aset h 164 6 (upd (Ar h 164) (z162_3 + i) ((Ar h 173) (6 * i))))) 170 96 (upd (Ar h 170) (z162_3 + i) (nI 50)))) 162 3 (.int (nI (z162_3 + i + 1))) := rfl
  rw [ed]
  exact ⟨n, u9, (wt_fs rfl (by decide) rfl hc12), (fr_f rfl rfl (fr_g rfl rfl hf13 (fr_a rfl rfl (fr_g rfl rfl hf7 (fr_a rfl rfl fr_0))))), (show Fi (fset (w188_167 q cc gc z162_20 (z162_3 + i) t1 t2 t3 t4 i 6 0 (aset (w188_112 q cc gc z162_20 (z162_3 + i) t1 t2 t3 t4 i 5 0 (aset h 164 6 (upd (Ar h 164) (z162_3 + i) ((Ar h 173) (6 * i))))) 170 96 (upd (Ar h 170) (z162_3 + i) (nI 50)))) 162 3 (.int (nI (z162_3 + i + 1)))) 162 20 = nI z162_20 from ((Fi_n (Or.inr (by decide))).trans hn10)), (show Fi (fset (w188_167 q cc gc z162_20 (z162_3 + i) t1 t2 t3 t4 i 6 0 (aset (w188_112 q cc gc z162_20 (z162_3 + i) t1 t2 t3 t4 i 5 0 (aset h 164 6 (upd (Ar h 164) (z162_3 + i) ((Ar h 173) (6 * i))))) 170 96 (upd (Ar h 170) (z162_3 + i) (nI 50)))) 162 3 (.int (nI (z162_3 + i + 1)))) 162 3 = nI (z162_3 + (i + 1)) from (Fi_s hc12 (by decide) rfl (by decide) rfl)), hh⟩
theorem w188_81_ok {fr lo sl cc gc : Nat} {q : QT} {R : pm_Rs} {z162_20 : Nat} {z162_3 : Nat} {t1 : Int32} {t2 : Int32} {t3 : Int32} {t4 : Int32} : ∀ {j i : Nat} {o6 : Option Value} {h : pm_H} {n : Nat}, z162_20 - i = j → i + j < 1000000 → WT h → z162_3 + z162_20 ≤ 6 → i ≤ z162_20 → Fi h 162 20 = nI z162_20 → Fi h 162 3 = nI (z162_3 + i) → pm_run PT n fr lo 188 (81, [some (.ref 162), some (.int t1), some (.int t2), some (.int t3), some (.int t4), some (.int (nI i)), o6], [], h, 198, sl) = some R → ∃ m wc w6, WT ((w188_81 q cc gc z162_20 z162_3 t1 t2 t3 t4 j i h)) ∧ frm [162, 164, 165, 169, 170] [(162, 3)] h ((w188_81 q cc gc z162_20 z162_3 t1 t2 t3 t4 j i h)) ∧ Fi ((w188_81 q cc gc z162_20 z162_3 t1 t2 t3 t4 j i h)) 162 20 = nI z162_20 ∧ Fi ((w188_81 q cc gc z162_20 z162_3 t1 t2 t3 t4 j i h)) 162 3 = nI (z162_3 + z162_20) ∧ pm_run PT m fr lo 188 (216, [some (.ref 162), some (.int t1), some (.int t2), some (.int t3), some (.int t4), wc, w6], [], (w188_81 q cc gc z162_20 z162_3 t1 t2 t3 t4 j i h), 198, sl) = some R := by
  intro j
  induction j with
  | zero =>
    intro i o6 h n e eI hw hz hiN e20 e3 hh
    obtain ⟨n, hh⟩ := w188_81_e (q := q) (cc := cc) (gc := gc) hw hz e20 e3 (by omega) (by omega) hh
    exact ⟨n, _, o6, hw, fr_0, e20, (e3.trans (congrArg (fun i => nI (z162_3 + i)) (show i = z162_20 by omega))), hh⟩
  | succ j ih =>
    intro i o6 h n e eI hw hz hiN e20 e3 hh
    obtain ⟨n, w6, hc, hf, e20', e3', hh⟩ := w188_81_s (q := q) (cc := cc) (gc := gc) hw hz e20 e3 (by omega) (by omega) hh
    obtain ⟨n, wc, v6, hc2, hf2, e20'', e3'', hh⟩ := ih (by omega) (by omega) hc hz (by omega) e20' e3' hh
    exact ⟨n, wc, v6, hc2, fr_t hf2 hf, e20'', e3'', hh⟩
theorem w188_81_fb {cc gc : Nat} {q : QT} {h : pm_H} {t1 : Int32} {t2 : Int32} {t3 : Int32} {t4 : Int32} {z162_20 : Nat} {z162_3 : Nat} {i : Nat} (hw : WT h) (hz : z162_3 + z162_20 ≤ 6) : WT ((w188_81b q cc gc h z162_20 z162_3 t1 t2 t3 t4 i)) ∧ frm [162, 164, 165, 169, 170] [(162, 3)] h ((w188_81b q cc gc h z162_20 z162_3 t1 t2 t3 t4 i)) := by
  unfold w188_81b
  show WT (fset (w188_167 q cc gc z162_20 (z162_3 + i) t1 t2 t3 t4 i 6 0 (aset (w188_112 q cc gc z162_20 (z162_3 + i) t1 t2 t3 t4 i 5 0 (aset h 164 6 (upd (Ar h 164) (z162_3 + i) ((Ar h 173) (6 * i))))) 170 96 (upd (Ar h 170) (z162_3 + i) (nI 50)))) 162 3 (.int (nI (z162_3 + i + 1)))) ∧ frm [162, 164, 165, 169, 170] [(162, 3)] h (fset (w188_167 q cc gc z162_20 (z162_3 + i) t1 t2 t3 t4 i 6 0 (aset (w188_112 q cc gc z162_20 (z162_3 + i) t1 t2 t3 t4 i 5 0 (aset h 164 6 (upd (Ar h 164) (z162_3 + i) ((Ar h 173) (6 * i))))) 170 96 (upd (Ar h 170) (z162_3 + i) (nI 50)))) 162 3 (.int (nI (z162_3 + i + 1))))
  exact ⟨(wt_fs rfl (by decide) rfl (w188_167_fr (t1 := t1) (t2 := t2) (t3 := t3) (t4 := t4) (m5 := i) (z162_20 := z162_20) (z162_3 := (z162_3 + i)) (j := 6) (i := 0) (wt_as rfl (w188_112_fr (t1 := t1) (t2 := t2) (t3 := t3) (t4 := t4) (m5 := i) (z162_20 := z162_20) (z162_3 := (z162_3 + i)) (j := 5) (i := 0) (wt_as rfl hw)).1)).1), (fr_f rfl rfl (fr_g rfl rfl (w188_167_fr (t1 := t1) (t2 := t2) (t3 := t3) (t4 := t4) (m5 := i) (z162_20 := z162_20) (z162_3 := (z162_3 + i)) (j := 6) (i := 0) (wt_as rfl (w188_112_fr (t1 := t1) (t2 := t2) (t3 := t3) (t4 := t4) (m5 := i) (z162_20 := z162_20) (z162_3 := (z162_3 + i)) (j := 5) (i := 0) (wt_as rfl hw)).1)).2 (fr_a rfl rfl (fr_g rfl rfl (w188_112_fr (t1 := t1) (t2 := t2) (t3 := t3) (t4 := t4) (m5 := i) (z162_20 := z162_20) (z162_3 := (z162_3 + i)) (j := 5) (i := 0) (wt_as rfl hw)).2 (fr_a rfl rfl fr_0)))))⟩
theorem w188_81_fr {cc gc : Nat} {q : QT} {t1 : Int32} {t2 : Int32} {t3 : Int32} {t4 : Int32} {z162_20 : Nat} {z162_3 : Nat} (hz : z162_3 + z162_20 ≤ 6) : ∀ {j i : Nat} {h : pm_H}, WT h → WT ((w188_81 q cc gc z162_20 z162_3 t1 t2 t3 t4 j i h)) ∧ frm [162, 164, 165, 169, 170] [(162, 3)] h ((w188_81 q cc gc z162_20 z162_3 t1 t2 t3 t4 j i h)) := by
  intro j
  induction j with
  | zero =>
    intro i h hw
    exact ⟨hw, fr_0⟩
  | succ j ih =>
    intro i h hw
    obtain ⟨a1, a2⟩ := w188_81_fb (i := i) (t1 := t1) (t2 := t2) (t3 := t3) (t4 := t4) (z162_20 := z162_20) (z162_3 := z162_3) hw hz
    obtain ⟨b1, b2⟩ := ih (i := i + 1) a1
    exact ⟨b1, fr_t b2 a2⟩
def w188 (q : QT) (cc gc : Nat) (h : pm_H) (r : Nat) (c : Nat) (F : Int32) (x1 : Int32) (x2 : Int32) (x3 : Int32) : Int32 × pm_H := (nI r, w190 q cc gc (w188_81 q cc gc r c x1 x2 x3 F r 0 h) r)
theorem w188_ok {n fr lo sl cc gc : Nat} {q : QT} {h : pm_H} {R : pm_Rs} {r : Nat} {c : Nat} {F : Int32} {x1 : Int32} {x2 : Int32} {x3 : Int32} (hw : WT h) (hc : c + r ≤ 6) (e20 : Fi h 162 20 = nI r) (e3 : Fi h 162 3 = nI c) (hh : pm_run PT n fr lo 188 (78, [some (.ref 162), some (.int x1), some (.int x2), some (.int x3), some (.int F), none, none], [], h, 198, sl) = some R) : R = (some (.int ((w188 q cc gc h r c F x1 x2 x3).1)), (w188 q cc gc h r c F x1 x2 x3).2, 198, sl) ∧ WT ((w188 q cc gc h r c F x1 x2 x3).2) ∧ frm [162, 164, 165, 169, 170] [(162, 3), (162, 5), (162, 27)] h ((w188 q cc gc h r c F x1 x2 x3).2) := by
  obtain ⟨n, hh⟩ := rn_i rfl rfl rfl rfl hh
  obtain ⟨n, hh⟩ := rn_i rfl rfl rfl rfl hh
  have hh : pm_run PT n fr lo 188 (81, [some (.ref 162), some (.int x1), some (.int x2), some (.int x3), some (.int F), some (.int (nI 0)), none], [], h, 198, sl) = some R := hh
  obtain ⟨n, u2, u1, hc5, hf6, hn3, hn4, hh⟩ := w188_81_ok (q := q) (cc := cc) (gc := gc) (t1 := x1) (t2 := x2) (t3 := x3) (t4 := F)  (z162_20 := r) (z162_3 := c) (i := 0) (o6 := none) (j := r) (by omega) (by omega) hw (by omega) (by omega) (show Fi (h) 162 20 = nI r from e20) (show Fi (h) 162 3 = nI (c + 0) from e3) hh
  have hh : pm_run PT n fr lo 188 (216, [some (.ref 162), some (.int x1), some (.int x2), some (.int x3), some (.int F), u2, u1], [], (w188_81 q cc gc r c x1 x2 x3 F r 0 h), 198, sl) = some R := hh
  obtain ⟨n, hh⟩ := rn_i rfl rfl rfl rfl hh
  have hh : pm_run PT n fr lo 188 (217, [some (.ref 162), some (.int x1), some (.int x2), some (.int x3), some (.int F), u2, u1], [.ref 162], (w188_81 q cc gc r c x1 x2 x3 F r 0 h), 198, sl) = some R := hh
  obtain ⟨n, fr1, lo1, r1, hh1, hh⟩ := rn_call (w := 0) (t := 190) rfl rfl hh
  obtain ⟨er7, hc8, hf9⟩ := w190_ok (q := q) (cc := cc) (gc := gc) (r := r) hc5 (by omega) hn3 hh1
  subst er7
  obtain ⟨n, hh⟩ := rn_i rfl rfl rfl rfl hh
  have hh : pm_run PT n fr lo 188 (221, [some (.ref 162), some (.int x1), some (.int x2), some (.int x3), some (.int F), u2, u1], [.ref 162], w190 q cc gc (w188_81 q cc gc r c x1 x2 x3 F r 0 h) r, 198, sl) = some R := hh
  obtain ⟨n, hh⟩ := rn_gi (x := nI r) hc8 rfl rfl (by decide) rfl (by decide) rfl ((hf9.2 162 20 (by decide +kernel) rfl).trans hn3) hh
  have hh : pm_run PT n fr lo 188 (224, [some (.ref 162), some (.int x1), some (.int x2), some (.int x3), some (.int F), u2, u1], [.int (nI r)], w190 q cc gc (w188_81 q cc gc r c x1 x2 x3 F r 0 h) r, 198, sl) = some R := hh
  have er10 : R = (some (.int (nI r)), w190 q cc gc (w188_81 q cc gc r c x1 x2 x3 F r 0 h) r, 198, sl) := (rn_ret rfl (Or.inl rfl) hh).2
  have ed : w188 q cc gc h r c F x1 x2 x3 = (nI r, w190 q cc gc (w188_81 q cc gc r c x1 x2 x3 F r 0 h) r) := rfl
  refine ⟨?_, ?_, ?_⟩ <;> rw [ed]
  · exact er10
  · exact hc8
  · exact (fr_g rfl rfl hf9 (fr_g rfl rfl hf6 fr_0))
def w192_81b (q : QT) (cc gc : Nat) (h : pm_H) (z162_20 : Nat) (z162_4 : Nat) (t1 : Int32) (t2 : Int32) (t3 : Int32) (t4 : Int32) (i : Nat) : pm_H := fset (aset (aset (aset (aset h 166 8 (upd (Ar h 166) (z162_4 + i) ((Ar h 173) (4 * i)))) 167 8 (upd (Ar h 167) (z162_4 + i) ((Ar h 173) (4 * i + 1)))) 168 8 (upd (Ar h 168) (z162_4 + i) ((Ar h 173) (4 * i + 2)))) 170 96 (upd (upd (upd (Ar h 170) (78 + (z162_4 + i)) ((Ar h 173) (4 * i + 3))) (86 + (z162_4 + i)) (shl (nI 1) ((Ar h 173) (4 * i + 3)))) 94 (((upd (upd (Ar h 170) (78 + (z162_4 + i)) ((Ar h 173) (4 * i + 3))) (86 + (z162_4 + i)) (shl (nI 1) ((Ar h 173) (4 * i + 3)))) 94) &&& ((shl (nI 1) (nI (z162_4 + i))) ^^^ (Int32.ofInt (-1)))))) 162 4 (.int (nI (z162_4 + i + 1)))
def w192_81 (q : QT) (cc gc : Nat) (z162_20 : Nat) (z162_4 : Nat) (t1 : Int32) (t2 : Int32) (t3 : Int32) (t4 : Int32) (j i : Nat) (a : pm_H) : pm_H := lp (fun i a => w192_81b q cc gc a z162_20 z162_4 t1 t2 t3 t4 i) j i a
theorem w192_81_e {n fr lo sl cc gc : Nat} {q : QT} {h : pm_H} {R : pm_Rs} {z162_20 : Nat} {z162_4 : Nat} {t1 : Int32} {t2 : Int32} {t3 : Int32} {t4 : Int32} {i : Nat} (hw : WT h) (hz : z162_4 + z162_20 ≤ 8) (e20 : Fi h 162 20 = nI z162_20) (e4 : Fi h 162 4 = nI (z162_4 + i)) (hi : z162_20 ≤ i) (hI : i < 1000000) (hh : pm_run PT n fr lo 192 (81, [some (.ref 162), some (.int t1), some (.int t2), some (.int t3), some (.int t4), some (.int (nI i))], [], h, 198, sl) = some R) : ∃ m, pm_run PT m fr lo 192 (230, [some (.ref 162), some (.int t1), some (.int t2), some (.int t3), some (.int t4), some (.int (nI i))], [], h, 198, sl) = some R := by
  obtain ⟨n, hh⟩ := rn_i rfl rfl rfl rfl hh
  obtain ⟨n, hh⟩ := rn_i rfl rfl rfl rfl hh
  have hh : pm_run PT n fr lo 192 (84, [some (.ref 162), some (.int t1), some (.int t2), some (.int t3), some (.int t4), some (.int (nI i))], [.ref 162, .int (nI i)], h, 198, sl) = some R := hh
  obtain ⟨n, hh⟩ := rn_gi (x := nI z162_20) hw rfl rfl (by decide) rfl (by decide) rfl e20 hh
  have hh : pm_run PT n fr lo 192 (87, [some (.ref 162), some (.int t1), some (.int t2), some (.int t3), some (.int t4), some (.int (nI i))], [.int (nI z162_20), .int (nI i)], h, 198, sl) = some R := hh
  obtain ⟨n, hh⟩ := en_cn (cc := .ge) (off := 143) (t := 230) (b := decide (z162_20 ≤ i)) (hI_ge (by omega) (by omega)) rfl rfl hh
  have hh := en_t (show decide (z162_20 ≤ i) = true from decide_eq_true (by omega)) hh
  have hh : pm_run PT n fr lo 192 (230, [some (.ref 162), some (.int t1), some (.int t2), some (.int t3), some (.int t4), some (.int (nI i))], [], h, 198, sl) = some R := hh
  exact ⟨n, hh⟩
theorem w192_81_s {n fr lo sl cc gc : Nat} {q : QT} {h : pm_H} {R : pm_Rs} {z162_20 : Nat} {z162_4 : Nat} {t1 : Int32} {t2 : Int32} {t3 : Int32} {t4 : Int32} {i : Nat} (hw : WT h) (hz : z162_4 + z162_20 ≤ 8) (e20 : Fi h 162 20 = nI z162_20) (e4 : Fi h 162 4 = nI (z162_4 + i)) (hi : i < z162_20) (hI : i < 1000000) (hh : pm_run PT n fr lo 192 (81, [some (.ref 162), some (.int t1), some (.int t2), some (.int t3), some (.int t4), some (.int (nI i))], [], h, 198, sl) = some R) : ∃ m, WT ((w192_81b q cc gc h z162_20 z162_4 t1 t2 t3 t4 i)) ∧ frm [162, 166, 167, 168, 170] [(162, 4)] h ((w192_81b q cc gc h z162_20 z162_4 t1 t2 t3 t4 i)) ∧ Fi ((w192_81b q cc gc h z162_20 z162_4 t1 t2 t3 t4 i)) 162 20 = nI z162_20 ∧ Fi ((w192_81b q cc gc h z162_20 z162_4 t1 t2 t3 t4 i)) 162 4 = nI (z162_4 + (i + 1)) ∧ pm_run PT m fr lo 192 (81, [some (.ref 162), some (.int t1), some (.int t2), some (.int t3), some (.int t4), some (.int (nI (i + 1)))], [], (w192_81b q cc gc h z162_20 z162_4 t1 t2 t3 t4 i), 198, sl) = some R := by
  obtain ⟨n, hh⟩ := rn_i rfl rfl rfl rfl hh
  obtain ⟨n, hh⟩ := rn_i rfl rfl rfl rfl hh
  have hh : pm_run PT n fr lo 192 (84, [some (.ref 162), some (.int t1), some (.int t2), some (.int t3), some (.int t4), some (.int (nI i))], [.ref 162, .int (nI i)], h, 198, sl) = some R := hh
  obtain ⟨n, hh⟩ := rn_gi (x := nI z162_20) hw rfl rfl (by decide) rfl (by decide) rfl e20 hh
  have hh : pm_run PT n fr lo 192 (87, [some (.ref 162), some (.int t1), some (.int t2), some (.int t3), some (.int t4), some (.int (nI i))], [.int (nI z162_20), .int (nI i)], h, 198, sl) = some R := hh
  obtain ⟨n, hh⟩ := en_cn (cc := .ge) (off := 143) (t := 230) (b := decide (z162_20 ≤ i)) (hI_ge (by omega) (by omega)) rfl rfl hh
  have hh := en_f (show decide (z162_20 ≤ i) = false from decide_eq_false (by omega)) hh
  have hh : pm_run PT n fr lo 192 (90, [some (.ref 162), some (.int t1), some (.int t2), some (.int t3), some (.int t4), some (.int (nI i))], [], h, 198, sl) = some R := hh
  obtain ⟨n, hh⟩ := rn_i rfl rfl rfl rfl hh
  have hh : pm_run PT n fr lo 192 (91, [some (.ref 162), some (.int t1), some (.int t2), some (.int t3), some (.int t4), some (.int (nI i))], [.ref 162], h, 198, sl) = some R := hh
  obtain ⟨n, hh⟩ := rn_gr hw rfl rfl (by decide) rfl (by decide) (show _ = some (2, ((166 : Nat) : Int), 1) from rfl) rfl hh
  obtain ⟨n, hh⟩ := rn_i rfl rfl rfl rfl hh
  have hh : pm_run PT n fr lo 192 (95, [some (.ref 162), some (.int t1), some (.int t2), some (.int t3), some (.int t4), some (.int (nI i))], [.ref 162, .ref 166], h, 198, sl) = some R := hh
  obtain ⟨n, hh⟩ := rn_gi (x := nI (z162_4 + i)) hw rfl rfl (by decide) rfl (by decide) rfl e4 hh
  obtain ⟨n, hh⟩ := rn_i rfl rfl rfl rfl hh
  have hh : pm_run PT n fr lo 192 (99, [some (.ref 162), some (.int t1), some (.int t2), some (.int t3), some (.int t4), some (.int (nI i))], [.ref 162, .int (nI (z162_4 + i)), .ref 166], h, 198, sl) = some R := hh
  obtain ⟨n, hh⟩ := rn_gr hw rfl rfl (by decide) rfl (by decide) (show _ = some (2, ((173 : Nat) : Int), 1) from rfl) rfl hh
  obtain ⟨n, hh⟩ := rn_i rfl rfl rfl rfl hh
  obtain ⟨n, hh⟩ := rn_i rfl rfl rfl rfl hh
  have hh : pm_run PT n fr lo 192 (105, [some (.ref 162), some (.int t1), some (.int t2), some (.int t3), some (.int t4), some (.int (nI i))], [.int (nI i), .int (nI 4), .ref 173, .int (nI (z162_4 + i)), .ref 166], h, 198, sl) = some R := hh
  obtain ⟨n, hh⟩ := en_mul rfl hh
  have hh : pm_run PT n fr lo 192 (106, [some (.ref 162), some (.int t1), some (.int t2), some (.int t3), some (.int t4), some (.int (nI i))], [.int (nI (4 * i)), .ref 173, .int (nI (z162_4 + i)), .ref 166], h, 198, sl) = some R := hh
  have hh : pm_run PT n fr lo 192 (106, [some (.ref 162), some (.int t1), some (.int t2), some (.int t3), some (.int t4), some (.int (nI i))], [.int (nI (4 * i)), .ref 173, .int (nI (z162_4 + i)), .ref 166], h, 198, sl) = some R := hh
  obtain ⟨n, hx1, hh⟩ := en_lu (t := 4 * i) (f := Ar h 173) (w := (Ar h 173) (4 * i)) (nI_clamp (by omega)) hw rfl (by decide) rfl (by decide) rfl (fun _ => rfl) hh
  have hh : pm_run PT n fr lo 192 (107, [some (.ref 162), some (.int t1), some (.int t2), some (.int t3), some (.int t4), some (.int (nI i))], [.int ((Ar h 173) (4 * i)), .int (nI (z162_4 + i)), .ref 166], h, 198, sl) = some R := hh
  obtain ⟨n, hx2, hh⟩ := en_st (t := z162_4 + i) (f := Ar h 166) (nI_clamp (by omega)) hw rfl (by decide) rfl (by decide) rfl hh
  obtain ⟨n, hh⟩ := rn_i rfl rfl rfl rfl hh
  have hh : pm_run PT n fr lo 192 (109, [some (.ref 162), some (.int t1), some (.int t2), some (.int t3), some (.int t4), some (.int (nI i))], [.ref 162], aset h 166 8 (upd (Ar h 166) (z162_4 + i) ((Ar h 173) (4 * i))), 198, sl) = some R := hh
  obtain ⟨n, hh⟩ := rn_gr (wt_as rfl hw) rfl rfl (by decide) rfl (by decide) (show _ = some (2, ((167 : Nat) : Int), 1) from rfl) rfl hh
  obtain ⟨n, hh⟩ := rn_i rfl rfl rfl rfl hh
  have hh : pm_run PT n fr lo 192 (113, [some (.ref 162), some (.int t1), some (.int t2), some (.int t3), some (.int t4), some (.int (nI i))], [.ref 162, .ref 167], aset h 166 8 (upd (Ar h 166) (z162_4 + i) ((Ar h 173) (4 * i))), 198, sl) = some R := hh
  obtain ⟨n, hh⟩ := rn_gi (x := nI (z162_4 + i)) (wt_as rfl hw) rfl rfl (by decide) rfl (by decide) rfl ((Fi_a (by decide)).trans e4) hh
  obtain ⟨n, hh⟩ := rn_i rfl rfl rfl rfl hh
  have hh : pm_run PT n fr lo 192 (117, [some (.ref 162), some (.int t1), some (.int t2), some (.int t3), some (.int t4), some (.int (nI i))], [.ref 162, .int (nI (z162_4 + i)), .ref 167], aset h 166 8 (upd (Ar h 166) (z162_4 + i) ((Ar h 173) (4 * i))), 198, sl) = some R := hh
  obtain ⟨n, hh⟩ := rn_gr (wt_as rfl hw) rfl rfl (by decide) rfl (by decide) (show _ = some (2, ((173 : Nat) : Int), 1) from rfl) rfl hh
  obtain ⟨n, hh⟩ := rn_i rfl rfl rfl rfl hh
  obtain ⟨n, hh⟩ := rn_i rfl rfl rfl rfl hh
  have hh : pm_run PT n fr lo 192 (123, [some (.ref 162), some (.int t1), some (.int t2), some (.int t3), some (.int t4), some (.int (nI i))], [.int (nI i), .int (nI 4), .ref 173, .int (nI (z162_4 + i)), .ref 167], aset h 166 8 (upd (Ar h 166) (z162_4 + i) ((Ar h 173) (4 * i))), 198, sl) = some R := hh
  obtain ⟨n, hh⟩ := en_mul rfl hh
  have hh : pm_run PT n fr lo 192 (124, [some (.ref 162), some (.int t1), some (.int t2), some (.int t3), some (.int t4), some (.int (nI i))], [.int (nI (4 * i)), .ref 173, .int (nI (z162_4 + i)), .ref 167], aset h 166 8 (upd (Ar h 166) (z162_4 + i) ((Ar h 173) (4 * i))), 198, sl) = some R := hh
  obtain ⟨n, hh⟩ := rn_i rfl rfl rfl rfl hh
  have hh : pm_run PT n fr lo 192 (125, [some (.ref 162), some (.int t1), some (.int t2), some (.int t3), some (.int t4), some (.int (nI i))], [.int (nI 1), .int (nI (4 * i)), .ref 173, .int (nI (z162_4 + i)), .ref 167], aset h 166 8 (upd (Ar h 166) (z162_4 + i) ((Ar h 173) (4 * i))), 198, sl) = some R := hh
  obtain ⟨n, hh⟩ := en_add rfl hh
  have hh : pm_run PT n fr lo 192 (126, [some (.ref 162), some (.int t1), some (.int t2), some (.int t3), some (.int t4), some (.int (nI i))], [.int (nI (4 * i + 1)), .ref 173, .int (nI (z162_4 + i)), .ref 167], aset h 166 8 (upd (Ar h 166) (z162_4 + i) ((Ar h 173) (4 * i))), 198, sl) = some R := hh
  have hh : pm_run PT n fr lo 192 (126, [some (.ref 162), some (.int t1), some (.int t2), some (.int t3), some (.int t4), some (.int (nI i))], [.int (nI (4 * i + 1)), .ref 173, .int (nI (z162_4 + i)), .ref 167], aset h 166 8 (upd (Ar h 166) (z162_4 + i) ((Ar h 173) (4 * i))), 198, sl) = some R := hh
  obtain ⟨n, hx3, hh⟩ := en_lu (t := 4 * i + 1) (f := Ar h 173) (w := (Ar h 173) (4 * i + 1)) (nI_clamp (by omega)) (wt_as rfl hw) rfl (by decide) rfl (by decide) ((Ar_n (by decide)).trans rfl) (fun _ => rfl) hh
  have hh : pm_run PT n fr lo 192 (127, [some (.ref 162), some (.int t1), some (.int t2), some (.int t3), some (.int t4), some (.int (nI i))], [.int ((Ar h 173) (4 * i + 1)), .int (nI (z162_4 + i)), .ref 167], aset h 166 8 (upd (Ar h 166) (z162_4 + i) ((Ar h 173) (4 * i))), 198, sl) = some R := hh
  obtain ⟨n, hx4, hh⟩ := en_st (t := z162_4 + i) (f := Ar h 167) (nI_clamp (by omega)) (wt_as rfl hw) rfl (by decide) rfl (by decide) ((Ar_n (by decide)).trans rfl) hh
  obtain ⟨n, hh⟩ := rn_i rfl rfl rfl rfl hh
  have hh : pm_run PT n fr lo 192 (129, [some (.ref 162), some (.int t1), some (.int t2), some (.int t3), some (.int t4), some (.int (nI i))], [.ref 162], aset (aset h 166 8 (upd (Ar h 166) (z162_4 + i) ((Ar h 173) (4 * i)))) 167 8 (upd (Ar h 167) (z162_4 + i) ((Ar h 173) (4 * i + 1))), 198, sl) = some R := hh
  obtain ⟨n, hh⟩ := rn_gr (wt_as rfl (wt_as rfl hw)) rfl rfl (by decide) rfl (by decide) (show _ = some (2, ((168 : Nat) : Int), 1) from rfl) rfl hh
  obtain ⟨n, hh⟩ := rn_i rfl rfl rfl rfl hh
  have hh : pm_run PT n fr lo 192 (133, [some (.ref 162), some (.int t1), some (.int t2), some (.int t3), some (.int t4), some (.int (nI i))], [.ref 162, .ref 168], aset (aset h 166 8 (upd (Ar h 166) (z162_4 + i) ((Ar h 173) (4 * i)))) 167 8 (upd (Ar h 167) (z162_4 + i) ((Ar h 173) (4 * i + 1))), 198, sl) = some R := hh
  obtain ⟨n, hh⟩ := rn_gi (x := nI (z162_4 + i)) (wt_as rfl (wt_as rfl hw)) rfl rfl (by decide) rfl (by decide) rfl ((Fi_a (by decide)).trans ((Fi_a (by decide)).trans e4)) hh
  obtain ⟨n, hh⟩ := rn_i rfl rfl rfl rfl hh
  have hh : pm_run PT n fr lo 192 (137, [some (.ref 162), some (.int t1), some (.int t2), some (.int t3), some (.int t4), some (.int (nI i))], [.ref 162, .int (nI (z162_4 + i)), .ref 168], aset (aset h 166 8 (upd (Ar h 166) (z162_4 + i) ((Ar h 173) (4 * i)))) 167 8 (upd (Ar h 167) (z162_4 + i) ((Ar h 173) (4 * i + 1))), 198, sl) = some R := hh
  obtain ⟨n, hh⟩ := rn_gr (wt_as rfl (wt_as rfl hw)) rfl rfl (by decide) rfl (by decide) (show _ = some (2, ((173 : Nat) : Int), 1) from rfl) rfl hh
  obtain ⟨n, hh⟩ := rn_i rfl rfl rfl rfl hh
  obtain ⟨n, hh⟩ := rn_i rfl rfl rfl rfl hh
  have hh : pm_run PT n fr lo 192 (143, [some (.ref 162), some (.int t1), some (.int t2), some (.int t3), some (.int t4), some (.int (nI i))], [.int (nI i), .int (nI 4), .ref 173, .int (nI (z162_4 + i)), .ref 168], aset (aset h 166 8 (upd (Ar h 166) (z162_4 + i) ((Ar h 173) (4 * i)))) 167 8 (upd (Ar h 167) (z162_4 + i) ((Ar h 173) (4 * i + 1))), 198, sl) = some R := hh
  obtain ⟨n, hh⟩ := en_mul rfl hh
  have hh : pm_run PT n fr lo 192 (144, [some (.ref 162), some (.int t1), some (.int t2), some (.int t3), some (.int t4), some (.int (nI i))], [.int (nI (4 * i)), .ref 173, .int (nI (z162_4 + i)), .ref 168], aset (aset h 166 8 (upd (Ar h 166) (z162_4 + i) ((Ar h 173) (4 * i)))) 167 8 (upd (Ar h 167) (z162_4 + i) ((Ar h 173) (4 * i + 1))), 198, sl) = some R := hh
  obtain ⟨n, hh⟩ := rn_i rfl rfl rfl rfl hh
  have hh : pm_run PT n fr lo 192 (145, [some (.ref 162), some (.int t1), some (.int t2), some (.int t3), some (.int t4), some (.int (nI i))], [.int (nI 2), .int (nI (4 * i)), .ref 173, .int (nI (z162_4 + i)), .ref 168], aset (aset h 166 8 (upd (Ar h 166) (z162_4 + i) ((Ar h 173) (4 * i)))) 167 8 (upd (Ar h 167) (z162_4 + i) ((Ar h 173) (4 * i + 1))), 198, sl) = some R := hh
  obtain ⟨n, hh⟩ := en_add rfl hh
  have hh : pm_run PT n fr lo 192 (146, [some (.ref 162), some (.int t1), some (.int t2), some (.int t3), some (.int t4), some (.int (nI i))], [.int (nI (4 * i + 2)), .ref 173, .int (nI (z162_4 + i)), .ref 168], aset (aset h 166 8 (upd (Ar h 166) (z162_4 + i) ((Ar h 173) (4 * i)))) 167 8 (upd (Ar h 167) (z162_4 + i) ((Ar h 173) (4 * i + 1))), 198, sl) = some R := hh
  have hh : pm_run PT n fr lo 192 (146, [some (.ref 162), some (.int t1), some (.int t2), some (.int t3), some (.int t4), some (.int (nI i))], [.int (nI (4 * i + 2)), .ref 173, .int (nI (z162_4 + i)), .ref 168], aset (aset h 166 8 (upd (Ar h 166) (z162_4 + i) ((Ar h 173) (4 * i)))) 167 8 (upd (Ar h 167) (z162_4 + i) ((Ar h 173) (4 * i + 1))), 198, sl) = some R := hh
  obtain ⟨n, hx5, hh⟩ := en_lu (t := 4 * i + 2) (f := Ar h 173) (w := (Ar h 173) (4 * i + 2)) (nI_clamp (by omega)) (wt_as rfl (wt_as rfl hw)) rfl (by decide) rfl (by decide) ((Ar_n (by decide)).trans ((Ar_n (by decide)).trans rfl)) (fun _ => rfl) hh
  have hh : pm_run PT n fr lo 192 (147, [some (.ref 162), some (.int t1), some (.int t2), some (.int t3), some (.int t4), some (.int (nI i))], [.int ((Ar h 173) (4 * i + 2)), .int (nI (z162_4 + i)), .ref 168], aset (aset h 166 8 (upd (Ar h 166) (z162_4 + i) ((Ar h 173) (4 * i)))) 167 8 (upd (Ar h 167) (z162_4 + i) ((Ar h 173) (4 * i + 1))), 198, sl) = some R := hh
  obtain ⟨n, hx6, hh⟩ := en_st (t := z162_4 + i) (f := Ar h 168) (nI_clamp (by omega)) (wt_as rfl (wt_as rfl hw)) rfl (by decide) rfl (by decide) ((Ar_n (by decide)).trans ((Ar_n (by decide)).trans rfl)) hh
  obtain ⟨n, hh⟩ := rn_i rfl rfl rfl rfl hh
  have hh : pm_run PT n fr lo 192 (149, [some (.ref 162), some (.int t1), some (.int t2), some (.int t3), some (.int t4), some (.int (nI i))], [.ref 162], aset (aset (aset h 166 8 (upd (Ar h 166) (z162_4 + i) ((Ar h 173) (4 * i)))) 167 8 (upd (Ar h 167) (z162_4 + i) ((Ar h 173) (4 * i + 1)))) 168 8 (upd (Ar h 168) (z162_4 + i) ((Ar h 173) (4 * i + 2))), 198, sl) = some R := hh
  obtain ⟨n, hh⟩ := rn_gr (wt_as rfl (wt_as rfl (wt_as rfl hw))) rfl rfl (by decide) rfl (by decide) (show _ = some (2, ((170 : Nat) : Int), 1) from rfl) rfl hh
  obtain ⟨n, hh⟩ := rn_i rfl rfl rfl rfl hh
  obtain ⟨n, hh⟩ := rn_i rfl rfl rfl rfl hh
  have hh : pm_run PT n fr lo 192 (155, [some (.ref 162), some (.int t1), some (.int t2), some (.int t3), some (.int t4), some (.int (nI i))], [.ref 162, .int (nI 78), .ref 170], aset (aset (aset h 166 8 (upd (Ar h 166) (z162_4 + i) ((Ar h 173) (4 * i)))) 167 8 (upd (Ar h 167) (z162_4 + i) ((Ar h 173) (4 * i + 1)))) 168 8 (upd (Ar h 168) (z162_4 + i) ((Ar h 173) (4 * i + 2))), 198, sl) = some R := hh
  obtain ⟨n, hh⟩ := rn_gi (x := nI (z162_4 + i)) (wt_as rfl (wt_as rfl (wt_as rfl hw))) rfl rfl (by decide) rfl (by decide) rfl ((Fi_a (by decide)).trans ((Fi_a (by decide)).trans ((Fi_a (by decide)).trans e4))) hh
  have hh : pm_run PT n fr lo 192 (158, [some (.ref 162), some (.int t1), some (.int t2), some (.int t3), some (.int t4), some (.int (nI i))], [.int (nI (z162_4 + i)), .int (nI 78), .ref 170], aset (aset (aset h 166 8 (upd (Ar h 166) (z162_4 + i) ((Ar h 173) (4 * i)))) 167 8 (upd (Ar h 167) (z162_4 + i) ((Ar h 173) (4 * i + 1)))) 168 8 (upd (Ar h 168) (z162_4 + i) ((Ar h 173) (4 * i + 2))), 198, sl) = some R := hh
  obtain ⟨n, hh⟩ := en_add rfl hh
  have hh : pm_run PT n fr lo 192 (159, [some (.ref 162), some (.int t1), some (.int t2), some (.int t3), some (.int t4), some (.int (nI i))], [.int (nI (78 + (z162_4 + i))), .ref 170], aset (aset (aset h 166 8 (upd (Ar h 166) (z162_4 + i) ((Ar h 173) (4 * i)))) 167 8 (upd (Ar h 167) (z162_4 + i) ((Ar h 173) (4 * i + 1)))) 168 8 (upd (Ar h 168) (z162_4 + i) ((Ar h 173) (4 * i + 2))), 198, sl) = some R := hh
  obtain ⟨n, hh⟩ := rn_i rfl rfl rfl rfl hh
  have hh : pm_run PT n fr lo 192 (160, [some (.ref 162), some (.int t1), some (.int t2), some (.int t3), some (.int t4), some (.int (nI i))], [.ref 162, .int (nI (78 + (z162_4 + i))), .ref 170], aset (aset (aset h 166 8 (upd (Ar h 166) (z162_4 + i) ((Ar h 173) (4 * i)))) 167 8 (upd (Ar h 167) (z162_4 + i) ((Ar h 173) (4 * i + 1)))) 168 8 (upd (Ar h 168) (z162_4 + i) ((Ar h 173) (4 * i + 2))), 198, sl) = some R := hh
  obtain ⟨n, hh⟩ := rn_gr (wt_as rfl (wt_as rfl (wt_as rfl hw))) rfl rfl (by decide) rfl (by decide) (show _ = some (2, ((173 : Nat) : Int), 1) from rfl) rfl hh
  obtain ⟨n, hh⟩ := rn_i rfl rfl rfl rfl hh
  obtain ⟨n, hh⟩ := rn_i rfl rfl rfl rfl hh
  have hh : pm_run PT n fr lo 192 (166, [some (.ref 162), some (.int t1), some (.int t2), some (.int t3), some (.int t4), some (.int (nI i))], [.int (nI i), .int (nI 4), .ref 173, .int (nI (78 + (z162_4 + i))), .ref 170], aset (aset (aset h 166 8 (upd (Ar h 166) (z162_4 + i) ((Ar h 173) (4 * i)))) 167 8 (upd (Ar h 167) (z162_4 + i) ((Ar h 173) (4 * i + 1)))) 168 8 (upd (Ar h 168) (z162_4 + i) ((Ar h 173) (4 * i + 2))), 198, sl) = some R := hh
  obtain ⟨n, hh⟩ := en_mul rfl hh
  have hh : pm_run PT n fr lo 192 (167, [some (.ref 162), some (.int t1), some (.int t2), some (.int t3), some (.int t4), some (.int (nI i))], [.int (nI (4 * i)), .ref 173, .int (nI (78 + (z162_4 + i))), .ref 170], aset (aset (aset h 166 8 (upd (Ar h 166) (z162_4 + i) ((Ar h 173) (4 * i)))) 167 8 (upd (Ar h 167) (z162_4 + i) ((Ar h 173) (4 * i + 1)))) 168 8 (upd (Ar h 168) (z162_4 + i) ((Ar h 173) (4 * i + 2))), 198, sl) = some R := hh
  obtain ⟨n, hh⟩ := rn_i rfl rfl rfl rfl hh
  have hh : pm_run PT n fr lo 192 (168, [some (.ref 162), some (.int t1), some (.int t2), some (.int t3), some (.int t4), some (.int (nI i))], [.int (nI 3), .int (nI (4 * i)), .ref 173, .int (nI (78 + (z162_4 + i))), .ref 170], aset (aset (aset h 166 8 (upd (Ar h 166) (z162_4 + i) ((Ar h 173) (4 * i)))) 167 8 (upd (Ar h 167) (z162_4 + i) ((Ar h 173) (4 * i + 1)))) 168 8 (upd (Ar h 168) (z162_4 + i) ((Ar h 173) (4 * i + 2))), 198, sl) = some R := hh
  obtain ⟨n, hh⟩ := en_add rfl hh
  have hh : pm_run PT n fr lo 192 (169, [some (.ref 162), some (.int t1), some (.int t2), some (.int t3), some (.int t4), some (.int (nI i))], [.int (nI (4 * i + 3)), .ref 173, .int (nI (78 + (z162_4 + i))), .ref 170], aset (aset (aset h 166 8 (upd (Ar h 166) (z162_4 + i) ((Ar h 173) (4 * i)))) 167 8 (upd (Ar h 167) (z162_4 + i) ((Ar h 173) (4 * i + 1)))) 168 8 (upd (Ar h 168) (z162_4 + i) ((Ar h 173) (4 * i + 2))), 198, sl) = some R := hh
  have hh : pm_run PT n fr lo 192 (169, [some (.ref 162), some (.int t1), some (.int t2), some (.int t3), some (.int t4), some (.int (nI i))], [.int (nI (4 * i + 3)), .ref 173, .int (nI (78 + (z162_4 + i))), .ref 170], aset (aset (aset h 166 8 (upd (Ar h 166) (z162_4 + i) ((Ar h 173) (4 * i)))) 167 8 (upd (Ar h 167) (z162_4 + i) ((Ar h 173) (4 * i + 1)))) 168 8 (upd (Ar h 168) (z162_4 + i) ((Ar h 173) (4 * i + 2))), 198, sl) = some R := hh
  obtain ⟨n, hx7, hh⟩ := en_lu (t := 4 * i + 3) (f := Ar h 173) (w := (Ar h 173) (4 * i + 3)) (nI_clamp (by omega)) (wt_as rfl (wt_as rfl (wt_as rfl hw))) rfl (by decide) rfl (by decide) ((Ar_n (by decide)).trans ((Ar_n (by decide)).trans ((Ar_n (by decide)).trans rfl))) (fun _ => rfl) hh
  have hh : pm_run PT n fr lo 192 (170, [some (.ref 162), some (.int t1), some (.int t2), some (.int t3), some (.int t4), some (.int (nI i))], [.int ((Ar h 173) (4 * i + 3)), .int (nI (78 + (z162_4 + i))), .ref 170], aset (aset (aset h 166 8 (upd (Ar h 166) (z162_4 + i) ((Ar h 173) (4 * i)))) 167 8 (upd (Ar h 167) (z162_4 + i) ((Ar h 173) (4 * i + 1)))) 168 8 (upd (Ar h 168) (z162_4 + i) ((Ar h 173) (4 * i + 2))), 198, sl) = some R := hh
  obtain ⟨n, hx8, hh⟩ := en_st (t := 78 + (z162_4 + i)) (f := Ar h 170) (nI_clamp (by omega)) (wt_as rfl (wt_as rfl (wt_as rfl hw))) rfl (by decide) rfl (by decide) ((Ar_n (by decide)).trans ((Ar_n (by decide)).trans ((Ar_n (by decide)).trans rfl))) hh
  obtain ⟨n, hh⟩ := rn_i rfl rfl rfl rfl hh
  have hh : pm_run PT n fr lo 192 (172, [some (.ref 162), some (.int t1), some (.int t2), some (.int t3), some (.int t4), some (.int (nI i))], [.ref 162], aset (aset (aset (aset h 166 8 (upd (Ar h 166) (z162_4 + i) ((Ar h 173) (4 * i)))) 167 8 (upd (Ar h 167) (z162_4 + i) ((Ar h 173) (4 * i + 1)))) 168 8 (upd (Ar h 168) (z162_4 + i) ((Ar h 173) (4 * i + 2)))) 170 96 (upd (Ar h 170) (78 + (z162_4 + i)) ((Ar h 173) (4 * i + 3))), 198, sl) = some R := hh
  obtain ⟨n, hh⟩ := rn_gr (wt_as rfl (wt_as rfl (wt_as rfl (wt_as rfl hw)))) rfl rfl (by decide) rfl (by decide) (show _ = some (2, ((170 : Nat) : Int), 1) from rfl) rfl hh
  obtain ⟨n, hh⟩ := rn_i rfl rfl rfl rfl hh
  obtain ⟨n, hh⟩ := rn_i rfl rfl rfl rfl hh
  have hh : pm_run PT n fr lo 192 (178, [some (.ref 162), some (.int t1), some (.int t2), some (.int t3), some (.int t4), some (.int (nI i))], [.ref 162, .int (nI 86), .ref 170], aset (aset (aset (aset h 166 8 (upd (Ar h 166) (z162_4 + i) ((Ar h 173) (4 * i)))) 167 8 (upd (Ar h 167) (z162_4 + i) ((Ar h 173) (4 * i + 1)))) 168 8 (upd (Ar h 168) (z162_4 + i) ((Ar h 173) (4 * i + 2)))) 170 96 (upd (Ar h 170) (78 + (z162_4 + i)) ((Ar h 173) (4 * i + 3))), 198, sl) = some R := hh
  obtain ⟨n, hh⟩ := rn_gi (x := nI (z162_4 + i)) (wt_as rfl (wt_as rfl (wt_as rfl (wt_as rfl hw)))) rfl rfl (by decide) rfl (by decide) rfl ((Fi_a (by decide)).trans ((Fi_a (by decide)).trans ((Fi_a (by decide)).trans ((Fi_a (by decide)).trans e4)))) hh
  have hh : pm_run PT n fr lo 192 (181, [some (.ref 162), some (.int t1), some (.int t2), some (.int t3), some (.int t4), some (.int (nI i))], [.int (nI (z162_4 + i)), .int (nI 86), .ref 170], aset (aset (aset (aset h 166 8 (upd (Ar h 166) (z162_4 + i) ((Ar h 173) (4 * i)))) 167 8 (upd (Ar h 167) (z162_4 + i) ((Ar h 173) (4 * i + 1)))) 168 8 (upd (Ar h 168) (z162_4 + i) ((Ar h 173) (4 * i + 2)))) 170 96 (upd (Ar h 170) (78 + (z162_4 + i)) ((Ar h 173) (4 * i + 3))), 198, sl) = some R := hh
  obtain ⟨n, hh⟩ := en_add rfl hh
  have hh : pm_run PT n fr lo 192 (182, [some (.ref 162), some (.int t1), some (.int t2), some (.int t3), some (.int t4), some (.int (nI i))], [.int (nI (86 + (z162_4 + i))), .ref 170], aset (aset (aset (aset h 166 8 (upd (Ar h 166) (z162_4 + i) ((Ar h 173) (4 * i)))) 167 8 (upd (Ar h 167) (z162_4 + i) ((Ar h 173) (4 * i + 1)))) 168 8 (upd (Ar h 168) (z162_4 + i) ((Ar h 173) (4 * i + 2)))) 170 96 (upd (Ar h 170) (78 + (z162_4 + i)) ((Ar h 173) (4 * i + 3))), 198, sl) = some R := hh
  obtain ⟨n, hh⟩ := rn_i rfl rfl rfl rfl hh
  obtain ⟨n, hh⟩ := rn_i rfl rfl rfl rfl hh
  have hh : pm_run PT n fr lo 192 (184, [some (.ref 162), some (.int t1), some (.int t2), some (.int t3), some (.int t4), some (.int (nI i))], [.ref 162, .int (nI 1), .int (nI (86 + (z162_4 + i))), .ref 170], aset (aset (aset (aset h 166 8 (upd (Ar h 166) (z162_4 + i) ((Ar h 173) (4 * i)))) 167 8 (upd (Ar h 167) (z162_4 + i) ((Ar h 173) (4 * i + 1)))) 168 8 (upd (Ar h 168) (z162_4 + i) ((Ar h 173) (4 * i + 2)))) 170 96 (upd (Ar h 170) (78 + (z162_4 + i)) ((Ar h 173) (4 * i + 3))), 198, sl) = some R := hh
  obtain ⟨n, hh⟩ := rn_gr (wt_as rfl (wt_as rfl (wt_as rfl (wt_as rfl hw)))) rfl rfl (by decide) rfl (by decide) (show _ = some (2, ((173 : Nat) : Int), 1) from rfl) rfl hh
  obtain ⟨n, hh⟩ := rn_i rfl rfl rfl rfl hh
  obtain ⟨n, hh⟩ := rn_i rfl rfl rfl rfl hh
  have hh : pm_run PT n fr lo 192 (190, [some (.ref 162), some (.int t1), some (.int t2), some (.int t3), some (.int t4), some (.int (nI i))], [.int (nI i), .int (nI 4), .ref 173, .int (nI 1), .int (nI (86 + (z162_4 + i))), .ref 170], aset (aset (aset (aset h 166 8 (upd (Ar h 166) (z162_4 + i) ((Ar h 173) (4 * i)))) 167 8 (upd (Ar h 167) (z162_4 + i) ((Ar h 173) (4 * i + 1)))) 168 8 (upd (Ar h 168) (z162_4 + i) ((Ar h 173) (4 * i + 2)))) 170 96 (upd (Ar h 170) (78 + (z162_4 + i)) ((Ar h 173) (4 * i + 3))), 198, sl) = some R := hh
  obtain ⟨n, hh⟩ := en_mul rfl hh
  have hh : pm_run PT n fr lo 192 (191, [some (.ref 162), some (.int t1), some (.int t2), some (.int t3), some (.int t4), some (.int (nI i))], [.int (nI (4 * i)), .ref 173, .int (nI 1), .int (nI (86 + (z162_4 + i))), .ref 170], aset (aset (aset (aset h 166 8 (upd (Ar h 166) (z162_4 + i) ((Ar h 173) (4 * i)))) 167 8 (upd (Ar h 167) (z162_4 + i) ((Ar h 173) (4 * i + 1)))) 168 8 (upd (Ar h 168) (z162_4 + i) ((Ar h 173) (4 * i + 2)))) 170 96 (upd (Ar h 170) (78 + (z162_4 + i)) ((Ar h 173) (4 * i + 3))), 198, sl) = some R := hh
  obtain ⟨n, hh⟩ := rn_i rfl rfl rfl rfl hh
  have hh : pm_run PT n fr lo 192 (192, [some (.ref 162), some (.int t1), some (.int t2), some (.int t3), some (.int t4), some (.int (nI i))], [.int (nI 3), .int (nI (4 * i)), .ref 173, .int (nI 1), .int (nI (86 + (z162_4 + i))), .ref 170], aset (aset (aset (aset h 166 8 (upd (Ar h 166) (z162_4 + i) ((Ar h 173) (4 * i)))) 167 8 (upd (Ar h 167) (z162_4 + i) ((Ar h 173) (4 * i + 1)))) 168 8 (upd (Ar h 168) (z162_4 + i) ((Ar h 173) (4 * i + 2)))) 170 96 (upd (Ar h 170) (78 + (z162_4 + i)) ((Ar h 173) (4 * i + 3))), 198, sl) = some R := hh
  obtain ⟨n, hh⟩ := en_add rfl hh
  have hh : pm_run PT n fr lo 192 (193, [some (.ref 162), some (.int t1), some (.int t2), some (.int t3), some (.int t4), some (.int (nI i))], [.int (nI (4 * i + 3)), .ref 173, .int (nI 1), .int (nI (86 + (z162_4 + i))), .ref 170], aset (aset (aset (aset h 166 8 (upd (Ar h 166) (z162_4 + i) ((Ar h 173) (4 * i)))) 167 8 (upd (Ar h 167) (z162_4 + i) ((Ar h 173) (4 * i + 1)))) 168 8 (upd (Ar h 168) (z162_4 + i) ((Ar h 173) (4 * i + 2)))) 170 96 (upd (Ar h 170) (78 + (z162_4 + i)) ((Ar h 173) (4 * i + 3))), 198, sl) = some R := hh
  have hh : pm_run PT n fr lo 192 (193, [some (.ref 162), some (.int t1), some (.int t2), some (.int t3), some (.int t4), some (.int (nI i))], [.int (nI (4 * i + 3)), .ref 173, .int (nI 1), .int (nI (86 + (z162_4 + i))), .ref 170], aset (aset (aset (aset h 166 8 (upd (Ar h 166) (z162_4 + i) ((Ar h 173) (4 * i)))) 167 8 (upd (Ar h 167) (z162_4 + i) ((Ar h 173) (4 * i + 1)))) 168 8 (upd (Ar h 168) (z162_4 + i) ((Ar h 173) (4 * i + 2)))) 170 96 (upd (Ar h 170) (78 + (z162_4 + i)) ((Ar h 173) (4 * i + 3))), 198, sl) = some R := hh
  obtain ⟨n, hx9, hh⟩ := en_lu (t := 4 * i + 3) (f := Ar h 173) (w := (Ar h 173) (4 * i + 3)) (nI_clamp (by omega)) (wt_as rfl (wt_as rfl (wt_as rfl (wt_as rfl hw)))) rfl (by decide) rfl (by decide) ((Ar_n (by decide)).trans ((Ar_n (by decide)).trans ((Ar_n (by decide)).trans ((Ar_n (by decide)).trans rfl)))) (fun _ => rfl) hh
  obtain ⟨n, hh⟩ := rn_i rfl rfl rfl rfl hh
  have hh : pm_run PT n fr lo 192 (195, [some (.ref 162), some (.int t1), some (.int t2), some (.int t3), some (.int t4), some (.int (nI i))], [.int (shl (nI 1) ((Ar h 173) (4 * i + 3))), .int (nI (86 + (z162_4 + i))), .ref 170], aset (aset (aset (aset h 166 8 (upd (Ar h 166) (z162_4 + i) ((Ar h 173) (4 * i)))) 167 8 (upd (Ar h 167) (z162_4 + i) ((Ar h 173) (4 * i + 1)))) 168 8 (upd (Ar h 168) (z162_4 + i) ((Ar h 173) (4 * i + 2)))) 170 96 (upd (Ar h 170) (78 + (z162_4 + i)) ((Ar h 173) (4 * i + 3))), 198, sl) = some R := hh
  obtain ⟨n, hx10, hh⟩ := en_st (t := 86 + (z162_4 + i)) (f := upd (Ar h 170) (78 + (z162_4 + i)) ((Ar h 173) (4 * i + 3))) (nI_clamp (by omega)) (wt_as rfl (wt_as rfl (wt_as rfl (wt_as rfl hw)))) rfl (by decide) rfl (by decide) Ar_s hh
  have hh : pm_run PT n fr lo 192 (196, [some (.ref 162), some (.int t1), some (.int t2), some (.int t3), some (.int t4), some (.int (nI i))], [], aset (aset (aset (aset (aset h 166 8 (upd (Ar h 166) (z162_4 + i) ((Ar h 173) (4 * i)))) 167 8 (upd (Ar h 167) (z162_4 + i) ((Ar h 173) (4 * i + 1)))) 168 8 (upd (Ar h 168) (z162_4 + i) ((Ar h 173) (4 * i + 2)))) 170 96 (upd (Ar h 170) (78 + (z162_4 + i)) ((Ar h 173) (4 * i + 3)))) 170 96 (upd (upd (Ar h 170) (78 + (z162_4 + i)) ((Ar h 173) (4 * i + 3))) (86 + (z162_4 + i)) (shl (nI 1) ((Ar h 173) (4 * i + 3)))), 198, sl) = some R := hh
  rw [aset_aset] at hh
  obtain ⟨n, hh⟩ := rn_i rfl rfl rfl rfl hh
  have hh : pm_run PT n fr lo 192 (197, [some (.ref 162), some (.int t1), some (.int t2), some (.int t3), some (.int t4), some (.int (nI i))], [.ref 162], aset (aset (aset (aset h 166 8 (upd (Ar h 166) (z162_4 + i) ((Ar h 173) (4 * i)))) 167 8 (upd (Ar h 167) (z162_4 + i) ((Ar h 173) (4 * i + 1)))) 168 8 (upd (Ar h 168) (z162_4 + i) ((Ar h 173) (4 * i + 2)))) 170 96 (upd (upd (Ar h 170) (78 + (z162_4 + i)) ((Ar h 173) (4 * i + 3))) (86 + (z162_4 + i)) (shl (nI 1) ((Ar h 173) (4 * i + 3)))), 198, sl) = some R := hh
  obtain ⟨n, hh⟩ := rn_gr (wt_as rfl (wt_as rfl (wt_as rfl (wt_as rfl hw)))) rfl rfl (by decide) rfl (by decide) (show _ = some (2, ((170 : Nat) : Int), 1) from rfl) rfl hh
  obtain ⟨n, hh⟩ := rn_i rfl rfl rfl rfl hh
  obtain ⟨n, hh⟩ := rn_i rfl rfl rfl rfl hh
  have hh : pm_run PT n fr lo 192 (203, [some (.ref 162), some (.int t1), some (.int t2), some (.int t3), some (.int t4), some (.int (nI i))], [.int (nI 94), .ref 170, .int (nI 94), .ref 170], aset (aset (aset (aset h 166 8 (upd (Ar h 166) (z162_4 + i) ((Ar h 173) (4 * i)))) 167 8 (upd (Ar h 167) (z162_4 + i) ((Ar h 173) (4 * i + 1)))) 168 8 (upd (Ar h 168) (z162_4 + i) ((Ar h 173) (4 * i + 2)))) 170 96 (upd (upd (Ar h 170) (78 + (z162_4 + i)) ((Ar h 173) (4 * i + 3))) (86 + (z162_4 + i)) (shl (nI 1) ((Ar h 173) (4 * i + 3)))), 198, sl) = some R := hh
  obtain ⟨n, hx11, hh⟩ := en_lu (t := 94) (f := upd (upd (Ar h 170) (78 + (z162_4 + i)) ((Ar h 173) (4 * i + 3))) (86 + (z162_4 + i)) (shl (nI 1) ((Ar h 173) (4 * i + 3)))) (w := (upd (upd (Ar h 170) (78 + (z162_4 + i)) ((Ar h 173) (4 * i + 3))) (86 + (z162_4 + i)) (shl (nI 1) ((Ar h 173) (4 * i + 3)))) 94) (nI_clamp (by omega)) (wt_as rfl (wt_as rfl (wt_as rfl (wt_as rfl hw)))) rfl (by decide) rfl (by decide) Ar_s (fun _ => rfl) hh
  obtain ⟨n, hh⟩ := rn_i rfl rfl rfl rfl hh
  obtain ⟨n, hh⟩ := rn_i rfl rfl rfl rfl hh
  have hh : pm_run PT n fr lo 192 (206, [some (.ref 162), some (.int t1), some (.int t2), some (.int t3), some (.int t4), some (.int (nI i))], [.ref 162, .int (nI 1), .int ((upd (upd (Ar h 170) (78 + (z162_4 + i)) ((Ar h 173) (4 * i + 3))) (86 + (z162_4 + i)) (shl (nI 1) ((Ar h 173) (4 * i + 3)))) 94), .int (nI 94), .ref 170], aset (aset (aset (aset h 166 8 (upd (Ar h 166) (z162_4 + i) ((Ar h 173) (4 * i)))) 167 8 (upd (Ar h 167) (z162_4 + i) ((Ar h 173) (4 * i + 1)))) 168 8 (upd (Ar h 168) (z162_4 + i) ((Ar h 173) (4 * i + 2)))) 170 96 (upd (upd (Ar h 170) (78 + (z162_4 + i)) ((Ar h 173) (4 * i + 3))) (86 + (z162_4 + i)) (shl (nI 1) ((Ar h 173) (4 * i + 3)))), 198, sl) = some R := hh
  obtain ⟨n, hh⟩ := rn_gi (x := nI (z162_4 + i)) (wt_as rfl (wt_as rfl (wt_as rfl (wt_as rfl hw)))) rfl rfl (by decide) rfl (by decide) rfl ((Fi_a (by decide)).trans ((Fi_a (by decide)).trans ((Fi_a (by decide)).trans ((Fi_a (by decide)).trans e4)))) hh
  obtain ⟨n, hh⟩ := rn_i rfl rfl rfl rfl hh
  obtain ⟨n, hh⟩ := rn_i rfl rfl rfl rfl hh
  obtain ⟨n, hh⟩ := rn_i rfl rfl rfl rfl hh
  obtain ⟨n, hh⟩ := rn_i rfl rfl rfl rfl hh
  have hh : pm_run PT n fr lo 192 (213, [some (.ref 162), some (.int t1), some (.int t2), some (.int t3), some (.int t4), some (.int (nI i))], [.int (((upd (upd (Ar h 170) (78 + (z162_4 + i)) ((Ar h 173) (4 * i + 3))) (86 + (z162_4 + i)) (shl (nI 1) ((Ar h 173) (4 * i + 3)))) 94) &&& ((shl (nI 1) (nI (z162_4 + i))) ^^^ (Int32.ofInt (-1)))), .int (nI 94), .ref 170], aset (aset (aset (aset h 166 8 (upd (Ar h 166) (z162_4 + i) ((Ar h 173) (4 * i)))) 167 8 (upd (Ar h 167) (z162_4 + i) ((Ar h 173) (4 * i + 1)))) 168 8 (upd (Ar h 168) (z162_4 + i) ((Ar h 173) (4 * i + 2)))) 170 96 (upd (upd (Ar h 170) (78 + (z162_4 + i)) ((Ar h 173) (4 * i + 3))) (86 + (z162_4 + i)) (shl (nI 1) ((Ar h 173) (4 * i + 3)))), 198, sl) = some R := hh
  obtain ⟨n, hx12, hh⟩ := en_st (t := 94) (f := upd (upd (Ar h 170) (78 + (z162_4 + i)) ((Ar h 173) (4 * i + 3))) (86 + (z162_4 + i)) (shl (nI 1) ((Ar h 173) (4 * i + 3)))) (nI_clamp (by omega)) (wt_as rfl (wt_as rfl (wt_as rfl (wt_as rfl hw)))) rfl (by decide) rfl (by decide) Ar_s hh
  have hh : pm_run PT n fr lo 192 (214, [some (.ref 162), some (.int t1), some (.int t2), some (.int t3), some (.int t4), some (.int (nI i))], [], aset (aset (aset (aset (aset h 166 8 (upd (Ar h 166) (z162_4 + i) ((Ar h 173) (4 * i)))) 167 8 (upd (Ar h 167) (z162_4 + i) ((Ar h 173) (4 * i + 1)))) 168 8 (upd (Ar h 168) (z162_4 + i) ((Ar h 173) (4 * i + 2)))) 170 96 (upd (upd (Ar h 170) (78 + (z162_4 + i)) ((Ar h 173) (4 * i + 3))) (86 + (z162_4 + i)) (shl (nI 1) ((Ar h 173) (4 * i + 3))))) 170 96 (upd (upd (upd (Ar h 170) (78 + (z162_4 + i)) ((Ar h 173) (4 * i + 3))) (86 + (z162_4 + i)) (shl (nI 1) ((Ar h 173) (4 * i + 3)))) 94 (((upd (upd (Ar h 170) (78 + (z162_4 + i)) ((Ar h 173) (4 * i + 3))) (86 + (z162_4 + i)) (shl (nI 1) ((Ar h 173) (4 * i + 3)))) 94) &&& ((shl (nI 1) (nI (z162_4 + i))) ^^^ (Int32.ofInt (-1))))), 198, sl) = some R := hh
  rw [aset_aset] at hh
  obtain ⟨n, hh⟩ := rn_i rfl rfl rfl rfl hh
  obtain ⟨n, hh⟩ := rn_i rfl rfl rfl rfl hh
  have hh : pm_run PT n fr lo 192 (216, [some (.ref 162), some (.int t1), some (.int t2), some (.int t3), some (.int t4), some (.int (nI i))], [.ref 162, .ref 162], aset (aset (aset (aset h 166 8 (upd (Ar h 166) (z162_4 + i) ((Ar h 173) (4 * i)))) 167 8 (upd (Ar h 167) (z162_4 + i) ((Ar h 173) (4 * i + 1)))) 168 8 (upd (Ar h 168) (z162_4 + i) ((Ar h 173) (4 * i + 2)))) 170 96 (upd (upd (upd (Ar h 170) (78 + (z162_4 + i)) ((Ar h 173) (4 * i + 3))) (86 + (z162_4 + i)) (shl (nI 1) ((Ar h 173) (4 * i + 3)))) 94 (((upd (upd (Ar h 170) (78 + (z162_4 + i)) ((Ar h 173) (4 * i + 3))) (86 + (z162_4 + i)) (shl (nI 1) ((Ar h 173) (4 * i + 3)))) 94) &&& ((shl (nI 1) (nI (z162_4 + i))) ^^^ (Int32.ofInt (-1))))), 198, sl) = some R := hh
  obtain ⟨n, hh⟩ := rn_gi (x := nI (z162_4 + i)) (wt_as rfl (wt_as rfl (wt_as rfl (wt_as rfl hw)))) rfl rfl (by decide) rfl (by decide) rfl ((Fi_a (by decide)).trans ((Fi_a (by decide)).trans ((Fi_a (by decide)).trans ((Fi_a (by decide)).trans e4)))) hh
  obtain ⟨n, hh⟩ := rn_i rfl rfl rfl rfl hh
  have hh : pm_run PT n fr lo 192 (220, [some (.ref 162), some (.int t1), some (.int t2), some (.int t3), some (.int t4), some (.int (nI i))], [.int (nI 1), .int (nI (z162_4 + i)), .ref 162], aset (aset (aset (aset h 166 8 (upd (Ar h 166) (z162_4 + i) ((Ar h 173) (4 * i)))) 167 8 (upd (Ar h 167) (z162_4 + i) ((Ar h 173) (4 * i + 1)))) 168 8 (upd (Ar h 168) (z162_4 + i) ((Ar h 173) (4 * i + 2)))) 170 96 (upd (upd (upd (Ar h 170) (78 + (z162_4 + i)) ((Ar h 173) (4 * i + 3))) (86 + (z162_4 + i)) (shl (nI 1) ((Ar h 173) (4 * i + 3)))) 94 (((upd (upd (Ar h 170) (78 + (z162_4 + i)) ((Ar h 173) (4 * i + 3))) (86 + (z162_4 + i)) (shl (nI 1) ((Ar h 173) (4 * i + 3)))) 94) &&& ((shl (nI 1) (nI (z162_4 + i))) ^^^ (Int32.ofInt (-1))))), 198, sl) = some R := hh
  obtain ⟨n, hh⟩ := en_add rfl hh
  have hh : pm_run PT n fr lo 192 (221, [some (.ref 162), some (.int t1), some (.int t2), some (.int t3), some (.int t4), some (.int (nI i))], [.int (nI (z162_4 + i + 1)), .ref 162], aset (aset (aset (aset h 166 8 (upd (Ar h 166) (z162_4 + i) ((Ar h 173) (4 * i)))) 167 8 (upd (Ar h 167) (z162_4 + i) ((Ar h 173) (4 * i + 1)))) 168 8 (upd (Ar h 168) (z162_4 + i) ((Ar h 173) (4 * i + 2)))) 170 96 (upd (upd (upd (Ar h 170) (78 + (z162_4 + i)) ((Ar h 173) (4 * i + 3))) (86 + (z162_4 + i)) (shl (nI 1) ((Ar h 173) (4 * i + 3)))) 94 (((upd (upd (Ar h 170) (78 + (z162_4 + i)) ((Ar h 173) (4 * i + 3))) (86 + (z162_4 + i)) (shl (nI 1) ((Ar h 173) (4 * i + 3)))) 94) &&& ((shl (nI 1) (nI (z162_4 + i))) ^^^ (Int32.ofInt (-1))))), 198, sl) = some R := hh
  have hh : pm_run PT n fr lo 192 (221, [some (.ref 162), some (.int t1), some (.int t2), some (.int t3), some (.int t4), some (.int (nI i))], [.int (nI (z162_4 + i + 1)), .ref 162], aset (aset (aset (aset h 166 8 (upd (Ar h 166) (z162_4 + i) ((Ar h 173) (4 * i)))) 167 8 (upd (Ar h 167) (z162_4 + i) ((Ar h 173) (4 * i + 1)))) 168 8 (upd (Ar h 168) (z162_4 + i) ((Ar h 173) (4 * i + 2)))) 170 96 (upd (upd (upd (Ar h 170) (78 + (z162_4 + i)) ((Ar h 173) (4 * i + 3))) (86 + (z162_4 + i)) (shl (nI 1) ((Ar h 173) (4 * i + 3)))) 94 (((upd (upd (Ar h 170) (78 + (z162_4 + i)) ((Ar h 173) (4 * i + 3))) (86 + (z162_4 + i)) (shl (nI 1) ((Ar h 173) (4 * i + 3)))) 94) &&& ((shl (nI 1) (nI (z162_4 + i))) ^^^ (Int32.ofInt (-1))))), 198, sl) = some R := hh
  obtain ⟨n, hh⟩ := rn_pi (wt_as rfl (wt_as rfl (wt_as rfl (wt_as rfl hw)))) rfl rfl (by decide) rfl (by decide) rfl hh
  have hh : pm_run PT n fr lo 192 (224, [some (.ref 162), some (.int t1), some (.int t2), some (.int t3), some (.int t4), some (.int (nI i))], [], fset (aset (aset (aset (aset h 166 8 (upd (Ar h 166) (z162_4 + i) ((Ar h 173) (4 * i)))) 167 8 (upd (Ar h 167) (z162_4 + i) ((Ar h 173) (4 * i + 1)))) 168 8 (upd (Ar h 168) (z162_4 + i) ((Ar h 173) (4 * i + 2)))) 170 96 (upd (upd (upd (Ar h 170) (78 + (z162_4 + i)) ((Ar h 173) (4 * i + 3))) (86 + (z162_4 + i)) (shl (nI 1) ((Ar h 173) (4 * i + 3)))) 94 (((upd (upd (Ar h 170) (78 + (z162_4 + i)) ((Ar h 173) (4 * i + 3))) (86 + (z162_4 + i)) (shl (nI 1) ((Ar h 173) (4 * i + 3)))) 94) &&& ((shl (nI 1) (nI (z162_4 + i))) ^^^ (Int32.ofInt (-1)))))) 162 4 (.int (nI (z162_4 + i + 1))), 198, sl) = some R := hh
  obtain ⟨n, hh⟩ := en_inc (x := i) (c := 1) (j := 5) rfl rfl (by decide) hh
  have hh : pm_run PT n fr lo 192 (227, [some (.ref 162), some (.int t1), some (.int t2), some (.int t3), some (.int t4), some (.int (nI (i + 1)))], [], fset (aset (aset (aset (aset h 166 8 (upd (Ar h 166) (z162_4 + i) ((Ar h 173) (4 * i)))) 167 8 (upd (Ar h 167) (z162_4 + i) ((Ar h 173) (4 * i + 1)))) 168 8 (upd (Ar h 168) (z162_4 + i) ((Ar h 173) (4 * i + 2)))) 170 96 (upd (upd (upd (Ar h 170) (78 + (z162_4 + i)) ((Ar h 173) (4 * i + 3))) (86 + (z162_4 + i)) (shl (nI 1) ((Ar h 173) (4 * i + 3)))) 94 (((upd (upd (Ar h 170) (78 + (z162_4 + i)) ((Ar h 173) (4 * i + 3))) (86 + (z162_4 + i)) (shl (nI 1) ((Ar h 173) (4 * i + 3)))) 94) &&& ((shl (nI 1) (nI (z162_4 + i))) ^^^ (Int32.ofInt (-1)))))) 162 4 (.int (nI (z162_4 + i + 1))), 198, sl) = some R := hh
  obtain ⟨n, hh⟩ := rn_i rfl rfl rfl rfl hh
  have ed : w192_81b q cc gc h z162_20 z162_4 t1 t2 t3 t4 i = fset (aset (aset (aset (aset h 166 8 (upd (Ar h 166) (z162_4 + i) ((Ar h 173) (4 * i)))) 167 8 (upd (Ar h 167) (z162_4 + i) ((Ar h 173) (4 * i + 1)))) 168 8 (upd (Ar h 168) (z162_4 + i) ((Ar h 173) (4 * i + 2)))) 170 96 (upd (upd (upd (Ar h 170) (78 + (z162_4 + i)) ((Ar h 173) (4 * i + 3))) (86 + (z162_4 + i)) (shl (nI 1) ((Ar h 173) (4 * i + 3)))) 94 (((upd (upd (Ar h 170) (78 + (z162_4 + i)) ((Ar h 173) (4 * i + 3))) (86 + (z162_4 + i)) (shl (nI 1) ((Ar h 173) (4 * i + 3)))) 94) &&& ((shl (nI 1) (nI (z162_4 + i))) ^^^ (Int32.ofInt (-1)))))) 162 4 (.int (nI (z162_4 + i + 1))) := rfl
  rw [ed]
  exact ⟨n, (wt_fs rfl (by decide) rfl (wt_as rfl (wt_as rfl (wt_as rfl (wt_as rfl hw))))), (fr_f rfl rfl (fr_a rfl rfl (fr_a rfl rfl (fr_a rfl rfl (fr_a rfl rfl fr_0))))), (show Fi (fset (aset (aset (aset (aset h 166 8 (upd (Ar h 166) (z162_4 + i) ((Ar h 173) (4 * i)))) 167 8 (upd (Ar h 167) (z162_4 + i) ((Ar h 173) (4 * i + 1)))) 168 8 (upd (Ar h 168) (z162_4 + i) ((Ar h 173) (4 * i + 2)))) 170 96 (upd (upd (upd (Ar h 170) (78 + (z162_4 + i)) ((Ar h 173) (4 * i + 3))) (86 + (z162_4 + i)) (shl (nI 1) ((Ar h 173) (4 * i + 3)))) 94 (((upd (upd (Ar h 170) (78 + (z162_4 + i)) ((Ar h 173) (4 * i + 3))) (86 + (z162_4 + i)) (shl (nI 1) ((Ar h 173) (4 * i + 3)))) 94) &&& ((shl (nI 1) (nI (z162_4 + i))) ^^^ (Int32.ofInt (-1)))))) 162 4 (.int (nI (z162_4 + i + 1)))) 162 20 = nI z162_20 from ((Fi_n (Or.inr (by decide))).trans ((Fi_a (by decide)).trans ((Fi_a (by decide)).trans ((Fi_a (by decide)).trans ((Fi_a (by decide)).trans e20)))))), (show Fi (fset (aset (aset (aset (aset h 166 8 (upd (Ar h 166) (z162_4 + i) ((Ar h 173) (4 * i)))) 167 8 (upd (Ar h 167) (z162_4 + i) ((Ar h 173) (4 * i + 1)))) 168 8 (upd (Ar h 168) (z162_4 + i) ((Ar h 173) (4 * i + 2)))) 170 96 (upd (upd (upd (Ar h 170) (78 + (z162_4 + i)) ((Ar h 173) (4 * i + 3))) (86 + (z162_4 + i)) (shl (nI 1) ((Ar h 173) (4 * i + 3)))) 94 (((upd (upd (Ar h 170) (78 + (z162_4 + i)) ((Ar h 173) (4 * i + 3))) (86 + (z162_4 + i)) (shl (nI 1) ((Ar h 173) (4 * i + 3)))) 94) &&& ((shl (nI 1) (nI (z162_4 + i))) ^^^ (Int32.ofInt (-1)))))) 162 4 (.int (nI (z162_4 + i + 1)))) 162 4 = nI (z162_4 + (i + 1)) from (Fi_s (wt_as rfl (wt_as rfl (wt_as rfl (wt_as rfl hw)))) (by decide) rfl (by decide) rfl)), hh⟩
theorem w192_81_ok {fr lo sl cc gc : Nat} {q : QT} {R : pm_Rs} {z162_20 : Nat} {z162_4 : Nat} {t1 : Int32} {t2 : Int32} {t3 : Int32} {t4 : Int32} : ∀ {j i : Nat} {h : pm_H} {n : Nat}, z162_20 - i = j → i + j < 1000000 → WT h → z162_4 + z162_20 ≤ 8 → i ≤ z162_20 → Fi h 162 20 = nI z162_20 → Fi h 162 4 = nI (z162_4 + i) → pm_run PT n fr lo 192 (81, [some (.ref 162), some (.int t1), some (.int t2), some (.int t3), some (.int t4), some (.int (nI i))], [], h, 198, sl) = some R → ∃ m wc, WT ((w192_81 q cc gc z162_20 z162_4 t1 t2 t3 t4 j i h)) ∧ frm [162, 166, 167, 168, 170] [(162, 4)] h ((w192_81 q cc gc z162_20 z162_4 t1 t2 t3 t4 j i h)) ∧ Fi ((w192_81 q cc gc z162_20 z162_4 t1 t2 t3 t4 j i h)) 162 20 = nI z162_20 ∧ Fi ((w192_81 q cc gc z162_20 z162_4 t1 t2 t3 t4 j i h)) 162 4 = nI (z162_4 + z162_20) ∧ pm_run PT m fr lo 192 (230, [some (.ref 162), some (.int t1), some (.int t2), some (.int t3), some (.int t4), wc], [], (w192_81 q cc gc z162_20 z162_4 t1 t2 t3 t4 j i h), 198, sl) = some R := by
  intro j
  induction j with
  | zero =>
    intro i h n e eI hw hz hiN e20 e4 hh
    obtain ⟨n, hh⟩ := w192_81_e (q := q) (cc := cc) (gc := gc) hw hz e20 e4 (by omega) (by omega) hh
    exact ⟨n, _, hw, fr_0, e20, (e4.trans (congrArg (fun i => nI (z162_4 + i)) (show i = z162_20 by omega))), hh⟩
  | succ j ih =>
    intro i h n e eI hw hz hiN e20 e4 hh
    obtain ⟨n, hc, hf, e20', e4', hh⟩ := w192_81_s (q := q) (cc := cc) (gc := gc) hw hz e20 e4 (by omega) (by omega) hh
    obtain ⟨n, wc, hc2, hf2, e20'', e4'', hh⟩ := ih (by omega) (by omega) hc hz (by omega) e20' e4' hh
    exact ⟨n, wc, hc2, fr_t hf2 hf, e20'', e4'', hh⟩
theorem w192_81_fb {cc gc : Nat} {q : QT} {h : pm_H} {t1 : Int32} {t2 : Int32} {t3 : Int32} {t4 : Int32} {z162_20 : Nat} {z162_4 : Nat} {i : Nat} (hw : WT h) (hz : z162_4 + z162_20 ≤ 8) : WT ((w192_81b q cc gc h z162_20 z162_4 t1 t2 t3 t4 i)) ∧ frm [162, 166, 167, 168, 170] [(162, 4)] h ((w192_81b q cc gc h z162_20 z162_4 t1 t2 t3 t4 i)) := by
  unfold w192_81b
  show WT (fset (aset (aset (aset (aset h 166 8 (upd (Ar h 166) (z162_4 + i) ((Ar h 173) (4 * i)))) 167 8 (upd (Ar h 167) (z162_4 + i) ((Ar h 173) (4 * i + 1)))) 168 8 (upd (Ar h 168) (z162_4 + i) ((Ar h 173) (4 * i + 2)))) 170 96 (upd (upd (upd (Ar h 170) (78 + (z162_4 + i)) ((Ar h 173) (4 * i + 3))) (86 + (z162_4 + i)) (shl (nI 1) ((Ar h 173) (4 * i + 3)))) 94 (((upd (upd (Ar h 170) (78 + (z162_4 + i)) ((Ar h 173) (4 * i + 3))) (86 + (z162_4 + i)) (shl (nI 1) ((Ar h 173) (4 * i + 3)))) 94) &&& ((shl (nI 1) (nI (z162_4 + i))) ^^^ (Int32.ofInt (-1)))))) 162 4 (.int (nI (z162_4 + i + 1)))) ∧ frm [162, 166, 167, 168, 170] [(162, 4)] h (fset (aset (aset (aset (aset h 166 8 (upd (Ar h 166) (z162_4 + i) ((Ar h 173) (4 * i)))) 167 8 (upd (Ar h 167) (z162_4 + i) ((Ar h 173) (4 * i + 1)))) 168 8 (upd (Ar h 168) (z162_4 + i) ((Ar h 173) (4 * i + 2)))) 170 96 (upd (upd (upd (Ar h 170) (78 + (z162_4 + i)) ((Ar h 173) (4 * i + 3))) (86 + (z162_4 + i)) (shl (nI 1) ((Ar h 173) (4 * i + 3)))) 94 (((upd (upd (Ar h 170) (78 + (z162_4 + i)) ((Ar h 173) (4 * i + 3))) (86 + (z162_4 + i)) (shl (nI 1) ((Ar h 173) (4 * i + 3)))) 94) &&& ((shl (nI 1) (nI (z162_4 + i))) ^^^ (Int32.ofInt (-1)))))) 162 4 (.int (nI (z162_4 + i + 1))))
  exact ⟨(wt_fs rfl (by decide) rfl (wt_as rfl (wt_as rfl (wt_as rfl (wt_as rfl hw))))), (fr_f rfl rfl (fr_a rfl rfl (fr_a rfl rfl (fr_a rfl rfl (fr_a rfl rfl fr_0)))))⟩
theorem w192_81_fr {cc gc : Nat} {q : QT} {t1 : Int32} {t2 : Int32} {t3 : Int32} {t4 : Int32} {z162_20 : Nat} {z162_4 : Nat} (hz : z162_4 + z162_20 ≤ 8) : ∀ {j i : Nat} {h : pm_H}, WT h → WT ((w192_81 q cc gc z162_20 z162_4 t1 t2 t3 t4 j i h)) ∧ frm [162, 166, 167, 168, 170] [(162, 4)] h ((w192_81 q cc gc z162_20 z162_4 t1 t2 t3 t4 j i h)) := by
  intro j
  induction j with
  | zero =>
    intro i h hw
    exact ⟨hw, fr_0⟩
  | succ j ih =>
    intro i h hw
    obtain ⟨a1, a2⟩ := w192_81_fb (i := i) (t1 := t1) (t2 := t2) (t3 := t3) (t4 := t4) (z162_20 := z162_20) (z162_4 := z162_4) hw hz
    obtain ⟨b1, b2⟩ := ih (i := i + 1) a1
    exact ⟨b1, fr_t b2 a2⟩
def w192 (q : QT) (cc gc : Nat) (h : pm_H) (r : Nat) (c : Nat) (F : Int32) (x1 : Int32) (x2 : Int32) (x3 : Int32) : Int32 × pm_H := (nI r, w190 q cc gc (w192_81 q cc gc r c x1 x2 x3 F r 0 h) r)
theorem w192_ok {n fr lo sl cc gc : Nat} {q : QT} {h : pm_H} {R : pm_Rs} {r : Nat} {c : Nat} {F : Int32} {x1 : Int32} {x2 : Int32} {x3 : Int32} (hw : WT h) (hc : c + r ≤ 8) (e20 : Fi h 162 20 = nI r) (e4 : Fi h 162 4 = nI c) (hh : pm_run PT n fr lo 192 (78, [some (.ref 162), some (.int x1), some (.int x2), some (.int x3), some (.int F), none], [], h, 198, sl) = some R) : R = (some (.int ((w192 q cc gc h r c F x1 x2 x3).1)), (w192 q cc gc h r c F x1 x2 x3).2, 198, sl) ∧ WT ((w192 q cc gc h r c F x1 x2 x3).2) ∧ frm [162, 166, 167, 168, 170] [(162, 4), (162, 5), (162, 27)] h ((w192 q cc gc h r c F x1 x2 x3).2) := by
  obtain ⟨n, hh⟩ := rn_i rfl rfl rfl rfl hh
  obtain ⟨n, hh⟩ := rn_i rfl rfl rfl rfl hh
  have hh : pm_run PT n fr lo 192 (81, [some (.ref 162), some (.int x1), some (.int x2), some (.int x3), some (.int F), some (.int (nI 0))], [], h, 198, sl) = some R := hh
  obtain ⟨n, u1, hc4, hf5, hn2, hn3, hh⟩ := w192_81_ok (q := q) (cc := cc) (gc := gc) (t1 := x1) (t2 := x2) (t3 := x3) (t4 := F)  (z162_20 := r) (z162_4 := c) (i := 0) (j := r) (by omega) (by omega) hw (by omega) (by omega) (show Fi (h) 162 20 = nI r from e20) (show Fi (h) 162 4 = nI (c + 0) from e4) hh
  have hh : pm_run PT n fr lo 192 (230, [some (.ref 162), some (.int x1), some (.int x2), some (.int x3), some (.int F), u1], [], (w192_81 q cc gc r c x1 x2 x3 F r 0 h), 198, sl) = some R := hh
  obtain ⟨n, hh⟩ := rn_i rfl rfl rfl rfl hh
  have hh : pm_run PT n fr lo 192 (231, [some (.ref 162), some (.int x1), some (.int x2), some (.int x3), some (.int F), u1], [.ref 162], (w192_81 q cc gc r c x1 x2 x3 F r 0 h), 198, sl) = some R := hh
  obtain ⟨n, fr1, lo1, r1, hh1, hh⟩ := rn_call (w := 0) (t := 190) rfl rfl hh
  obtain ⟨er6, hc7, hf8⟩ := w190_ok (q := q) (cc := cc) (gc := gc) (r := r) hc4 (by omega) hn2 hh1
  subst er6
  obtain ⟨n, hh⟩ := rn_i rfl rfl rfl rfl hh
  have hh : pm_run PT n fr lo 192 (235, [some (.ref 162), some (.int x1), some (.int x2), some (.int x3), some (.int F), u1], [.ref 162], w190 q cc gc (w192_81 q cc gc r c x1 x2 x3 F r 0 h) r, 198, sl) = some R := hh
  obtain ⟨n, hh⟩ := rn_gi (x := nI r) hc7 rfl rfl (by decide) rfl (by decide) rfl ((hf8.2 162 20 (by decide +kernel) rfl).trans hn2) hh
  have hh : pm_run PT n fr lo 192 (238, [some (.ref 162), some (.int x1), some (.int x2), some (.int x3), some (.int F), u1], [.int (nI r)], w190 q cc gc (w192_81 q cc gc r c x1 x2 x3 F r 0 h) r, 198, sl) = some R := hh
  have er9 : R = (some (.int (nI r)), w190 q cc gc (w192_81 q cc gc r c x1 x2 x3 F r 0 h) r, 198, sl) := (rn_ret rfl (Or.inl rfl) hh).2
  have ed : w192 q cc gc h r c F x1 x2 x3 = (nI r, w190 q cc gc (w192_81 q cc gc r c x1 x2 x3 F r 0 h) r) := rfl
  refine ⟨?_, ?_, ?_⟩ <;> rw [ed]
  · exact er9
  · exact hc7
  · exact (fr_g rfl rfl hf8 (fr_g rfl rfl hf5 fr_0))
def w197a_7b (q : QT) (cc gc : Nat) (h : pm_H) (m2 : Nat) (i : Nat) : pm_H := aset h 174 80 (upd (Ar h 174) i ((Ar h 175) i))
def w197a_7 (q : QT) (cc gc : Nat) (m2 : Nat) (j i : Nat) (a : pm_H) : pm_H := lp (fun i a => w197a_7b q cc gc a m2 i) j i a
theorem w197a_7_e {n fr lo sl cc gc : Nat} {q : QT} {h : pm_H} {R : pm_Rs} {m2 : Nat} {i : Nat} (hw : WT h) (h_m2 : m2 < 10000) (hz : m2 ≤ 80) (hi : m2 ≤ i) (hI : i < 1000000) (hh : pm_run PT n fr lo 197 (7, [some (.ref 162), some (.ref 175), some (.int (nI m2)), some (.int (nI i))], [], h, 198, sl) = some R) : ∃ m, pm_run PT m fr lo 197 (27, [some (.ref 162), some (.ref 175), some (.int (nI m2)), some (.int (nI i))], [], h, 198, sl) = some R := by
  obtain ⟨n, hh⟩ := rn_i rfl rfl rfl rfl hh
  obtain ⟨n, hh⟩ := rn_i rfl rfl rfl rfl hh
  have hh : pm_run PT n fr lo 197 (9, [some (.ref 162), some (.ref 175), some (.int (nI m2)), some (.int (nI i))], [.int (nI m2), .int (nI i)], h, 198, sl) = some R := hh
  obtain ⟨n, hh⟩ := en_cn (cc := .ge) (off := 18) (t := 27) (b := decide (m2 ≤ i)) (hI_ge (by omega) (by omega)) rfl rfl hh
  have hh := en_t (show decide (m2 ≤ i) = true from decide_eq_true (by omega)) hh
  have hh : pm_run PT n fr lo 197 (27, [some (.ref 162), some (.ref 175), some (.int (nI m2)), some (.int (nI i))], [], h, 198, sl) = some R := hh
  exact ⟨n, hh⟩
theorem w197a_7_s {n fr lo sl cc gc : Nat} {q : QT} {h : pm_H} {R : pm_Rs} {m2 : Nat} {i : Nat} (hw : WT h) (h_m2 : m2 < 10000) (hz : m2 ≤ 80) (hi : i < m2) (hI : i < 1000000) (hh : pm_run PT n fr lo 197 (7, [some (.ref 162), some (.ref 175), some (.int (nI m2)), some (.int (nI i))], [], h, 198, sl) = some R) : ∃ m, WT ((w197a_7b q cc gc h m2 i)) ∧ frm [174] [] h ((w197a_7b q cc gc h m2 i)) ∧ pm_run PT m fr lo 197 (7, [some (.ref 162), some (.ref 175), some (.int (nI m2)), some (.int (nI (i + 1)))], [], (w197a_7b q cc gc h m2 i), 198, sl) = some R := by
  obtain ⟨n, hh⟩ := rn_i rfl rfl rfl rfl hh
  obtain ⟨n, hh⟩ := rn_i rfl rfl rfl rfl hh
  have hh : pm_run PT n fr lo 197 (9, [some (.ref 162), some (.ref 175), some (.int (nI m2)), some (.int (nI i))], [.int (nI m2), .int (nI i)], h, 198, sl) = some R := hh
  obtain ⟨n, hh⟩ := en_cn (cc := .ge) (off := 18) (t := 27) (b := decide (m2 ≤ i)) (hI_ge (by omega) (by omega)) rfl rfl hh
  have hh := en_f (show decide (m2 ≤ i) = false from decide_eq_false (by omega)) hh
  have hh : pm_run PT n fr lo 197 (12, [some (.ref 162), some (.ref 175), some (.int (nI m2)), some (.int (nI i))], [], h, 198, sl) = some R := hh
  obtain ⟨n, hh⟩ := rn_i rfl rfl rfl rfl hh
  have hh : pm_run PT n fr lo 197 (13, [some (.ref 162), some (.ref 175), some (.int (nI m2)), some (.int (nI i))], [.ref 162], h, 198, sl) = some R := hh
  obtain ⟨n, hh⟩ := rn_gr hw rfl rfl (by decide) rfl (by decide) (show _ = some (2, ((174 : Nat) : Int), 1) from rfl) rfl hh
  obtain ⟨n, hh⟩ := rn_i rfl rfl rfl rfl hh
  obtain ⟨n, hh⟩ := rn_i rfl rfl rfl rfl hh
  obtain ⟨n, hh⟩ := rn_i rfl rfl rfl rfl hh
  have hh : pm_run PT n fr lo 197 (19, [some (.ref 162), some (.ref 175), some (.int (nI m2)), some (.int (nI i))], [.int (nI i), .ref 175, .int (nI i), .ref 174], h, 198, sl) = some R := hh
  obtain ⟨n, hx1, hh⟩ := en_lu (t := i) (f := Ar h 175) (w := (Ar h 175) i) (nI_clamp (by omega)) hw rfl (by decide) rfl (by decide) rfl (fun _ => rfl) hh
  have hh : pm_run PT n fr lo 197 (20, [some (.ref 162), some (.ref 175), some (.int (nI m2)), some (.int (nI i))], [.int ((Ar h 175) i), .int (nI i), .ref 174], h, 198, sl) = some R := hh
  obtain ⟨n, hx2, hh⟩ := en_st (t := i) (f := Ar h 174) (nI_clamp (by omega)) hw rfl (by decide) rfl (by decide) rfl hh
  have hh : pm_run PT n fr lo 197 (21, [some (.ref 162), some (.ref 175), some (.int (nI m2)), some (.int (nI i))], [], aset h 174 80 (upd (Ar h 174) i ((Ar h 175) i)), 198, sl) = some R := hh
  obtain ⟨n, hh⟩ := en_inc (x := i) (c := 1) (j := 3) rfl rfl (by decide) hh
  have hh : pm_run PT n fr lo 197 (24, [some (.ref 162), some (.ref 175), some (.int (nI m2)), some (.int (nI (i + 1)))], [], aset h 174 80 (upd (Ar h 174) i ((Ar h 175) i)), 198, sl) = some R := hh
  obtain ⟨n, hh⟩ := rn_i rfl rfl rfl rfl hh
  have ed : w197a_7b q cc gc h m2 i = aset h 174 80 (upd (Ar h 174) i ((Ar h 175) i)) := rfl
  rw [ed]
  exact ⟨n, (wt_as rfl hw), (fr_a rfl rfl fr_0), hh⟩
theorem w197a_7_ok {fr lo sl cc gc : Nat} {q : QT} {R : pm_Rs} {m2 : Nat} : ∀ {j i : Nat} {h : pm_H} {n : Nat}, m2 - i = j → i + j < 1000000 → WT h → m2 < 10000 → m2 ≤ 80 → pm_run PT n fr lo 197 (7, [some (.ref 162), some (.ref 175), some (.int (nI m2)), some (.int (nI i))], [], h, 198, sl) = some R → ∃ m wc, WT ((w197a_7 q cc gc m2 j i h)) ∧ frm [174] [] h ((w197a_7 q cc gc m2 j i h)) ∧ pm_run PT m fr lo 197 (27, [some (.ref 162), some (.ref 175), some (.int (nI m2)), wc], [], (w197a_7 q cc gc m2 j i h), 198, sl) = some R := by
  intro j
  induction j with
  | zero =>
    intro i h n e eI hw h_m2 hz hh
    obtain ⟨n, hh⟩ := w197a_7_e (q := q) (cc := cc) (gc := gc) hw h_m2 hz (by omega) (by omega) hh
    exact ⟨n, _, hw, fr_0, hh⟩
  | succ j ih =>
    intro i h n e eI hw h_m2 hz hh
    obtain ⟨n, hc, hf, hh⟩ := w197a_7_s (q := q) (cc := cc) (gc := gc) hw h_m2 hz (by omega) (by omega) hh
    obtain ⟨n, wc, hc2, hf2, hh⟩ := ih (by omega) (by omega) hc h_m2 hz hh
    exact ⟨n, wc, hc2, fr_t hf2 hf, hh⟩
theorem w197a_7_fb {cc gc : Nat} {q : QT} {h : pm_H} {m2 : Nat} {i : Nat} (hw : WT h) (hz : m2 ≤ 80) : WT ((w197a_7b q cc gc h m2 i)) ∧ frm [174] [] h ((w197a_7b q cc gc h m2 i)) := by
  unfold w197a_7b
  show WT (aset h 174 80 (upd (Ar h 174) i ((Ar h 175) i))) ∧ frm [174] [] h (aset h 174 80 (upd (Ar h 174) i ((Ar h 175) i)))
  exact ⟨(wt_as rfl hw), (fr_a rfl rfl fr_0)⟩
theorem w197a_7_fr {cc gc : Nat} {q : QT} {m2 : Nat} (hz : m2 ≤ 80) : ∀ {j i : Nat} {h : pm_H}, WT h → WT ((w197a_7 q cc gc m2 j i h)) ∧ frm [174] [] h ((w197a_7 q cc gc m2 j i h)) := by
  intro j
  induction j with
  | zero =>
    intro i h hw
    exact ⟨hw, fr_0⟩
  | succ j ih =>
    intro i h hw
    obtain ⟨a1, a2⟩ := w197a_7_fb (i := i) (m2 := m2) hw hz
    obtain ⟨b1, b2⟩ := ih (i := i + 1) a1
    exact ⟨b1, fr_t b2 a2⟩
def w197a (q : QT) (cc gc : Nat) (h : pm_H) (m : Nat) : pm_H := (w197a_7 q cc gc m m 0 (fset h 162 23 (.int (nI m))))
theorem w197a_ok {n fr lo sl cc gc : Nat} {q : QT} {h : pm_H} {R : pm_Rs} {m : Nat} (hw : WT h) (h_m : m < 81) (hm : m ≤ 80) (hh : pm_run PT n fr lo 197 (0, pm_l0 [.ref 162, .ref 175, .int (nI m)] 4, [], h, 198, sl) = some R) : R = (none, w197a q cc gc h m, 198, sl) ∧ WT (w197a q cc gc h m) ∧ frm [162, 174] [(162, 23)] h (w197a q cc gc h m) := by
  obtain ⟨n, hh⟩ := rn_i rfl rfl rfl rfl hh
  obtain ⟨n, hh⟩ := rn_i rfl rfl rfl rfl hh
  have hh : pm_run PT n fr lo 197 (2, [some (.ref 162), some (.ref 175), some (.int (nI m)), none], [.int (nI m), .ref 162], h, 198, sl) = some R := hh
  obtain ⟨n, hh⟩ := rn_pi hw rfl rfl (by decide) rfl (by decide) rfl hh
  obtain ⟨n, hh⟩ := rn_i rfl rfl rfl rfl hh
  obtain ⟨n, hh⟩ := rn_i rfl rfl rfl rfl hh
  have hh : pm_run PT n fr lo 197 (7, [some (.ref 162), some (.ref 175), some (.int (nI m)), some (.int (nI 0))], [], fset h 162 23 (.int (nI m)), 198, sl) = some R := hh
  obtain ⟨n, u1, hc2, hf3, hh⟩ := w197a_7_ok (q := q) (cc := cc) (gc := gc) (m2 := m)  (i := 0) (j := m) (by omega) (by omega) (wt_fs rfl (by decide) rfl hw) (by omega) hm hh
  have hh : pm_run PT n fr lo 197 (27, [some (.ref 162), some (.ref 175), some (.int (nI m)), u1], [], (w197a_7 q cc gc m m 0 (fset h 162 23 (.int (nI m)))), 198, sl) = some R := hh
  have er4 : R = (none, (w197a_7 q cc gc m m 0 (fset h 162 23 (.int (nI m)))), 198, sl) := rn_vret rfl rfl hh
  have ed : w197a q cc gc h m = (w197a_7 q cc gc m m 0 (fset h 162 23 (.int (nI m)))) := rfl
  refine ⟨?_, ?_, ?_⟩ <;> rw [ed]
  · exact er4
  · exact hc2
  · exact (fr_g rfl rfl hf3 (fr_f rfl rfl fr_0))
def w197b_7b (q : QT) (cc gc : Nat) (h : pm_H) (m2 : Nat) (i : Nat) : pm_H := aset h 174 80 (upd (Ar h 174) i ((Ar h 193) i))
def w197b_7 (q : QT) (cc gc : Nat) (m2 : Nat) (j i : Nat) (a : pm_H) : pm_H := lp (fun i a => w197b_7b q cc gc a m2 i) j i a
theorem w197b_7_e {n fr lo sl cc gc : Nat} {q : QT} {h : pm_H} {R : pm_Rs} {m2 : Nat} {i : Nat} (hw : WT h) (h_m2 : m2 < 10000) (hz : m2 ≤ 80) (hi : m2 ≤ i) (hI : i < 1000000) (hh : pm_run PT n fr lo 197 (7, [some (.ref 162), some (.ref 193), some (.int (nI m2)), some (.int (nI i))], [], h, 198, sl) = some R) : ∃ m, pm_run PT m fr lo 197 (27, [some (.ref 162), some (.ref 193), some (.int (nI m2)), some (.int (nI i))], [], h, 198, sl) = some R := by
  obtain ⟨n, hh⟩ := rn_i rfl rfl rfl rfl hh
  obtain ⟨n, hh⟩ := rn_i rfl rfl rfl rfl hh
  have hh : pm_run PT n fr lo 197 (9, [some (.ref 162), some (.ref 193), some (.int (nI m2)), some (.int (nI i))], [.int (nI m2), .int (nI i)], h, 198, sl) = some R := hh
  obtain ⟨n, hh⟩ := en_cn (cc := .ge) (off := 18) (t := 27) (b := decide (m2 ≤ i)) (hI_ge (by omega) (by omega)) rfl rfl hh
  have hh := en_t (show decide (m2 ≤ i) = true from decide_eq_true (by omega)) hh
  have hh : pm_run PT n fr lo 197 (27, [some (.ref 162), some (.ref 193), some (.int (nI m2)), some (.int (nI i))], [], h, 198, sl) = some R := hh
  exact ⟨n, hh⟩
theorem w197b_7_s {n fr lo sl cc gc : Nat} {q : QT} {h : pm_H} {R : pm_Rs} {m2 : Nat} {i : Nat} (hw : WT h) (h_m2 : m2 < 10000) (hz : m2 ≤ 80) (hi : i < m2) (hI : i < 1000000) (hh : pm_run PT n fr lo 197 (7, [some (.ref 162), some (.ref 193), some (.int (nI m2)), some (.int (nI i))], [], h, 198, sl) = some R) : ∃ m, WT ((w197b_7b q cc gc h m2 i)) ∧ frm [174] [] h ((w197b_7b q cc gc h m2 i)) ∧ pm_run PT m fr lo 197 (7, [some (.ref 162), some (.ref 193), some (.int (nI m2)), some (.int (nI (i + 1)))], [], (w197b_7b q cc gc h m2 i), 198, sl) = some R := by
  obtain ⟨n, hh⟩ := rn_i rfl rfl rfl rfl hh
  obtain ⟨n, hh⟩ := rn_i rfl rfl rfl rfl hh
  have hh : pm_run PT n fr lo 197 (9, [some (.ref 162), some (.ref 193), some (.int (nI m2)), some (.int (nI i))], [.int (nI m2), .int (nI i)], h, 198, sl) = some R := hh
  obtain ⟨n, hh⟩ := en_cn (cc := .ge) (off := 18) (t := 27) (b := decide (m2 ≤ i)) (hI_ge (by omega) (by omega)) rfl rfl hh
  have hh := en_f (show decide (m2 ≤ i) = false from decide_eq_false (by omega)) hh
  have hh : pm_run PT n fr lo 197 (12, [some (.ref 162), some (.ref 193), some (.int (nI m2)), some (.int (nI i))], [], h, 198, sl) = some R := hh
  obtain ⟨n, hh⟩ := rn_i rfl rfl rfl rfl hh
  have hh : pm_run PT n fr lo 197 (13, [some (.ref 162), some (.ref 193), some (.int (nI m2)), some (.int (nI i))], [.ref 162], h, 198, sl) = some R := hh
  obtain ⟨n, hh⟩ := rn_gr hw rfl rfl (by decide) rfl (by decide) (show _ = some (2, ((174 : Nat) : Int), 1) from rfl) rfl hh
  obtain ⟨n, hh⟩ := rn_i rfl rfl rfl rfl hh
  obtain ⟨n, hh⟩ := rn_i rfl rfl rfl rfl hh
  obtain ⟨n, hh⟩ := rn_i rfl rfl rfl rfl hh
  have hh : pm_run PT n fr lo 197 (19, [some (.ref 162), some (.ref 193), some (.int (nI m2)), some (.int (nI i))], [.int (nI i), .ref 193, .int (nI i), .ref 174], h, 198, sl) = some R := hh
  obtain ⟨n, hx1, hh⟩ := en_lu (t := i) (f := Ar h 193) (w := (Ar h 193) i) (nI_clamp (by omega)) hw rfl (by decide) rfl (by decide) rfl (fun _ => rfl) hh
  have hh : pm_run PT n fr lo 197 (20, [some (.ref 162), some (.ref 193), some (.int (nI m2)), some (.int (nI i))], [.int ((Ar h 193) i), .int (nI i), .ref 174], h, 198, sl) = some R := hh
  obtain ⟨n, hx2, hh⟩ := en_st (t := i) (f := Ar h 174) (nI_clamp (by omega)) hw rfl (by decide) rfl (by decide) rfl hh
  have hh : pm_run PT n fr lo 197 (21, [some (.ref 162), some (.ref 193), some (.int (nI m2)), some (.int (nI i))], [], aset h 174 80 (upd (Ar h 174) i ((Ar h 193) i)), 198, sl) = some R := hh
  obtain ⟨n, hh⟩ := en_inc (x := i) (c := 1) (j := 3) rfl rfl (by decide) hh
  have hh : pm_run PT n fr lo 197 (24, [some (.ref 162), some (.ref 193), some (.int (nI m2)), some (.int (nI (i + 1)))], [], aset h 174 80 (upd (Ar h 174) i ((Ar h 193) i)), 198, sl) = some R := hh
  obtain ⟨n, hh⟩ := rn_i rfl rfl rfl rfl hh
  have ed : w197b_7b q cc gc h m2 i = aset h 174 80 (upd (Ar h 174) i ((Ar h 193) i)) := rfl
  rw [ed]
  exact ⟨n, (wt_as rfl hw), (fr_a rfl rfl fr_0), hh⟩
theorem w197b_7_ok {fr lo sl cc gc : Nat} {q : QT} {R : pm_Rs} {m2 : Nat} : ∀ {j i : Nat} {h : pm_H} {n : Nat}, m2 - i = j → i + j < 1000000 → WT h → m2 < 10000 → m2 ≤ 80 → pm_run PT n fr lo 197 (7, [some (.ref 162), some (.ref 193), some (.int (nI m2)), some (.int (nI i))], [], h, 198, sl) = some R → ∃ m wc, WT ((w197b_7 q cc gc m2 j i h)) ∧ frm [174] [] h ((w197b_7 q cc gc m2 j i h)) ∧ pm_run PT m fr lo 197 (27, [some (.ref 162), some (.ref 193), some (.int (nI m2)), wc], [], (w197b_7 q cc gc m2 j i h), 198, sl) = some R := by
  intro j
  induction j with
  | zero =>
    intro i h n e eI hw h_m2 hz hh
    obtain ⟨n, hh⟩ := w197b_7_e (q := q) (cc := cc) (gc := gc) hw h_m2 hz (by omega) (by omega) hh
    exact ⟨n, _, hw, fr_0, hh⟩
  | succ j ih =>
    intro i h n e eI hw h_m2 hz hh
    obtain ⟨n, hc, hf, hh⟩ := w197b_7_s (q := q) (cc := cc) (gc := gc) hw h_m2 hz (by omega) (by omega) hh
    obtain ⟨n, wc, hc2, hf2, hh⟩ := ih (by omega) (by omega) hc h_m2 hz hh
    exact ⟨n, wc, hc2, fr_t hf2 hf, hh⟩
theorem w197b_7_fb {cc gc : Nat} {q : QT} {h : pm_H} {m2 : Nat} {i : Nat} (hw : WT h) (hz : m2 ≤ 80) : WT ((w197b_7b q cc gc h m2 i)) ∧ frm [174] [] h ((w197b_7b q cc gc h m2 i)) := by
  unfold w197b_7b
  show WT (aset h 174 80 (upd (Ar h 174) i ((Ar h 193) i))) ∧ frm [174] [] h (aset h 174 80 (upd (Ar h 174) i ((Ar h 193) i)))
  exact ⟨(wt_as rfl hw), (fr_a rfl rfl fr_0)⟩
theorem w197b_7_fr {cc gc : Nat} {q : QT} {m2 : Nat} (hz : m2 ≤ 80) : ∀ {j i : Nat} {h : pm_H}, WT h → WT ((w197b_7 q cc gc m2 j i h)) ∧ frm [174] [] h ((w197b_7 q cc gc m2 j i h)) := by
  intro j
  induction j with
  | zero =>
    intro i h hw
    exact ⟨hw, fr_0⟩
  | succ j ih =>
    intro i h hw
    obtain ⟨a1, a2⟩ := w197b_7_fb (i := i) (m2 := m2) hw hz
    obtain ⟨b1, b2⟩ := ih (i := i + 1) a1
    exact ⟨b1, fr_t b2 a2⟩
def w197b (q : QT) (cc gc : Nat) (h : pm_H) (m : Nat) : pm_H := (w197b_7 q cc gc m m 0 (fset h 162 23 (.int (nI m))))
theorem w197b_ok {n fr lo sl cc gc : Nat} {q : QT} {h : pm_H} {R : pm_Rs} {m : Nat} (hw : WT h) (h_m : m < 81) (hm : m ≤ 80) (hh : pm_run PT n fr lo 197 (0, pm_l0 [.ref 162, .ref 193, .int (nI m)] 4, [], h, 198, sl) = some R) : R = (none, w197b q cc gc h m, 198, sl) ∧ WT (w197b q cc gc h m) ∧ frm [162, 174] [(162, 23)] h (w197b q cc gc h m) := by
  obtain ⟨n, hh⟩ := rn_i rfl rfl rfl rfl hh
  obtain ⟨n, hh⟩ := rn_i rfl rfl rfl rfl hh
  have hh : pm_run PT n fr lo 197 (2, [some (.ref 162), some (.ref 193), some (.int (nI m)), none], [.int (nI m), .ref 162], h, 198, sl) = some R := hh
  obtain ⟨n, hh⟩ := rn_pi hw rfl rfl (by decide) rfl (by decide) rfl hh
  obtain ⟨n, hh⟩ := rn_i rfl rfl rfl rfl hh
  obtain ⟨n, hh⟩ := rn_i rfl rfl rfl rfl hh
  have hh : pm_run PT n fr lo 197 (7, [some (.ref 162), some (.ref 193), some (.int (nI m)), some (.int (nI 0))], [], fset h 162 23 (.int (nI m)), 198, sl) = some R := hh
  obtain ⟨n, u1, hc2, hf3, hh⟩ := w197b_7_ok (q := q) (cc := cc) (gc := gc) (m2 := m)  (i := 0) (j := m) (by omega) (by omega) (wt_fs rfl (by decide) rfl hw) (by omega) hm hh
  have hh : pm_run PT n fr lo 197 (27, [some (.ref 162), some (.ref 193), some (.int (nI m)), u1], [], (w197b_7 q cc gc m m 0 (fset h 162 23 (.int (nI m)))), 198, sl) = some R := hh
  have er4 : R = (none, (w197b_7 q cc gc m m 0 (fset h 162 23 (.int (nI m)))), 198, sl) := rn_vret rfl rfl hh
  have ed : w197b q cc gc h m = (w197b_7 q cc gc m m 0 (fset h 162 23 (.int (nI m)))) := rfl
  refine ⟨?_, ?_, ?_⟩ <;> rw [ed]
  · exact er4
  · exact hc2
  · exact (fr_g rfl rfl hf3 (fr_f rfl rfl fr_0))
def w258_35b (q : QT) (cc gc : Nat) (h : pm_H) (z162_23 : Nat) (t1 : Int32) (t2 : Int32) (t3 : Int32) (i : Nat) : pm_H := aset h 193 80 (upd (Ar h 193) i ((Ar h 174) i))
def w258_35 (q : QT) (cc gc : Nat) (z162_23 : Nat) (t1 : Int32) (t2 : Int32) (t3 : Int32) (j i : Nat) (a : pm_H) : pm_H := lp (fun i a => w258_35b q cc gc a z162_23 t1 t2 t3 i) j i a
theorem w258_35_e {n fr lo sl cc gc : Nat} {q : QT} {h : pm_H} {R : pm_Rs} {z162_23 : Nat} {t1 : Int32} {t2 : Int32} {t3 : Int32} {i : Nat} (hw : WT h) (hz : z162_23 ≤ 80) (e23 : Fi h 162 23 = nI z162_23) (hi : z162_23 ≤ i) (hI : i < 1000000) (hh : pm_run PT n fr lo 258 (35, [some (.ref 162), some (.int t1), some (.int t2), some (.int t3), some (.int (nI i))], [], h, 198, sl) = some R) : ∃ m, pm_run PT m fr lo 258 (64, [some (.ref 162), some (.int t1), some (.int t2), some (.int t3), some (.int (nI i))], [], h, 198, sl) = some R := by
  obtain ⟨n, hh⟩ := rn_i rfl rfl rfl rfl hh
  obtain ⟨n, hh⟩ := rn_i rfl rfl rfl rfl hh
  have hh : pm_run PT n fr lo 258 (38, [some (.ref 162), some (.int t1), some (.int t2), some (.int t3), some (.int (nI i))], [.ref 162, .int (nI i)], h, 198, sl) = some R := hh
  obtain ⟨n, hh⟩ := rn_gi (x := nI z162_23) hw rfl rfl (by decide) rfl (by decide) rfl e23 hh
  have hh : pm_run PT n fr lo 258 (41, [some (.ref 162), some (.int t1), some (.int t2), some (.int t3), some (.int (nI i))], [.int (nI z162_23), .int (nI i)], h, 198, sl) = some R := hh
  obtain ⟨n, hh⟩ := en_cn (cc := .ge) (off := 23) (t := 64) (b := decide (z162_23 ≤ i)) (hI_ge (by omega) (by omega)) rfl rfl hh
  have hh := en_t (show decide (z162_23 ≤ i) = true from decide_eq_true (by omega)) hh
  have hh : pm_run PT n fr lo 258 (64, [some (.ref 162), some (.int t1), some (.int t2), some (.int t3), some (.int (nI i))], [], h, 198, sl) = some R := hh
  exact ⟨n, hh⟩
theorem w258_35_s {n fr lo sl cc gc : Nat} {q : QT} {h : pm_H} {R : pm_Rs} {z162_23 : Nat} {t1 : Int32} {t2 : Int32} {t3 : Int32} {i : Nat} (hw : WT h) (hz : z162_23 ≤ 80) (e23 : Fi h 162 23 = nI z162_23) (hi : i < z162_23) (hI : i < 1000000) (hh : pm_run PT n fr lo 258 (35, [some (.ref 162), some (.int t1), some (.int t2), some (.int t3), some (.int (nI i))], [], h, 198, sl) = some R) : ∃ m, WT ((w258_35b q cc gc h z162_23 t1 t2 t3 i)) ∧ frm [193] [] h ((w258_35b q cc gc h z162_23 t1 t2 t3 i)) ∧ Fi ((w258_35b q cc gc h z162_23 t1 t2 t3 i)) 162 23 = nI z162_23 ∧ pm_run PT m fr lo 258 (35, [some (.ref 162), some (.int t1), some (.int t2), some (.int t3), some (.int (nI (i + 1)))], [], (w258_35b q cc gc h z162_23 t1 t2 t3 i), 198, sl) = some R := by
  obtain ⟨n, hh⟩ := rn_i rfl rfl rfl rfl hh
  obtain ⟨n, hh⟩ := rn_i rfl rfl rfl rfl hh
  have hh : pm_run PT n fr lo 258 (38, [some (.ref 162), some (.int t1), some (.int t2), some (.int t3), some (.int (nI i))], [.ref 162, .int (nI i)], h, 198, sl) = some R := hh
  obtain ⟨n, hh⟩ := rn_gi (x := nI z162_23) hw rfl rfl (by decide) rfl (by decide) rfl e23 hh
  have hh : pm_run PT n fr lo 258 (41, [some (.ref 162), some (.int t1), some (.int t2), some (.int t3), some (.int (nI i))], [.int (nI z162_23), .int (nI i)], h, 198, sl) = some R := hh
  obtain ⟨n, hh⟩ := en_cn (cc := .ge) (off := 23) (t := 64) (b := decide (z162_23 ≤ i)) (hI_ge (by omega) (by omega)) rfl rfl hh
  have hh := en_f (show decide (z162_23 ≤ i) = false from decide_eq_false (by omega)) hh
  have hh : pm_run PT n fr lo 258 (44, [some (.ref 162), some (.int t1), some (.int t2), some (.int t3), some (.int (nI i))], [], h, 198, sl) = some R := hh
  obtain ⟨n, hh⟩ := rn_i rfl rfl rfl rfl hh
  have hh : pm_run PT n fr lo 258 (45, [some (.ref 162), some (.int t1), some (.int t2), some (.int t3), some (.int (nI i))], [.ref 162], h, 198, sl) = some R := hh
  obtain ⟨n, hh⟩ := rn_gr hw rfl rfl (by decide) rfl (by decide) (show _ = some (2, ((193 : Nat) : Int), 1) from rfl) rfl hh
  obtain ⟨n, hh⟩ := rn_i rfl rfl rfl rfl hh
  obtain ⟨n, hh⟩ := rn_i rfl rfl rfl rfl hh
  have hh : pm_run PT n fr lo 258 (51, [some (.ref 162), some (.int t1), some (.int t2), some (.int t3), some (.int (nI i))], [.ref 162, .int (nI i), .ref 193], h, 198, sl) = some R := hh
  obtain ⟨n, hh⟩ := rn_gr hw rfl rfl (by decide) rfl (by decide) (show _ = some (2, ((174 : Nat) : Int), 1) from rfl) rfl hh
  obtain ⟨n, hh⟩ := rn_i rfl rfl rfl rfl hh
  have hh : pm_run PT n fr lo 258 (56, [some (.ref 162), some (.int t1), some (.int t2), some (.int t3), some (.int (nI i))], [.int (nI i), .ref 174, .int (nI i), .ref 193], h, 198, sl) = some R := hh
  obtain ⟨n, hx1, hh⟩ := en_lu (t := i) (f := Ar h 174) (w := (Ar h 174) i) (nI_clamp (by omega)) hw rfl (by decide) rfl (by decide) rfl (fun _ => rfl) hh
  have hh : pm_run PT n fr lo 258 (57, [some (.ref 162), some (.int t1), some (.int t2), some (.int t3), some (.int (nI i))], [.int ((Ar h 174) i), .int (nI i), .ref 193], h, 198, sl) = some R := hh
  obtain ⟨n, hx2, hh⟩ := en_st (t := i) (f := Ar h 193) (nI_clamp (by omega)) hw rfl (by decide) rfl (by decide) rfl hh
  have hh : pm_run PT n fr lo 258 (58, [some (.ref 162), some (.int t1), some (.int t2), some (.int t3), some (.int (nI i))], [], aset h 193 80 (upd (Ar h 193) i ((Ar h 174) i)), 198, sl) = some R := hh
  obtain ⟨n, hh⟩ := en_inc (x := i) (c := 1) (j := 4) rfl rfl (by decide) hh
  have hh : pm_run PT n fr lo 258 (61, [some (.ref 162), some (.int t1), some (.int t2), some (.int t3), some (.int (nI (i + 1)))], [], aset h 193 80 (upd (Ar h 193) i ((Ar h 174) i)), 198, sl) = some R := hh
  obtain ⟨n, hh⟩ := rn_i rfl rfl rfl rfl hh
  have ed : w258_35b q cc gc h z162_23 t1 t2 t3 i = aset h 193 80 (upd (Ar h 193) i ((Ar h 174) i)) := rfl
  rw [ed]
  exact ⟨n, (wt_as rfl hw), (fr_a rfl rfl fr_0), (show Fi (aset h 193 80 (upd (Ar h 193) i ((Ar h 174) i))) 162 23 = nI z162_23 from ((Fi_a (by decide)).trans e23)), hh⟩
theorem w258_35_ok {fr lo sl cc gc : Nat} {q : QT} {R : pm_Rs} {z162_23 : Nat} {t1 : Int32} {t2 : Int32} {t3 : Int32} : ∀ {j i : Nat} {h : pm_H} {n : Nat}, z162_23 - i = j → i + j < 1000000 → WT h → z162_23 ≤ 80 → Fi h 162 23 = nI z162_23 → pm_run PT n fr lo 258 (35, [some (.ref 162), some (.int t1), some (.int t2), some (.int t3), some (.int (nI i))], [], h, 198, sl) = some R → ∃ m wc, WT ((w258_35 q cc gc z162_23 t1 t2 t3 j i h)) ∧ frm [193] [] h ((w258_35 q cc gc z162_23 t1 t2 t3 j i h)) ∧ Fi ((w258_35 q cc gc z162_23 t1 t2 t3 j i h)) 162 23 = nI z162_23 ∧ pm_run PT m fr lo 258 (64, [some (.ref 162), some (.int t1), some (.int t2), some (.int t3), wc], [], (w258_35 q cc gc z162_23 t1 t2 t3 j i h), 198, sl) = some R := by
  intro j
  induction j with
  | zero =>
    intro i h n e eI hw hz e23 hh
    obtain ⟨n, hh⟩ := w258_35_e (q := q) (cc := cc) (gc := gc) hw hz e23 (by omega) (by omega) hh
    exact ⟨n, _, hw, fr_0, e23, hh⟩
  | succ j ih =>
    intro i h n e eI hw hz e23 hh
    obtain ⟨n, hc, hf, e23', hh⟩ := w258_35_s (q := q) (cc := cc) (gc := gc) hw hz e23 (by omega) (by omega) hh
    obtain ⟨n, wc, hc2, hf2, e23'', hh⟩ := ih (by omega) (by omega) hc hz e23' hh
    exact ⟨n, wc, hc2, fr_t hf2 hf, e23'', hh⟩
end EK
