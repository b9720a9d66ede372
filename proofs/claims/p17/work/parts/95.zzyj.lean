section MH95zzyjx0
/-! runs told exactly, written by ext.py -/
section EK
def w132_13b (q : QT) (cc gc : Nat) (h : pm_H) (m1 : Nat) (i : Nat) : pm_H := aset h 15 36 (upd (upd (Ar h 15) (m1 * 6 + i) (nI 10)) (i * 6 + m1) (nI 10))
def w132_13 (q : QT) (cc gc : Nat) (m1 : Nat) (j i : Nat) (a : pm_H) : pm_H := lp (fun i a => w132_13b q cc gc a m1 i) j i a
theorem w132_13_e {n fr lo sl cc gc : Nat} {q : QT} {h : pm_H} {R : pm_Rs} {m1 : Nat} {i : Nat} (hw : WT h) (h_m1 : m1 < 10000) (hi : m1 ≤ i) (hI : i < 1000000) (hh : pm_run PT n fr lo 132 (13, [some (.ref 0), some (.int (nI m1)), some (.int (nI i))], [], h, 198, sl) = some R) : ∃ m, pm_run PT m fr lo 132 (54, [some (.ref 0), some (.int (nI m1)), some (.int (nI i))], [], h, 198, sl) = some R := by
  obtain ⟨n, hh⟩ := rn_i rfl rfl rfl rfl hh
  obtain ⟨n, hh⟩ := rn_i rfl rfl rfl rfl hh
  have hh : pm_run PT n fr lo 132 (15, [some (.ref 0), some (.int (nI m1)), some (.int (nI i))], [.int (nI m1), .int (nI i)], h, 198, sl) = some R := hh
  obtain ⟨n, hh⟩ := en_cn (cc := .ge) (off := 39) (t := 54) (b := decide (m1 ≤ i)) (hI_ge (by omega) (by omega)) rfl rfl hh
  have hh := en_t (show decide (m1 ≤ i) = true from decide_eq_true (by omega)) hh
  have hh : pm_run PT n fr lo 132 (54, [some (.ref 0), some (.int (nI m1)), some (.int (nI i))], [], h, 198, sl) = some R := hh
  exact ⟨n, hh⟩
theorem w132_13_s {n fr lo sl cc gc : Nat} {q : QT} {h : pm_H} {R : pm_Rs} {m1 : Nat} {i : Nat} (hw : WT h) (h_m1 : m1 < 10000) (hi : i < m1) (hI : i < 1000000) (hh : pm_run PT n fr lo 132 (13, [some (.ref 0), some (.int (nI m1)), some (.int (nI i))], [], h, 198, sl) = some R) : ∃ m, WT ((w132_13b q cc gc h m1 i)) ∧ frm [15] [] h ((w132_13b q cc gc h m1 i)) ∧ pm_run PT m fr lo 132 (13, [some (.ref 0), some (.int (nI m1)), some (.int (nI (i + 1)))], [], (w132_13b q cc gc h m1 i), 198, sl) = some R := by
  obtain ⟨n, hh⟩ := rn_i rfl rfl rfl rfl hh
  obtain ⟨n, hh⟩ := rn_i rfl rfl rfl rfl hh
  have hh : pm_run PT n fr lo 132 (15, [some (.ref 0), some (.int (nI m1)), some (.int (nI i))], [.int (nI m1), .int (nI i)], h, 198, sl) = some R := hh
  obtain ⟨n, hh⟩ := en_cn (cc := .ge) (off := 39) (t := 54) (b := decide (m1 ≤ i)) (hI_ge (by omega) (by omega)) rfl rfl hh
  have hh := en_f (show decide (m1 ≤ i) = false from decide_eq_false (by omega)) hh
  have hh : pm_run PT n fr lo 132 (18, [some (.ref 0), some (.int (nI m1)), some (.int (nI i))], [], h, 198, sl) = some R := hh
  obtain ⟨n, hh⟩ := rn_i rfl rfl rfl rfl hh
  have hh : pm_run PT n fr lo 132 (19, [some (.ref 0), some (.int (nI m1)), some (.int (nI i))], [.ref 0], h, 198, sl) = some R := hh
  obtain ⟨n, hh⟩ := rn_gr hw rfl rfl (by decide) rfl (by decide) (show _ = some (2, ((13 : Nat) : Int), 1) from rfl) rfl hh
  have hh : pm_run PT n fr lo 132 (22, [some (.ref 0), some (.int (nI m1)), some (.int (nI i))], [.ref 13], h, 198, sl) = some R := hh
  obtain ⟨n, hh⟩ := rn_gr hw rfl rfl (by decide) rfl (by decide) (show _ = some (2, ((15 : Nat) : Int), 1) from rfl) rfl hh
  obtain ⟨n, hh⟩ := rn_i rfl rfl rfl rfl hh
  obtain ⟨n, hh⟩ := rn_i rfl rfl rfl rfl hh
  have hh : pm_run PT n fr lo 132 (27, [some (.ref 0), some (.int (nI m1)), some (.int (nI i))], [.int (nI i), .int (nI m1), .ref 15], h, 198, sl) = some R := hh
  obtain ⟨n, fr1, lo1, r1, hh1, hh⟩ := rn_call (w := 2) (t := 160) rfl rfl hh
  have hh1 : pm_run PT n fr1 lo1 160 (0, [some (.int (nI m1)), some (.int (nI i))], [], h, 198, sl) = some r1 := hh1
  obtain ⟨n1, hh1⟩ := rn_i rfl rfl rfl rfl hh1
  obtain ⟨n1, hh1⟩ := rn_i rfl rfl rfl rfl hh1
  have hh1 : pm_run PT n1 fr1 lo1 160 (3, [some (.int (nI m1)), some (.int (nI i))], [.int (nI 6), .int (nI m1)], h, 198, sl) = some r1 := hh1
  obtain ⟨n1, hh1⟩ := en_mul rfl hh1
  have hh1 : pm_run PT n1 fr1 lo1 160 (4, [some (.int (nI m1)), some (.int (nI i))], [.int (nI (m1 * 6))], h, 198, sl) = some r1 := hh1
  obtain ⟨n1, hh1⟩ := rn_i rfl rfl rfl rfl hh1
  have hh1 : pm_run PT n1 fr1 lo1 160 (5, [some (.int (nI m1)), some (.int (nI i))], [.int (nI i), .int (nI (m1 * 6))], h, 198, sl) = some r1 := hh1
  obtain ⟨n1, hh1⟩ := en_add rfl hh1
  have hh1 : pm_run PT n1 fr1 lo1 160 (6, [some (.int (nI m1)), some (.int (nI i))], [.int (nI (m1 * 6 + i))], h, 198, sl) = some r1 := hh1
  have hh1 : pm_run PT n1 fr1 lo1 160 (6, [some (.int (nI m1)), some (.int (nI i))], [.int (nI (m1 * 6 + i))], h, 198, sl) = some r1 := hh1
  have er2 : r1 = (some (.int (nI (m1 * 6 + i))), h, 198, sl) := (rn_ret rfl (Or.inl rfl) hh1).2
  subst er2
  obtain ⟨n, hh⟩ := rn_i rfl rfl rfl rfl hh
  have hh : pm_run PT n fr lo 132 (32, [some (.ref 0), some (.int (nI m1)), some (.int (nI i))], [.int (nI 10), .int (nI (m1 * 6 + i)), .ref 15], h, 198, sl) = some R := hh
  obtain ⟨n, hx3, hh⟩ := en_st (t := m1 * 6 + i) (f := Ar h 15) (nI_clamp (by omega)) hw rfl (by decide) rfl (by decide) rfl hh
  obtain ⟨n, hh⟩ := rn_i rfl rfl rfl rfl hh
  have hh : pm_run PT n fr lo 132 (34, [some (.ref 0), some (.int (nI m1)), some (.int (nI i))], [.ref 0], aset h 15 36 (upd (Ar h 15) (m1 * 6 + i) (nI 10)), 198, sl) = some R := hh
  obtain ⟨n, hh⟩ := rn_gr (wt_as rfl hw) rfl rfl (by decide) rfl (by decide) (show _ = some (2, ((13 : Nat) : Int), 1) from rfl) rfl hh
  have hh : pm_run PT n fr lo 132 (37, [some (.ref 0), some (.int (nI m1)), some (.int (nI i))], [.ref 13], aset h 15 36 (upd (Ar h 15) (m1 * 6 + i) (nI 10)), 198, sl) = some R := hh
  obtain ⟨n, hh⟩ := rn_gr (wt_as rfl hw) rfl rfl (by decide) rfl (by decide) (show _ = some (2, ((15 : Nat) : Int), 1) from rfl) rfl hh
  obtain ⟨n, hh⟩ := rn_i rfl rfl rfl rfl hh
  obtain ⟨n, hh⟩ := rn_i rfl rfl rfl rfl hh
  have hh : pm_run PT n fr lo 132 (42, [some (.ref 0), some (.int (nI m1)), some (.int (nI i))], [.int (nI m1), .int (nI i), .ref 15], aset h 15 36 (upd (Ar h 15) (m1 * 6 + i) (nI 10)), 198, sl) = some R := hh
  obtain ⟨n, fr1, lo1, r1, hh1, hh⟩ := rn_call (w := 2) (t := 160) rfl rfl hh
  have hh1 : pm_run PT n fr1 lo1 160 (0, [some (.int (nI i)), some (.int (nI m1))], [], aset h 15 36 (upd (Ar h 15) (m1 * 6 + i) (nI 10)), 198, sl) = some r1 := hh1
  obtain ⟨n1, hh1⟩ := rn_i rfl rfl rfl rfl hh1
  obtain ⟨n1, hh1⟩ := rn_i rfl rfl rfl rfl hh1
  have hh1 : pm_run PT n1 fr1 lo1 160 (3, [some (.int (nI i)), some (.int (nI m1))], [.int (nI 6), .int (nI i)], aset h 15 36 (upd (Ar h 15) (m1 * 6 + i) (nI 10)), 198, sl) = some r1 := hh1
  obtain ⟨n1, hh1⟩ := en_mul rfl hh1
  have hh1 : pm_run PT n1 fr1 lo1 160 (4, [some (.int (nI i)), some (.int (nI m1))], [.int (nI (i * 6))], aset h 15 36 (upd (Ar h 15) (m1 * 6 + i) (nI 10)), 198, sl) = some r1 := hh1
  obtain ⟨n1, hh1⟩ := rn_i rfl rfl rfl rfl hh1
  have hh1 : pm_run PT n1 fr1 lo1 160 (5, [some (.int (nI i)), some (.int (nI m1))], [.int (nI m1), .int (nI (i * 6))], aset h 15 36 (upd (Ar h 15) (m1 * 6 + i) (nI 10)), 198, sl) = some r1 := hh1
  obtain ⟨n1, hh1⟩ := en_add rfl hh1
  have hh1 : pm_run PT n1 fr1 lo1 160 (6, [some (.int (nI i)), some (.int (nI m1))], [.int (nI (i * 6 + m1))], aset h 15 36 (upd (Ar h 15) (m1 * 6 + i) (nI 10)), 198, sl) = some r1 := hh1
  have hh1 : pm_run PT n1 fr1 lo1 160 (6, [some (.int (nI i)), some (.int (nI m1))], [.int (nI (i * 6 + m1))], aset h 15 36 (upd (Ar h 15) (m1 * 6 + i) (nI 10)), 198, sl) = some r1 := hh1
  have er4 : r1 = (some (.int (nI (i * 6 + m1))), aset h 15 36 (upd (Ar h 15) (m1 * 6 + i) (nI 10)), 198, sl) := (rn_ret rfl (Or.inl rfl) hh1).2
  subst er4
  obtain ⟨n, hh⟩ := rn_i rfl rfl rfl rfl hh
  have hh : pm_run PT n fr lo 132 (47, [some (.ref 0), some (.int (nI m1)), some (.int (nI i))], [.int (nI 10), .int (nI (i * 6 + m1)), .ref 15], aset h 15 36 (upd (Ar h 15) (m1 * 6 + i) (nI 10)), 198, sl) = some R := hh
  obtain ⟨n, hx5, hh⟩ := en_st (t := i * 6 + m1) (f := upd (Ar h 15) (m1 * 6 + i) (nI 10)) (nI_clamp (by omega)) (wt_as rfl hw) rfl (by decide) rfl (by decide) Ar_s hh
  have hh : pm_run PT n fr lo 132 (48, [some (.ref 0), some (.int (nI m1)), some (.int (nI i))], [], aset (aset h 15 36 (upd (Ar h 15) (m1 * 6 + i) (nI 10))) 15 36 (upd (upd (Ar h 15) (m1 * 6 + i) (nI 10)) (i * 6 + m1) (nI 10)), 198, sl) = some R := hh
  rw [aset_aset] at hh
  have hh : pm_run PT n fr lo 132 (48, [some (.ref 0), some (.int (nI m1)), some (.int (nI i))], [], aset h 15 36 (upd (upd (Ar h 15) (m1 * 6 + i) (nI 10)) (i * 6 + m1) (nI 10)), 198, sl) = some R := hh
  obtain ⟨n, hh⟩ := en_inc (x := i) (c := 1) (j := 2) rfl rfl (by decide) hh
  have hh : pm_run PT n fr lo 132 (51, [some (.ref 0), some (.int (nI m1)), some (.int (nI (i + 1)))], [], aset h 15 36 (upd (upd (Ar h 15) (m1 * 6 + i) (nI 10)) (i * 6 + m1) (nI 10)), 198, sl) = some R := hh
  obtain ⟨n, hh⟩ := rn_i rfl rfl rfl rfl hh
  have ed : w132_13b q cc gc h m1 i = aset h 15 36 (upd (upd (Ar h 15) (m1 * 6 + i) (nI 10)) (i * 6 + m1) (nI 10)) := rfl
  rw [ed]
  exact ⟨n, (wt_as rfl hw), (fr_a rfl rfl fr_0), hh⟩
theorem w132_13_ok {fr lo sl cc gc : Nat} {q : QT} {R : pm_Rs} {m1 : Nat} : ∀ {j i : Nat} {h : pm_H} {n : Nat}, m1 - i = j → i + j < 1000000 → WT h → m1 < 10000 → pm_run PT n fr lo 132 (13, [some (.ref 0), some (.int (nI m1)), some (.int (nI i))], [], h, 198, sl) = some R → ∃ m wc, WT ((w132_13 q cc gc m1 j i h)) ∧ frm [15] [] h ((w132_13 q cc gc m1 j i h)) ∧ pm_run PT m fr lo 132 (54, [some (.ref 0), some (.int (nI m1)), wc], [], (w132_13 q cc gc m1 j i h), 198, sl) = some R := by
  intro j
  induction j with
  | zero =>
    intro i h n e eI hw h_m1 hh
    obtain ⟨n, hh⟩ := w132_13_e (q := q) (cc := cc) (gc := gc) hw h_m1 (by omega) (by omega) hh
    exact ⟨n, _, hw, fr_0, hh⟩
  | succ j ih =>
    intro i h n e eI hw h_m1 hh
    obtain ⟨n, hc, hf, hh⟩ := w132_13_s (q := q) (cc := cc) (gc := gc) hw h_m1 (by omega) (by omega) hh
    obtain ⟨n, wc, hc2, hf2, hh⟩ := ih (by omega) (by omega) hc h_m1 hh
    exact ⟨n, wc, hc2, fr_t hf2 hf, hh⟩
theorem w132_13_fb {cc gc : Nat} {q : QT} {h : pm_H} {m1 : Nat} {i : Nat} (hw : WT h) : WT ((w132_13b q cc gc h m1 i)) ∧ frm [15] [] h ((w132_13b q cc gc h m1 i)) := by
  unfold w132_13b
  show WT (aset h 15 36 (upd (upd (Ar h 15) (m1 * 6 + i) (nI 10)) (i * 6 + m1) (nI 10))) ∧ frm [15] [] h (aset h 15 36 (upd (upd (Ar h 15) (m1 * 6 + i) (nI 10)) (i * 6 + m1) (nI 10)))
  exact ⟨(wt_as rfl hw), (fr_a rfl rfl fr_0)⟩
theorem w132_13_fr {cc gc : Nat} {q : QT} {m1 : Nat} : ∀ {j i : Nat} {h : pm_H}, WT h → WT ((w132_13 q cc gc m1 j i h)) ∧ frm [15] [] h ((w132_13 q cc gc m1 j i h)) := by
  intro j
  induction j with
  | zero =>
    intro i h hw
    exact ⟨hw, fr_0⟩
  | succ j ih =>
    intro i h hw
    obtain ⟨a1, a2⟩ := w132_13_fb (i := i) (m1 := m1) hw
    obtain ⟨b1, b2⟩ := ih (i := i + 1) a1
    exact ⟨b1, fr_t b2 a2⟩
def w132 (q : QT) (cc gc : Nat) (h : pm_H) (c : Nat) : pm_H := (w132_13 q cc gc c c 0 (aset h 14 6 (upd (Ar h 14) c (nI 50))))
theorem w132_ok {n fr lo sl cc gc : Nat} {q : QT} {h : pm_H} {R : pm_Rs} {c : Nat} (hw : WT h) (h_c : c < 10000) (hh : pm_run PT n fr lo 132 (0, pm_l0 [.ref 0, .int (nI c)] 3, [], h, 198, sl) = some R) : R = (none, w132 q cc gc h c, 198, sl) ∧ WT (w132 q cc gc h c) ∧ frm [14, 15] [] h (w132 q cc gc h c) := by
  obtain ⟨n, hh⟩ := rn_i rfl rfl rfl rfl hh
  have hh : pm_run PT n fr lo 132 (1, [some (.ref 0), some (.int (nI c)), none], [.ref 0], h, 198, sl) = some R := hh
  obtain ⟨n, hh⟩ := rn_gr hw rfl rfl (by decide) rfl (by decide) (show _ = some (2, ((13 : Nat) : Int), 1) from rfl) rfl hh
  have hh : pm_run PT n fr lo 132 (4, [some (.ref 0), some (.int (nI c)), none], [.ref 13], h, 198, sl) = some R := hh
  obtain ⟨n, hh⟩ := rn_gr hw rfl rfl (by decide) rfl (by decide) (show _ = some (2, ((14 : Nat) : Int), 1) from rfl) rfl hh
  obtain ⟨n, hh⟩ := rn_i rfl rfl rfl rfl hh
  obtain ⟨n, hh⟩ := rn_i rfl rfl rfl rfl hh
  have hh : pm_run PT n fr lo 132 (10, [some (.ref 0), some (.int (nI c)), none], [.int (nI 50), .int (nI c), .ref 14], h, 198, sl) = some R := hh
  obtain ⟨n, hx1, hh⟩ := en_st (t := c) (f := Ar h 14) (nI_clamp (by omega)) hw rfl (by decide) rfl (by decide) rfl hh
  obtain ⟨n, hh⟩ := rn_i rfl rfl rfl rfl hh
  obtain ⟨n, hh⟩ := rn_i rfl rfl rfl rfl hh
  have hh : pm_run PT n fr lo 132 (13, [some (.ref 0), some (.int (nI c)), some (.int (nI 0))], [], aset h 14 6 (upd (Ar h 14) c (nI 50)), 198, sl) = some R := hh
  obtain ⟨n, u2, hc3, hf4, hh⟩ := w132_13_ok (q := q) (cc := cc) (gc := gc) (m1 := c)  (i := 0) (j := c) (by omega) (by omega) (wt_as rfl hw) (by omega) hh
  have hh : pm_run PT n fr lo 132 (54, [some (.ref 0), some (.int (nI c)), u2], [], (w132_13 q cc gc c c 0 (aset h 14 6 (upd (Ar h 14) c (nI 50)))), 198, sl) = some R := hh
  have er5 : R = (none, (w132_13 q cc gc c c 0 (aset h 14 6 (upd (Ar h 14) c (nI 50)))), 198, sl) := rn_vret rfl rfl hh
  have ed : w132 q cc gc h c = (w132_13 q cc gc c c 0 (aset h 14 6 (upd (Ar h 14) c (nI 50)))) := rfl
  refine ⟨?_, ?_, ?_⟩ <;> rw [ed]
  · exact er5
  · exact hc3
  · exact (fr_g rfl rfl hf4 (fr_a rfl rfl fr_0))
theorem w132_fr {cc gc : Nat} {q : QT} {h : pm_H} {c : Nat} (hw : WT h) : WT (w132 q cc gc h c) ∧ frm [14, 15] [] h (w132 q cc gc h c) := by
  unfold w132
  show WT ((w132_13 q cc gc c c 0 (aset h 14 6 (upd (Ar h 14) c (nI 50))))) ∧ frm [14, 15] [] h ((w132_13 q cc gc c c 0 (aset h 14 6 (upd (Ar h 14) c (nI 50)))))
  exact ⟨(w132_13_fr (m1 := c) (j := c) (i := 0) (wt_as rfl hw)).1, (fr_g rfl rfl (w132_13_fr (m1 := c) (j := c) (i := 0) (wt_as rfl hw)).2 (fr_a rfl rfl fr_0))⟩
def w88_19b (q : QT) (cc gc : Nat) (h : pm_H) (z5_0 : Nat) (m1 : Nat) (i : Nat) : pm_H := fset (w132 q cc gc h (z5_0 + i)) 5 0 (.int (nI (z5_0 + i + 1)))
def w88_19 (q : QT) (cc gc : Nat) (z5_0 : Nat) (m1 : Nat) (j i : Nat) (a : pm_H) : pm_H := lp (fun i a => w88_19b q cc gc a z5_0 m1 i) j i a
theorem w88_19_e {n fr lo sl cc gc : Nat} {q : QT} {h : pm_H} {R : pm_Rs} {z5_0 : Nat} {m1 : Nat} {i : Nat} (hw : WT h) (h_m1 : m1 < 10000) (hz : z5_0 + m1 ≤ 6) (e5 : Fi h 5 0 = nI (z5_0 + i)) (hi : m1 ≤ i) (hI : i < 1000000) (hh : pm_run PT n fr lo 88 (19, [some (.ref 0), some (.int (nI m1)), some (.int (nI i))], [], h, 198, sl) = some R) : ∃ m, pm_run PT m fr lo 88 (54, [some (.ref 0), some (.int (nI m1)), some (.int (nI i))], [], h, 198, sl) = some R := by
  obtain ⟨n, hh⟩ := rn_i rfl rfl rfl rfl hh
  obtain ⟨n, hh⟩ := rn_i rfl rfl rfl rfl hh
  have hh : pm_run PT n fr lo 88 (21, [some (.ref 0), some (.int (nI m1)), some (.int (nI i))], [.int (nI m1), .int (nI i)], h, 198, sl) = some R := hh
  obtain ⟨n, hh⟩ := en_cn (cc := .ge) (off := 33) (t := 54) (b := decide (m1 ≤ i)) (hI_ge (by omega) (by omega)) rfl rfl hh
  have hh := en_t (show decide (m1 ≤ i) = true from decide_eq_true (by omega)) hh
  have hh : pm_run PT n fr lo 88 (54, [some (.ref 0), some (.int (nI m1)), some (.int (nI i))], [], h, 198, sl) = some R := hh
  exact ⟨n, hh⟩
theorem w88_19_s {n fr lo sl cc gc : Nat} {q : QT} {h : pm_H} {R : pm_Rs} {z5_0 : Nat} {m1 : Nat} {i : Nat} (hw : WT h) (h_m1 : m1 < 10000) (hz : z5_0 + m1 ≤ 6) (e5 : Fi h 5 0 = nI (z5_0 + i)) (hi : i < m1) (hI : i < 1000000) (hh : pm_run PT n fr lo 88 (19, [some (.ref 0), some (.int (nI m1)), some (.int (nI i))], [], h, 198, sl) = some R) : ∃ m, WT ((w88_19b q cc gc h z5_0 m1 i)) ∧ frm [5, 14, 15] [(5, 0)] h ((w88_19b q cc gc h z5_0 m1 i)) ∧ Fi ((w88_19b q cc gc h z5_0 m1 i)) 5 0 = nI (z5_0 + (i + 1)) ∧ pm_run PT m fr lo 88 (19, [some (.ref 0), some (.int (nI m1)), some (.int (nI (i + 1)))], [], (w88_19b q cc gc h z5_0 m1 i), 198, sl) = some R := by
  obtain ⟨n, hh⟩ := rn_i rfl rfl rfl rfl hh
  obtain ⟨n, hh⟩ := rn_i rfl rfl rfl rfl hh
  have hh : pm_run PT n fr lo 88 (21, [some (.ref 0), some (.int (nI m1)), some (.int (nI i))], [.int (nI m1), .int (nI i)], h, 198, sl) = some R := hh
  obtain ⟨n, hh⟩ := en_cn (cc := .ge) (off := 33) (t := 54) (b := decide (m1 ≤ i)) (hI_ge (by omega) (by omega)) rfl rfl hh
  have hh := en_f (show decide (m1 ≤ i) = false from decide_eq_false (by omega)) hh
  have hh : pm_run PT n fr lo 88 (24, [some (.ref 0), some (.int (nI m1)), some (.int (nI i))], [], h, 198, sl) = some R := hh
  obtain ⟨n, hh⟩ := rn_i rfl rfl rfl rfl hh
  obtain ⟨n, hh⟩ := rn_i rfl rfl rfl rfl hh
  have hh : pm_run PT n fr lo 88 (26, [some (.ref 0), some (.int (nI m1)), some (.int (nI i))], [.ref 0, .ref 0], h, 198, sl) = some R := hh
  obtain ⟨n, hh⟩ := rn_gr hw rfl rfl (by decide) rfl (by decide) (show _ = some (2, ((5 : Nat) : Int), 1) from rfl) rfl hh
  have hh : pm_run PT n fr lo 88 (29, [some (.ref 0), some (.int (nI m1)), some (.int (nI i))], [.ref 5, .ref 0], h, 198, sl) = some R := hh
  obtain ⟨n, hh⟩ := rn_gi (x := nI (z5_0 + i)) hw rfl rfl (by decide) rfl (by decide) rfl e5 hh
  have hh : pm_run PT n fr lo 88 (32, [some (.ref 0), some (.int (nI m1)), some (.int (nI i))], [.int (nI (z5_0 + i)), .ref 0], h, 198, sl) = some R := hh
  obtain ⟨n, fr1, lo1, r1, hh1, hh⟩ := rn_call (w := 0) (t := 132) rfl rfl hh
  obtain ⟨er5, hc6, hf7⟩ := w132_ok (q := q) (cc := cc) (gc := gc) (c := (z5_0 + i)) hw (by omega) hh1
  subst er5
  obtain ⟨n, hh⟩ := rn_i rfl rfl rfl rfl hh
  have hh : pm_run PT n fr lo 88 (36, [some (.ref 0), some (.int (nI m1)), some (.int (nI i))], [.ref 0], w132 q cc gc h (z5_0 + i), 198, sl) = some R := hh
  obtain ⟨n, hh⟩ := rn_gr hc6 rfl rfl (by decide) rfl (by decide) (show _ = some (2, ((5 : Nat) : Int), 1) from rfl) rfl hh
  obtain ⟨n, hh⟩ := rn_i rfl rfl rfl rfl hh
  have hh : pm_run PT n fr lo 88 (40, [some (.ref 0), some (.int (nI m1)), some (.int (nI i))], [.ref 5, .ref 5], w132 q cc gc h (z5_0 + i), 198, sl) = some R := hh
  obtain ⟨n, hh⟩ := rn_gi (x := nI (z5_0 + i)) hc6 rfl rfl (by decide) rfl (by decide) rfl ((hf7.2 5 0 (by decide +kernel) rfl).trans e5) hh
  obtain ⟨n, hh⟩ := rn_i rfl rfl rfl rfl hh
  have hh : pm_run PT n fr lo 88 (44, [some (.ref 0), some (.int (nI m1)), some (.int (nI i))], [.int (nI 1), .int (nI (z5_0 + i)), .ref 5], w132 q cc gc h (z5_0 + i), 198, sl) = some R := hh
  obtain ⟨n, hh⟩ := en_add rfl hh
  have hh : pm_run PT n fr lo 88 (45, [some (.ref 0), some (.int (nI m1)), some (.int (nI i))], [.int (nI (z5_0 + i + 1)), .ref 5], w132 q cc gc h (z5_0 + i), 198, sl) = some R := hh
  have hh : pm_run PT n fr lo 88 (45, [some (.ref 0), some (.int (nI m1)), some (.int (nI i))], [.int (nI (z5_0 + i + 1)), .ref 5], w132 q cc gc h (z5_0 + i), 198, sl) = some R := hh
  obtain ⟨n, hh⟩ := rn_pi hc6 rfl rfl (by decide) rfl (by decide) rfl hh
  have hh : pm_run PT n fr lo 88 (48, [some (.ref 0), some (.int (nI m1)), some (.int (nI i))], [], fset (w132 q cc gc h (z5_0 + i)) 5 0 (.int (nI (z5_0 + i + 1))), 198, sl) = some R := hh
  obtain ⟨n, hh⟩ := en_inc (x := i) (c := 1) (j := 2) rfl rfl (by decide) hh
  have hh : pm_run PT n fr lo 88 (51, [some (.ref 0), some (.int (nI m1)), some (.int (nI (i + 1)))], [], fset (w132 q cc gc h (z5_0 + i)) 5 0 (.int (nI (z5_0 + i + 1))), 198, sl) = some R := hh
  obtain ⟨n, hh⟩ := rn_i rfl rfl rfl rfl hh
  have ed : w88_19b q cc gc h z5_0 m1 i = fset (w132 q cc gc h (z5_0 + i)) 5 0 (.int (nI (z5_0 + i + 1))) := rfl
  rw [ed]
  exact ⟨n, (wt_fs rfl (by decide) rfl hc6), (fr_f rfl rfl (fr_g rfl rfl hf7 fr_0)), (show Fi (fset (w132 q cc gc h (z5_0 + i)) 5 0 (.int (nI (z5_0 + i + 1)))) 5 0 = nI (z5_0 + (i + 1)) from (Fi_s hc6 (by decide) rfl (by decide) rfl)), hh⟩
theorem w88_19_ok {fr lo sl cc gc : Nat} {q : QT} {R : pm_Rs} {z5_0 : Nat} {m1 : Nat} : ∀ {j i : Nat} {h : pm_H} {n : Nat}, m1 - i = j → i + j < 1000000 → WT h → m1 < 10000 → z5_0 + m1 ≤ 6 → i ≤ m1 → Fi h 5 0 = nI (z5_0 + i) → pm_run PT n fr lo 88 (19, [some (.ref 0), some (.int (nI m1)), some (.int (nI i))], [], h, 198, sl) = some R → ∃ m wc, WT ((w88_19 q cc gc z5_0 m1 j i h)) ∧ frm [5, 14, 15] [(5, 0)] h ((w88_19 q cc gc z5_0 m1 j i h)) ∧ Fi ((w88_19 q cc gc z5_0 m1 j i h)) 5 0 = nI (z5_0 + m1) ∧ pm_run PT m fr lo 88 (54, [some (.ref 0), some (.int (nI m1)), wc], [], (w88_19 q cc gc z5_0 m1 j i h), 198, sl) = some R := by
  intro j
  induction j with
  | zero =>
    intro i h n e eI hw h_m1 hz hiN e5 hh
    obtain ⟨n, hh⟩ := w88_19_e (q := q) (cc := cc) (gc := gc) hw h_m1 hz e5 (by omega) (by omega) hh
    exact ⟨n, _, hw, fr_0, (e5.trans (congrArg (fun i => nI (z5_0 + i)) (show i = m1 by omega))), hh⟩
  | succ j ih =>
    intro i h n e eI hw h_m1 hz hiN e5 hh
    obtain ⟨n, hc, hf, e5', hh⟩ := w88_19_s (q := q) (cc := cc) (gc := gc) hw h_m1 hz e5 (by omega) (by omega) hh
    obtain ⟨n, wc, hc2, hf2, e5'', hh⟩ := ih (by omega) (by omega) hc h_m1 hz (by omega) e5' hh
    exact ⟨n, wc, hc2, fr_t hf2 hf, e5'', hh⟩
theorem w88_19_fb {cc gc : Nat} {q : QT} {h : pm_H} {m1 : Nat} {z5_0 : Nat} {i : Nat} (hw : WT h) (hz : z5_0 + m1 ≤ 6) : WT ((w88_19b q cc gc h z5_0 m1 i)) ∧ frm [5, 14, 15] [(5, 0)] h ((w88_19b q cc gc h z5_0 m1 i)) := by
  unfold w88_19b
  show WT (fset (w132 q cc gc h (z5_0 + i)) 5 0 (.int (nI (z5_0 + i + 1)))) ∧ frm [5, 14, 15] [(5, 0)] h (fset (w132 q cc gc h (z5_0 + i)) 5 0 (.int (nI (z5_0 + i + 1))))
  exact ⟨(wt_fs rfl (by decide) rfl (w132_fr (c := (z5_0 + i)) hw).1), (fr_f rfl rfl (fr_g rfl rfl (w132_fr (c := (z5_0 + i)) hw).2 fr_0))⟩
theorem w88_19_fr {cc gc : Nat} {q : QT} {m1 : Nat} {z5_0 : Nat} (hz : z5_0 + m1 ≤ 6) : ∀ {j i : Nat} {h : pm_H}, WT h → WT ((w88_19 q cc gc z5_0 m1 j i h)) ∧ frm [5, 14, 15] [(5, 0)] h ((w88_19 q cc gc z5_0 m1 j i h)) := by
  intro j
  induction j with
  | zero =>
    intro i h hw
    exact ⟨hw, fr_0⟩
  | succ j ih =>
    intro i h hw
    obtain ⟨a1, a2⟩ := w88_19_fb (i := i) (m1 := m1) (z5_0 := z5_0) hw hz
    obtain ⟨b1, b2⟩ := ih (i := i + 1) a1
    exact ⟨b1, fr_t b2 a2⟩
def w88 (q : QT) (cc gc : Nat) (h : pm_H) (N : Nat) (c : Nat) : Int32 × pm_H := cond (decide (N ≤ 0)) (nI N, fset h 1 1 (.int (nI 0))) (nI N, fset (fset (w88_19 q cc gc c N N 0 (fset h 1 1 (.int (nI 0)))) 25 2 (.int (nI 0))) 0 7 (.int (nI 0)))
theorem w88_ok {n fr lo sl cc gc : Nat} {q : QT} {h : pm_H} {R : pm_Rs} {N : Nat} {c : Nat} (hw : WT h) (hN : N ≤ 6) (hc : c + N ≤ 6) (e5 : Fi h 5 0 = nI c) (hh : pm_run PT n fr lo 88 (5, [some (.ref 0), some (.int (nI N)), none], [], h, 198, sl) = some R) : R = (some (.int ((w88 q cc gc h N c).1)), (w88 q cc gc h N c).2, 198, sl) ∧ WT ((w88 q cc gc h N c).2) ∧ frm [0, 1, 5, 14, 15, 25] [(0, 7), (1, 1), (5, 0), (25, 2)] h ((w88 q cc gc h N c).2) := by
  obtain ⟨n, hh⟩ := rn_i rfl rfl rfl rfl hh
  have hh : pm_run PT n fr lo 88 (6, [some (.ref 0), some (.int (nI N)), none], [.ref 0], h, 198, sl) = some R := hh
  obtain ⟨n, hh⟩ := rn_gr hw rfl rfl (by decide) rfl (by decide) (show _ = some (2, ((1 : Nat) : Int), 1) from rfl) rfl hh
  obtain ⟨n, hh⟩ := rn_i rfl rfl rfl rfl hh
  have hh : pm_run PT n fr lo 88 (10, [some (.ref 0), some (.int (nI N)), none], [.int (nI 0), .ref 1], h, 198, sl) = some R := hh
  obtain ⟨n, hh⟩ := rn_pi hw rfl rfl (by decide) rfl (by decide) rfl hh
  obtain ⟨n, hh⟩ := rn_i rfl rfl rfl rfl hh
  have hh : pm_run PT n fr lo 88 (14, [some (.ref 0), some (.int (nI N)), none], [.int (nI N)], fset h 1 1 (.int (nI 0)), 198, sl) = some R := hh
  obtain ⟨n, hh⟩ := en_zn (cc := .le) (off := 44) (t := 58) (b := decide (N ≤ 0)) (hI_le (b := 0) (by omega) (by omega)) rfl rfl hh
  cases z1 : decide (N ≤ 0) with
  | true =>
    have hh := en_t z1 hh
    have hh : pm_run PT n fr lo 88 (58, [some (.ref 0), some (.int (nI N)), none], [], fset h 1 1 (.int (nI 0)), 198, sl) = some R := hh
    have y2 := of_decide_eq_true z1
    obtain ⟨n, hh⟩ := rn_i rfl rfl rfl rfl hh
    have hh : pm_run PT n fr lo 88 (59, [some (.ref 0), some (.int (nI N)), none], [.int (nI N)], fset h 1 1 (.int (nI 0)), 198, sl) = some R := hh
    have er3 : R = (some (.int (nI N)), fset h 1 1 (.int (nI 0)), 198, sl) := (rn_ret rfl (Or.inl rfl) hh).2
    have ed : w88 q cc gc h N c = (nI N, fset h 1 1 (.int (nI 0))) := (ct z1).trans rfl
    refine ⟨?_, ?_, ?_⟩ <;> rw [ed]
    · exact er3
    · exact (wt_fs rfl (by decide) rfl hw)
    · exact (fr_f rfl rfl fr_0)
  | false =>
    have hh := en_f z1 hh
    have hh : pm_run PT n fr lo 88 (17, [some (.ref 0), some (.int (nI N)), none], [], fset h 1 1 (.int (nI 0)), 198, sl) = some R := hh
    have y4 := of_decide_eq_false z1
    obtain ⟨n, hh⟩ := rn_i rfl rfl rfl rfl hh
    obtain ⟨n, hh⟩ := rn_i rfl rfl rfl rfl hh
    have hh : pm_run PT n fr lo 88 (19, [some (.ref 0), some (.int (nI N)), some (.int (nI 0))], [], fset h 1 1 (.int (nI 0)), 198, sl) = some R := hh
    obtain ⟨n, u5, hc7, hf8, hn6, hh⟩ := w88_19_ok (q := q) (cc := cc) (gc := gc) (m1 := N)  (z5_0 := c) (i := 0) (j := N) (by omega) (by omega) (wt_fs rfl (by decide) rfl hw) (by omega) (by omega) (by omega) (show Fi (fset h 1 1 (.int (nI 0))) 5 0 = nI (c + 0) from ((Fi_n (Or.inl (by decide))).trans e5)) hh
    have hh : pm_run PT n fr lo 88 (54, [some (.ref 0), some (.int (nI N)), u5], [], (w88_19 q cc gc c N N 0 (fset h 1 1 (.int (nI 0)))), 198, sl) = some R := hh
    obtain ⟨n, hh⟩ := rn_i rfl rfl rfl rfl hh
    have hh : pm_run PT n fr lo 88 (55, [some (.ref 0), some (.int (nI N)), u5], [.ref 0], (w88_19 q cc gc c N N 0 (fset h 1 1 (.int (nI 0)))), 198, sl) = some R := hh
    obtain ⟨n, fr1, lo1, r1, hh1, hh⟩ := rn_call (w := 0) (t := 133) rfl rfl hh
    have hh1 : pm_run PT n fr1 lo1 133 (0, [some (.ref 0)], [], (w88_19 q cc gc c N N 0 (fset h 1 1 (.int (nI 0)))), 198, sl) = some r1 := hh1
    obtain ⟨n1, hh1⟩ := rn_i rfl rfl rfl rfl hh1
    have hh1 : pm_run PT n1 fr1 lo1 133 (1, [some (.ref 0)], [.ref 0], (w88_19 q cc gc c N N 0 (fset h 1 1 (.int (nI 0)))), 198, sl) = some r1 := hh1
    obtain ⟨n1, hh1⟩ := rn_gr hc7 rfl rfl (by decide) rfl (by decide) (show _ = some (2, ((25 : Nat) : Int), 1) from rfl) rfl hh1
    have hh1 : pm_run PT n1 fr1 lo1 133 (4, [some (.ref 0)], [.ref 25], (w88_19 q cc gc c N N 0 (fset h 1 1 (.int (nI 0)))), 198, sl) = some r1 := hh1
    obtain ⟨n1, fr2, lo2, r2, hh2, hh1⟩ := rn_call (w := 0) (t := 20) rfl rfl hh1
    have hh2 : pm_run PT n1 fr2 lo2 20 (0, [some (.ref 25)], [], (w88_19 q cc gc c N N 0 (fset h 1 1 (.int (nI 0)))), 198, sl) = some r2 := hh2
    obtain ⟨n2, hh2⟩ := rn_i rfl rfl rfl rfl hh2
    obtain ⟨n2, hh2⟩ := rn_i rfl rfl rfl rfl hh2
    have hh2 : pm_run PT n2 fr2 lo2 20 (2, [some (.ref 25)], [.int (nI 0), .ref 25], (w88_19 q cc gc c N N 0 (fset h 1 1 (.int (nI 0)))), 198, sl) = some r2 := hh2
    obtain ⟨n2, hh2⟩ := rn_pi hc7 rfl rfl (by decide) rfl (by decide) rfl hh2
    have er9 : r2 = (none, fset (w88_19 q cc gc c N N 0 (fset h 1 1 (.int (nI 0)))) 25 2 (.int (nI 0)), 198, sl) := rn_vret rfl rfl hh2
    subst er9
    obtain ⟨n1, hh1⟩ := rn_i rfl rfl rfl rfl hh1
    obtain ⟨n1, hh1⟩ := rn_i rfl rfl rfl rfl hh1
    have hh1 : pm_run PT n1 fr1 lo1 133 (9, [some (.ref 0)], [.int (nI 0), .ref 0], fset (w88_19 q cc gc c N N 0 (fset h 1 1 (.int (nI 0)))) 25 2 (.int (nI 0)), 198, sl) = some r1 := hh1
    obtain ⟨n1, hh1⟩ := rn_pi (wt_fs rfl (by decide) rfl hc7) rfl rfl (by decide) rfl (by decide) rfl hh1
    have er10 : r1 = (none, fset (fset (w88_19 q cc gc c N N 0 (fset h 1 1 (.int (nI 0)))) 25 2 (.int (nI 0))) 0 7 (.int (nI 0)), 198, sl) := rn_vret rfl rfl hh1
    subst er10
    obtain ⟨n, hh⟩ := rn_i rfl rfl rfl rfl hh
    have hh : pm_run PT n fr lo 88 (59, [some (.ref 0), some (.int (nI N)), u5], [.int (nI N)], fset (fset (w88_19 q cc gc c N N 0 (fset h 1 1 (.int (nI 0)))) 25 2 (.int (nI 0))) 0 7 (.int (nI 0)), 198, sl) = some R := hh
    have er11 : R = (some (.int (nI N)), fset (fset (w88_19 q cc gc c N N 0 (fset h 1 1 (.int (nI 0)))) 25 2 (.int (nI 0))) 0 7 (.int (nI 0)), 198, sl) := (rn_ret rfl (Or.inl rfl) hh).2
    have ed : w88 q cc gc h N c = (nI N, fset (fset (w88_19 q cc gc c N N 0 (fset h 1 1 (.int (nI 0)))) 25 2 (.int (nI 0))) 0 7 (.int (nI 0))) := (cf z1).trans rfl
    refine ⟨?_, ?_, ?_⟩ <;> rw [ed]
    · exact er11
    · exact (wt_fs rfl (by decide) rfl (wt_fs rfl (by decide) rfl hc7))
    · exact (fr_f rfl rfl (fr_f rfl rfl (fr_g rfl rfl hf8 (fr_f rfl rfl fr_0))))
def w89 (q : QT) (cc gc : Nat) (h : pm_H) (N : Nat) (c : Nat) : Int32 × pm_H := cond (decide (N ≤ 0)) (nI N, fset h 1 1 (.int (nI 0))) (nI N, fset (fset (fset (fset h 1 1 (.int (nI 0))) 5 1 (.int (nI (c + N)))) 25 2 (.int (nI 0))) 0 7 (.int (nI 0)))
theorem w89_ok {n fr lo sl cc gc : Nat} {q : QT} {h : pm_H} {R : pm_Rs} {N : Nat} {c : Nat} (hw : WT h) (hN : N ≤ 8) (hc : c + N ≤ 8) (e5 : Fi h 5 1 = nI c) (hh : pm_run PT n fr lo 89 (5, [some (.ref 0), some (.int (nI N))], [], h, 198, sl) = some R) : R = (some (.int ((w89 q cc gc h N c).1)), (w89 q cc gc h N c).2, 198, sl) ∧ WT ((w89 q cc gc h N c).2) ∧ frm [0, 1, 5, 25] [(0, 7), (1, 1), (5, 1), (25, 2)] h ((w89 q cc gc h N c).2) := by
  obtain ⟨n, hh⟩ := rn_i rfl rfl rfl rfl hh
  have hh : pm_run PT n fr lo 89 (6, [some (.ref 0), some (.int (nI N))], [.ref 0], h, 198, sl) = some R := hh
  obtain ⟨n, hh⟩ := rn_gr hw rfl rfl (by decide) rfl (by decide) (show _ = some (2, ((1 : Nat) : Int), 1) from rfl) rfl hh
  obtain ⟨n, hh⟩ := rn_i rfl rfl rfl rfl hh
  have hh : pm_run PT n fr lo 89 (10, [some (.ref 0), some (.int (nI N))], [.int (nI 0), .ref 1], h, 198, sl) = some R := hh
  obtain ⟨n, hh⟩ := rn_pi hw rfl rfl (by decide) rfl (by decide) rfl hh
  obtain ⟨n, hh⟩ := rn_i rfl rfl rfl rfl hh
  have hh : pm_run PT n fr lo 89 (14, [some (.ref 0), some (.int (nI N))], [.int (nI N)], fset h 1 1 (.int (nI 0)), 198, sl) = some R := hh
  obtain ⟨n, hh⟩ := en_zn (cc := .le) (off := 20) (t := 34) (b := decide (N ≤ 0)) (hI_le (b := 0) (by omega) (by omega)) rfl rfl hh
  cases z1 : decide (N ≤ 0) with
  | true =>
    have hh := en_t z1 hh
    have hh : pm_run PT n fr lo 89 (34, [some (.ref 0), some (.int (nI N))], [], fset h 1 1 (.int (nI 0)), 198, sl) = some R := hh
    have y2 := of_decide_eq_true z1
    obtain ⟨n, hh⟩ := rn_i rfl rfl rfl rfl hh
    have hh : pm_run PT n fr lo 89 (35, [some (.ref 0), some (.int (nI N))], [.int (nI N)], fset h 1 1 (.int (nI 0)), 198, sl) = some R := hh
    have er3 : R = (some (.int (nI N)), fset h 1 1 (.int (nI 0)), 198, sl) := (rn_ret rfl (Or.inl rfl) hh).2
    have ed : w89 q cc gc h N c = (nI N, fset h 1 1 (.int (nI 0))) := (ct z1).trans rfl
    refine ⟨?_, ?_, ?_⟩ <;> rw [ed]
    · exact er3
    · exact (wt_fs rfl (by decide) rfl hw)
    · exact (fr_f rfl rfl fr_0)
  | false =>
    have hh := en_f z1 hh
    have hh : pm_run PT n fr lo 89 (17, [some (.ref 0), some (.int (nI N))], [], fset h 1 1 (.int (nI 0)), 198, sl) = some R := hh
    have y4 := of_decide_eq_false z1
    obtain ⟨n, hh⟩ := rn_i rfl rfl rfl rfl hh
    have hh : pm_run PT n fr lo 89 (18, [some (.ref 0), some (.int (nI N))], [.ref 0], fset h 1 1 (.int (nI 0)), 198, sl) = some R := hh
    obtain ⟨n, hh⟩ := rn_gr (wt_fs rfl (by decide) rfl hw) rfl rfl (by decide) rfl (by decide) (show _ = some (2, ((5 : Nat) : Int), 1) from rfl) rfl hh
    obtain ⟨n, hh⟩ := rn_i rfl rfl rfl rfl hh
    have hh : pm_run PT n fr lo 89 (22, [some (.ref 0), some (.int (nI N))], [.ref 5, .ref 5], fset h 1 1 (.int (nI 0)), 198, sl) = some R := hh
    obtain ⟨n, hh⟩ := rn_gi (x := nI c) (wt_fs rfl (by decide) rfl hw) rfl rfl (by decide) rfl (by decide) rfl ((Fi_n (Or.inl (by decide))).trans e5) hh
    obtain ⟨n, hh⟩ := rn_i rfl rfl rfl rfl hh
    have hh : pm_run PT n fr lo 89 (26, [some (.ref 0), some (.int (nI N))], [.int (nI N), .int (nI c), .ref 5], fset h 1 1 (.int (nI 0)), 198, sl) = some R := hh
    obtain ⟨n, hh⟩ := en_add rfl hh
    have hh : pm_run PT n fr lo 89 (27, [some (.ref 0), some (.int (nI N))], [.int (nI (c + N)), .ref 5], fset h 1 1 (.int (nI 0)), 198, sl) = some R := hh
    have hh : pm_run PT n fr lo 89 (27, [some (.ref 0), some (.int (nI N))], [.int (nI (c + N)), .ref 5], fset h 1 1 (.int (nI 0)), 198, sl) = some R := hh
    obtain ⟨n, hh⟩ := rn_pi (wt_fs rfl (by decide) rfl hw) rfl rfl (by decide) rfl (by decide) rfl hh
    obtain ⟨n, hh⟩ := rn_i rfl rfl rfl rfl hh
    have hh : pm_run PT n fr lo 89 (31, [some (.ref 0), some (.int (nI N))], [.ref 0], fset (fset h 1 1 (.int (nI 0))) 5 1 (.int (nI (c + N))), 198, sl) = some R := hh
    obtain ⟨n, fr1, lo1, r1, hh1, hh⟩ := rn_call (w := 0) (t := 133) rfl rfl hh
    have hh1 : pm_run PT n fr1 lo1 133 (0, [some (.ref 0)], [], fset (fset h 1 1 (.int (nI 0))) 5 1 (.int (nI (c + N))), 198, sl) = some r1 := hh1
    obtain ⟨n1, hh1⟩ := rn_i rfl rfl rfl rfl hh1
    have hh1 : pm_run PT n1 fr1 lo1 133 (1, [some (.ref 0)], [.ref 0], fset (fset h 1 1 (.int (nI 0))) 5 1 (.int (nI (c + N))), 198, sl) = some r1 := hh1
    obtain ⟨n1, hh1⟩ := rn_gr (wt_fs rfl (by decide) rfl (wt_fs rfl (by decide) rfl hw)) rfl rfl (by decide) rfl (by decide) (show _ = some (2, ((25 : Nat) : Int), 1) from rfl) rfl hh1
    have hh1 : pm_run PT n1 fr1 lo1 133 (4, [some (.ref 0)], [.ref 25], fset (fset h 1 1 (.int (nI 0))) 5 1 (.int (nI (c + N))), 198, sl) = some r1 := hh1
    obtain ⟨n1, fr2, lo2, r2, hh2, hh1⟩ := rn_call (w := 0) (t := 20) rfl rfl hh1
    have hh2 : pm_run PT n1 fr2 lo2 20 (0, [some (.ref 25)], [], fset (fset h 1 1 (.int (nI 0))) 5 1 (.int (nI (c + N))), 198, sl) = some r2 := hh2
    obtain ⟨n2, hh2⟩ := rn_i rfl rfl rfl rfl hh2
    obtain ⟨n2, hh2⟩ := rn_i rfl rfl rfl rfl hh2
    have hh2 : pm_run PT n2 fr2 lo2 20 (2, [some (.ref 25)], [.int (nI 0), .ref 25], fset (fset h 1 1 (.int (nI 0))) 5 1 (.int (nI (c + N))), 198, sl) = some r2 := hh2
    obtain ⟨n2, hh2⟩ := rn_pi (wt_fs rfl (by decide) rfl (wt_fs rfl (by decide) rfl hw)) rfl rfl (by decide) rfl (by decide) rfl hh2
    have er5 : r2 = (none, fset (fset (fset h 1 1 (.int (nI 0))) 5 1 (.int (nI (c + N)))) 25 2 (.int (nI 0)), 198, sl) := rn_vret rfl rfl hh2
    subst er5
    obtain ⟨n1, hh1⟩ := rn_i rfl rfl rfl rfl hh1
    obtain ⟨n1, hh1⟩ := rn_i rfl rfl rfl rfl hh1
    have hh1 : pm_run PT n1 fr1 lo1 133 (9, [some (.ref 0)], [.int (nI 0), .ref 0], fset (fset (fset h 1 1 (.int (nI 0))) 5 1 (.int (nI (c + N)))) 25 2 (.int (nI 0)), 198, sl) = some r1 := hh1
    obtain ⟨n1, hh1⟩ := rn_pi (wt_fs rfl (by decide) rfl (wt_fs rfl (by decide) rfl (wt_fs rfl (by decide) rfl hw))) rfl rfl (by decide) rfl (by decide) rfl hh1
    have er6 : r1 = (none, fset (fset (fset (fset h 1 1 (.int (nI 0))) 5 1 (.int (nI (c + N)))) 25 2 (.int (nI 0))) 0 7 (.int (nI 0)), 198, sl) := rn_vret rfl rfl hh1
    subst er6
    obtain ⟨n, hh⟩ := rn_i rfl rfl rfl rfl hh
    have hh : pm_run PT n fr lo 89 (35, [some (.ref 0), some (.int (nI N))], [.int (nI N)], fset (fset (fset (fset h 1 1 (.int (nI 0))) 5 1 (.int (nI (c + N)))) 25 2 (.int (nI 0))) 0 7 (.int (nI 0)), 198, sl) = some R := hh
    have er7 : R = (some (.int (nI N)), fset (fset (fset (fset h 1 1 (.int (nI 0))) 5 1 (.int (nI (c + N)))) 25 2 (.int (nI 0))) 0 7 (.int (nI 0)), 198, sl) := (rn_ret rfl (Or.inl rfl) hh).2
    have ed : w89 q cc gc h N c = (nI N, fset (fset (fset (fset h 1 1 (.int (nI 0))) 5 1 (.int (nI (c + N)))) 25 2 (.int (nI 0))) 0 7 (.int (nI 0))) := (cf z1).trans rfl
    refine ⟨?_, ?_, ?_⟩ <;> rw [ed]
    · exact er7
    · exact (wt_fs rfl (by decide) rfl (wt_fs rfl (by decide) rfl (wt_fs rfl (by decide) rfl (wt_fs rfl (by decide) rfl hw))))
    · exact (fr_f rfl rfl (fr_f rfl rfl (fr_f rfl rfl (fr_f rfl rfl fr_0))))
def w131 (q : QT) (cc gc : Nat) (h : pm_H) (g : Nat) (p : Int32) (k : Int32) (a : Nat) (w : Int32) (s : Int32) (e : Int32) (d : Int32) : Int32 × pm_H := (nI (a + 1), aset (aset (aset (aset (aset h 9 8 (upd (Ar h 9) g k)) 10 8 (upd (Ar h 10) g w)) 11 8 (upd (Ar h 11) g e)) 17 8 (upd (Ar h 17) g d)) 18 8 (upd (Ar h 18) g (shl (nI 1) d)))
theorem w131_ok {n fr lo sl cc gc : Nat} {q : QT} {h : pm_H} {R : pm_Rs} {g : Nat} {p : Int32} {k : Int32} {a : Nat} {w : Int32} {s : Int32} {e : Int32} {d : Int32} (hw : WT h) (h_g : g < 8) (h_a : a < 10000) (hh : pm_run PT n fr lo 131 (178, [some (.ref 0), some (.int (nI g)), some (.int p), some (.int k), some (.int (nI a)), some (.int w), some (.int s), some (.int e), some (.int d)], [], h, 198, sl) = some R) : R = (some (.int ((w131 q cc gc h g p k a w s e d).1)), (w131 q cc gc h g p k a w s e d).2, 198, sl) ∧ WT ((w131 q cc gc h g p k a w s e d).2) ∧ frm [9, 10, 11, 17, 18] [] h ((w131 q cc gc h g p k a w s e d).2) := by
  obtain ⟨n, hh⟩ := rn_i rfl rfl rfl rfl hh
  have hh : pm_run PT n fr lo 131 (179, [some (.ref 0), some (.int (nI g)), some (.int p), some (.int k), some (.int (nI a)), some (.int w), some (.int s), some (.int e), some (.int d)], [.ref 0], h, 198, sl) = some R := hh
  obtain ⟨n, hh⟩ := rn_gr hw rfl rfl (by decide) rfl (by decide) (show _ = some (2, ((5 : Nat) : Int), 1) from rfl) rfl hh
  obtain ⟨n, hh⟩ := rn_i rfl rfl rfl rfl hh
  obtain ⟨n, hh⟩ := rn_i rfl rfl rfl rfl hh
  obtain ⟨n, hh⟩ := rn_i rfl rfl rfl rfl hh
  obtain ⟨n, hh⟩ := rn_i rfl rfl rfl rfl hh
  have hh : pm_run PT n fr lo 131 (188, [some (.ref 0), some (.int (nI g)), some (.int p), some (.int k), some (.int (nI a)), some (.int w), some (.int s), some (.int e), some (.int d)], [.int e, .int w, .int k, .int (nI g), .ref 5], h, 198, sl) = some R := hh
  obtain ⟨n, fr1, lo1, r1, hh1, hh⟩ := rn_call (w := 0) (t := 27) rfl rfl hh
  have hh1 : pm_run PT n fr1 lo1 27 (0, [some (.ref 5), some (.int (nI g)), some (.int k), some (.int w), some (.int e)], [], h, 198, sl) = some r1 := hh1
  obtain ⟨n1, hh1⟩ := rn_i rfl rfl rfl rfl hh1
  have hh1 : pm_run PT n1 fr1 lo1 27 (1, [some (.ref 5), some (.int (nI g)), some (.int k), some (.int w), some (.int e)], [.ref 5], h, 198, sl) = some r1 := hh1
  obtain ⟨n1, hh1⟩ := rn_gr hw rfl rfl (by decide) rfl (by decide) (show _ = some (2, ((9 : Nat) : Int), 1) from rfl) rfl hh1
  obtain ⟨n1, hh1⟩ := rn_i rfl rfl rfl rfl hh1
  obtain ⟨n1, hh1⟩ := rn_i rfl rfl rfl rfl hh1
  have hh1 : pm_run PT n1 fr1 lo1 27 (6, [some (.ref 5), some (.int (nI g)), some (.int k), some (.int w), some (.int e)], [.int k, .int (nI g), .ref 9], h, 198, sl) = some r1 := hh1
  obtain ⟨n1, hx1, hh1⟩ := en_st (t := g) (f := Ar h 9) (nI_clamp (by omega)) hw rfl (by decide) rfl (by decide) rfl hh1
  obtain ⟨n1, hh1⟩ := rn_i rfl rfl rfl rfl hh1
  have hh1 : pm_run PT n1 fr1 lo1 27 (8, [some (.ref 5), some (.int (nI g)), some (.int k), some (.int w), some (.int e)], [.ref 5], aset h 9 8 (upd (Ar h 9) g k), 198, sl) = some r1 := hh1
  obtain ⟨n1, hh1⟩ := rn_gr (wt_as rfl hw) rfl rfl (by decide) rfl (by decide) (show _ = some (2, ((10 : Nat) : Int), 1) from rfl) rfl hh1
  obtain ⟨n1, hh1⟩ := rn_i rfl rfl rfl rfl hh1
  obtain ⟨n1, hh1⟩ := rn_i rfl rfl rfl rfl hh1
  have hh1 : pm_run PT n1 fr1 lo1 27 (13, [some (.ref 5), some (.int (nI g)), some (.int k), some (.int w), some (.int e)], [.int w, .int (nI g), .ref 10], aset h 9 8 (upd (Ar h 9) g k), 198, sl) = some r1 := hh1
  obtain ⟨n1, hx2, hh1⟩ := en_st (t := g) (f := Ar h 10) (nI_clamp (by omega)) (wt_as rfl hw) rfl (by decide) rfl (by decide) ((Ar_n (by decide)).trans rfl) hh1
  obtain ⟨n1, hh1⟩ := rn_i rfl rfl rfl rfl hh1
  have hh1 : pm_run PT n1 fr1 lo1 27 (15, [some (.ref 5), some (.int (nI g)), some (.int k), some (.int w), some (.int e)], [.ref 5], aset (aset h 9 8 (upd (Ar h 9) g k)) 10 8 (upd (Ar h 10) g w), 198, sl) = some r1 := hh1
  obtain ⟨n1, hh1⟩ := rn_gr (wt_as rfl (wt_as rfl hw)) rfl rfl (by decide) rfl (by decide) (show _ = some (2, ((11 : Nat) : Int), 1) from rfl) rfl hh1
  obtain ⟨n1, hh1⟩ := rn_i rfl rfl rfl rfl hh1
  obtain ⟨n1, hh1⟩ := rn_i rfl rfl rfl rfl hh1
  have hh1 : pm_run PT n1 fr1 lo1 27 (21, [some (.ref 5), some (.int (nI g)), some (.int k), some (.int w), some (.int e)], [.int e, .int (nI g), .ref 11], aset (aset h 9 8 (upd (Ar h 9) g k)) 10 8 (upd (Ar h 10) g w), 198, sl) = some r1 := hh1
  obtain ⟨n1, hx3, hh1⟩ := en_st (t := g) (f := Ar h 11) (nI_clamp (by omega)) (wt_as rfl (wt_as rfl hw)) rfl (by decide) rfl (by decide) ((Ar_n (by decide)).trans ((Ar_n (by decide)).trans rfl)) hh1
  have er4 : r1 = (none, aset (aset (aset h 9 8 (upd (Ar h 9) g k)) 10 8 (upd (Ar h 10) g w)) 11 8 (upd (Ar h 11) g e), 198, sl) := rn_vret rfl rfl hh1
  subst er4
  obtain ⟨n, hh⟩ := rn_i rfl rfl rfl rfl hh
  have hh : pm_run PT n fr lo 131 (192, [some (.ref 0), some (.int (nI g)), some (.int p), some (.int k), some (.int (nI a)), some (.int w), some (.int s), some (.int e), some (.int d)], [.ref 0], aset (aset (aset h 9 8 (upd (Ar h 9) g k)) 10 8 (upd (Ar h 10) g w)) 11 8 (upd (Ar h 11) g e), 198, sl) = some R := hh
  obtain ⟨n, hh⟩ := rn_gr (wt_as rfl (wt_as rfl (wt_as rfl hw))) rfl rfl (by decide) rfl (by decide) (show _ = some (2, ((13 : Nat) : Int), 1) from rfl) rfl hh
  have hh : pm_run PT n fr lo 131 (195, [some (.ref 0), some (.int (nI g)), some (.int p), some (.int k), some (.int (nI a)), some (.int w), some (.int s), some (.int e), some (.int d)], [.ref 13], aset (aset (aset h 9 8 (upd (Ar h 9) g k)) 10 8 (upd (Ar h 10) g w)) 11 8 (upd (Ar h 11) g e), 198, sl) = some R := hh
  obtain ⟨n, hh⟩ := rn_gr (wt_as rfl (wt_as rfl (wt_as rfl hw))) rfl rfl (by decide) rfl (by decide) (show _ = some (2, ((17 : Nat) : Int), 1) from rfl) rfl hh
  obtain ⟨n, hh⟩ := rn_i rfl rfl rfl rfl hh
  obtain ⟨n, hh⟩ := rn_i rfl rfl rfl rfl hh
  have hh : pm_run PT n fr lo 131 (201, [some (.ref 0), some (.int (nI g)), some (.int p), some (.int k), some (.int (nI a)), some (.int w), some (.int s), some (.int e), some (.int d)], [.int d, .int (nI g), .ref 17], aset (aset (aset h 9 8 (upd (Ar h 9) g k)) 10 8 (upd (Ar h 10) g w)) 11 8 (upd (Ar h 11) g e), 198, sl) = some R := hh
  obtain ⟨n, hx5, hh⟩ := en_st (t := g) (f := Ar h 17) (nI_clamp (by omega)) (wt_as rfl (wt_as rfl (wt_as rfl hw))) rfl (by decide) rfl (by decide) ((Ar_n (by decide)).trans ((Ar_n (by decide)).trans ((Ar_n (by decide)).trans rfl))) hh
  obtain ⟨n, hh⟩ := rn_i rfl rfl rfl rfl hh
  have hh : pm_run PT n fr lo 131 (203, [some (.ref 0), some (.int (nI g)), some (.int p), some (.int k), some (.int (nI a)), some (.int w), some (.int s), some (.int e), some (.int d)], [.ref 0], aset (aset (aset (aset h 9 8 (upd (Ar h 9) g k)) 10 8 (upd (Ar h 10) g w)) 11 8 (upd (Ar h 11) g e)) 17 8 (upd (Ar h 17) g d), 198, sl) = some R := hh
  obtain ⟨n, hh⟩ := rn_gr (wt_as rfl (wt_as rfl (wt_as rfl (wt_as rfl hw)))) rfl rfl (by decide) rfl (by decide) (show _ = some (2, ((13 : Nat) : Int), 1) from rfl) rfl hh
  have hh : pm_run PT n fr lo 131 (206, [some (.ref 0), some (.int (nI g)), some (.int p), some (.int k), some (.int (nI a)), some (.int w), some (.int s), some (.int e), some (.int d)], [.ref 13], aset (aset (aset (aset h 9 8 (upd (Ar h 9) g k)) 10 8 (upd (Ar h 10) g w)) 11 8 (upd (Ar h 11) g e)) 17 8 (upd (Ar h 17) g d), 198, sl) = some R := hh
  obtain ⟨n, hh⟩ := rn_gr (wt_as rfl (wt_as rfl (wt_as rfl (wt_as rfl hw)))) rfl rfl (by decide) rfl (by decide) (show _ = some (2, ((18 : Nat) : Int), 1) from rfl) rfl hh
  obtain ⟨n, hh⟩ := rn_i rfl rfl rfl rfl hh
  obtain ⟨n, hh⟩ := rn_i rfl rfl rfl rfl hh
  obtain ⟨n, hh⟩ := rn_i rfl rfl rfl rfl hh
  obtain ⟨n, hh⟩ := rn_i rfl rfl rfl rfl hh
  have hh : pm_run PT n fr lo 131 (214, [some (.ref 0), some (.int (nI g)), some (.int p), some (.int k), some (.int (nI a)), some (.int w), some (.int s), some (.int e), some (.int d)], [.int (shl (nI 1) d), .int (nI g), .ref 18], aset (aset (aset (aset h 9 8 (upd (Ar h 9) g k)) 10 8 (upd (Ar h 10) g w)) 11 8 (upd (Ar h 11) g e)) 17 8 (upd (Ar h 17) g d), 198, sl) = some R := hh
  obtain ⟨n, hx6, hh⟩ := en_st (t := g) (f := Ar h 18) (nI_clamp (by omega)) (wt_as rfl (wt_as rfl (wt_as rfl (wt_as rfl hw)))) rfl (by decide) rfl (by decide) ((Ar_n (by decide)).trans ((Ar_n (by decide)).trans ((Ar_n (by decide)).trans ((Ar_n (by decide)).trans rfl)))) hh
  obtain ⟨n, hh⟩ := rn_i rfl rfl rfl rfl hh
  obtain ⟨n, hh⟩ := rn_i rfl rfl rfl rfl hh
  have hh : pm_run PT n fr lo 131 (218, [some (.ref 0), some (.int (nI g)), some (.int p), some (.int k), some (.int (nI a)), some (.int w), some (.int s), some (.int e), some (.int d)], [.int (nI 1), .int (nI a)], aset (aset (aset (aset (aset h 9 8 (upd (Ar h 9) g k)) 10 8 (upd (Ar h 10) g w)) 11 8 (upd (Ar h 11) g e)) 17 8 (upd (Ar h 17) g d)) 18 8 (upd (Ar h 18) g (shl (nI 1) d)), 198, sl) = some R := hh
  obtain ⟨n, hh⟩ := en_add rfl hh
  have hh : pm_run PT n fr lo 131 (219, [some (.ref 0), some (.int (nI g)), some (.int p), some (.int k), some (.int (nI a)), some (.int w), some (.int s), some (.int e), some (.int d)], [.int (nI (a + 1))], aset (aset (aset (aset (aset h 9 8 (upd (Ar h 9) g k)) 10 8 (upd (Ar h 10) g w)) 11 8 (upd (Ar h 11) g e)) 17 8 (upd (Ar h 17) g d)) 18 8 (upd (Ar h 18) g (shl (nI 1) d)), 198, sl) = some R := hh
  have hh : pm_run PT n fr lo 131 (219, [some (.ref 0), some (.int (nI g)), some (.int p), some (.int k), some (.int (nI a)), some (.int w), some (.int s), some (.int e), some (.int d)], [.int (nI (a + 1))], aset (aset (aset (aset (aset h 9 8 (upd (Ar h 9) g k)) 10 8 (upd (Ar h 10) g w)) 11 8 (upd (Ar h 11) g e)) 17 8 (upd (Ar h 17) g d)) 18 8 (upd (Ar h 18) g (shl (nI 1) d)), 198, sl) = some R := hh
  have er7 : R = (some (.int (nI (a + 1))), aset (aset (aset (aset (aset h 9 8 (upd (Ar h 9) g k)) 10 8 (upd (Ar h 10) g w)) 11 8 (upd (Ar h 11) g e)) 17 8 (upd (Ar h 17) g d)) 18 8 (upd (Ar h 18) g (shl (nI 1) d)), 198, sl) := (rn_ret rfl (Or.inl rfl) hh).2
  have ed : w131 q cc gc h g p k a w s e d = (nI (a + 1), aset (aset (aset (aset (aset h 9 8 (upd (Ar h 9) g k)) 10 8 (upd (Ar h 10) g w)) 11 8 (upd (Ar h 11) g e)) 17 8 (upd (Ar h 17) g d)) 18 8 (upd (Ar h 18) g (shl (nI 1) d))) := rfl
  refine ⟨?_, ?_, ?_⟩ <;> rw [ed]
  · exact er7
  · exact (wt_as rfl (wt_as rfl (wt_as rfl (wt_as rfl (wt_as rfl hw)))))
  · exact (fr_a rfl rfl (fr_a rfl rfl (fr_a rfl rfl (fr_a rfl rfl (fr_a rfl rfl fr_0)))))
def w88n (q : QT) (cc gc : Nat) (h : pm_H) (v : Int32) : Int32 × pm_H := (v, fset h 1 1 (.int (nI 0)))
theorem w88n_ok {n fr lo sl cc gc : Nat} {q : QT} {h : pm_H} {R : pm_Rs} {v : Int32} (hw : WT h) (hle : pm_cmp .le v 0 = true) (hh : pm_run PT n fr lo 88 (5, [some (.ref 0), some (.int v), none], [], h, 198, sl) = some R) : R = (some (.int ((w88n q cc gc h v).1)), (w88n q cc gc h v).2, 198, sl) ∧ WT ((w88n q cc gc h v).2) ∧ frm [1] [(1, 1)] h ((w88n q cc gc h v).2) := by
  obtain ⟨n, hh⟩ := rn_i rfl rfl rfl rfl hh
  have hh : pm_run PT n fr lo 88 (6, [some (.ref 0), some (.int v), none], [.ref 0], h, 198, sl) = some R := hh
  obtain ⟨n, hh⟩ := rn_gr hw rfl rfl (by decide) rfl (by decide) (show _ = some (2, ((1 : Nat) : Int), 1) from rfl) rfl hh
  obtain ⟨n, hh⟩ := rn_i rfl rfl rfl rfl hh
  have hh : pm_run PT n fr lo 88 (10, [some (.ref 0), some (.int v), none], [.int (nI 0), .ref 1], h, 198, sl) = some R := hh
  obtain ⟨n, hh⟩ := rn_pi hw rfl rfl (by decide) rfl (by decide) rfl hh
  obtain ⟨n, hh⟩ := rn_i rfl rfl rfl rfl hh
  have hh : pm_run PT n fr lo 88 (14, [some (.ref 0), some (.int v), none], [.int v], fset h 1 1 (.int (nI 0)), 198, sl) = some R := hh
  obtain ⟨n, hh⟩ := en_zn (cc := .le) (off := 44) (t := 58) (b := pm_cmp .le v 0) rfl rfl rfl hh
  have hh := en_t hle hh
  have hh : pm_run PT n fr lo 88 (58, [some (.ref 0), some (.int v), none], [], fset h 1 1 (.int (nI 0)), 198, sl) = some R := hh
  obtain ⟨n, hh⟩ := rn_i rfl rfl rfl rfl hh
  have hh : pm_run PT n fr lo 88 (59, [some (.ref 0), some (.int v), none], [.int v], fset h 1 1 (.int (nI 0)), 198, sl) = some R := hh
  have er1 : R = (some (.int v), fset h 1 1 (.int (nI 0)), 198, sl) := (rn_ret rfl (Or.inl rfl) hh).2
  have ed : w88n q cc gc h v = (v, fset h 1 1 (.int (nI 0))) := rfl
  refine ⟨?_, ?_, ?_⟩ <;> rw [ed]
  · exact er1
  · exact (wt_fs rfl (by decide) rfl hw)
  · exact (fr_f rfl rfl fr_0)
def w89n (q : QT) (cc gc : Nat) (h : pm_H) (v : Int32) : Int32 × pm_H := (v, fset h 1 1 (.int (nI 0)))
theorem w89n_ok {n fr lo sl cc gc : Nat} {q : QT} {h : pm_H} {R : pm_Rs} {v : Int32} (hw : WT h) (hle : pm_cmp .le v 0 = true) (hh : pm_run PT n fr lo 89 (5, [some (.ref 0), some (.int v)], [], h, 198, sl) = some R) : R = (some (.int ((w89n q cc gc h v).1)), (w89n q cc gc h v).2, 198, sl) ∧ WT ((w89n q cc gc h v).2) ∧ frm [1] [(1, 1)] h ((w89n q cc gc h v).2) := by
  obtain ⟨n, hh⟩ := rn_i rfl rfl rfl rfl hh
  have hh : pm_run PT n fr lo 89 (6, [some (.ref 0), some (.int v)], [.ref 0], h, 198, sl) = some R := hh
  obtain ⟨n, hh⟩ := rn_gr hw rfl rfl (by decide) rfl (by decide) (show _ = some (2, ((1 : Nat) : Int), 1) from rfl) rfl hh
  obtain ⟨n, hh⟩ := rn_i rfl rfl rfl rfl hh
  have hh : pm_run PT n fr lo 89 (10, [some (.ref 0), some (.int v)], [.int (nI 0), .ref 1], h, 198, sl) = some R := hh
  obtain ⟨n, hh⟩ := rn_pi hw rfl rfl (by decide) rfl (by decide) rfl hh
  obtain ⟨n, hh⟩ := rn_i rfl rfl rfl rfl hh
  have hh : pm_run PT n fr lo 89 (14, [some (.ref 0), some (.int v)], [.int v], fset h 1 1 (.int (nI 0)), 198, sl) = some R := hh
  obtain ⟨n, hh⟩ := en_zn (cc := .le) (off := 20) (t := 34) (b := pm_cmp .le v 0) rfl rfl rfl hh
  have hh := en_t hle hh
  have hh : pm_run PT n fr lo 89 (34, [some (.ref 0), some (.int v)], [], fset h 1 1 (.int (nI 0)), 198, sl) = some R := hh
  obtain ⟨n, hh⟩ := rn_i rfl rfl rfl rfl hh
  have hh : pm_run PT n fr lo 89 (35, [some (.ref 0), some (.int v)], [.int v], fset h 1 1 (.int (nI 0)), 198, sl) = some R := hh
  have er1 : R = (some (.int v), fset h 1 1 (.int (nI 0)), 198, sl) := (rn_ret rfl (Or.inl rfl) hh).2
  have ed : w89n q cc gc h v = (v, fset h 1 1 (.int (nI 0))) := rfl
  refine ⟨?_, ?_, ?_⟩ <;> rw [ed]
  · exact er1
  · exact (wt_fs rfl (by decide) rfl hw)
  · exact (fr_f rfl rfl fr_0)
def w189 (q : QT) (cc gc : Nat) (h : pm_H) (a : Nat) (b : Nat) : pm_H := aset (aset h 170 96 (upd (upd (Ar h 170) (6 + 6 * a + b) (nI 10)) (42 + 6 * a + b) (nI 0))) 169 36 (upd (Ar h 169) (6 * a + b) (nI 0))
theorem w189_ok {n fr lo sl cc gc : Nat} {q : QT} {h : pm_H} {R : pm_Rs} {a : Nat} {b : Nat} (hw : WT h) (h_a : a < 10000) (h_b : b < 10000) (hh : pm_run PT n fr lo 189 (0, pm_l0 [.ref 162, .int (nI a), .int (nI b)] 3, [], h, 198, sl) = some R) : R = (none, w189 q cc gc h a b, 198, sl) ∧ WT (w189 q cc gc h a b) ∧ frm [169, 170] [] h (w189 q cc gc h a b) := by
  obtain ⟨n, hh⟩ := rn_i rfl rfl rfl rfl hh
  have hh : pm_run PT n fr lo 189 (1, [some (.ref 162), some (.int (nI a)), some (.int (nI b))], [.ref 162], h, 198, sl) = some R := hh
  obtain ⟨n, hh⟩ := rn_gr hw rfl rfl (by decide) rfl (by decide) (show _ = some (2, ((170 : Nat) : Int), 1) from rfl) rfl hh
  obtain ⟨n, hh⟩ := rn_i rfl rfl rfl rfl hh
  obtain ⟨n, hh⟩ := rn_i rfl rfl rfl rfl hh
  obtain ⟨n, hh⟩ := rn_i rfl rfl rfl rfl hh
  have hh : pm_run PT n fr lo 189 (9, [some (.ref 162), some (.int (nI a)), some (.int (nI b))], [.int (nI a), .int (nI 6), .int (nI 6), .ref 170], h, 198, sl) = some R := hh
  obtain ⟨n, hh⟩ := en_mul rfl hh
  have hh : pm_run PT n fr lo 189 (10, [some (.ref 162), some (.int (nI a)), some (.int (nI b))], [.int (nI (6 * a)), .int (nI 6), .ref 170], h, 198, sl) = some R := hh
  have hh : pm_run PT n fr lo 189 (10, [some (.ref 162), some (.int (nI a)), some (.int (nI b))], [.int (nI (6 * a)), .int (nI 6), .ref 170], h, 198, sl) = some R := hh
  obtain ⟨n, hh⟩ := en_add rfl hh
  have hh : pm_run PT n fr lo 189 (11, [some (.ref 162), some (.int (nI a)), some (.int (nI b))], [.int (nI (6 + 6 * a)), .ref 170], h, 198, sl) = some R := hh
  obtain ⟨n, hh⟩ := rn_i rfl rfl rfl rfl hh
  have hh : pm_run PT n fr lo 189 (12, [some (.ref 162), some (.int (nI a)), some (.int (nI b))], [.int (nI b), .int (nI (6 + 6 * a)), .ref 170], h, 198, sl) = some R := hh
  obtain ⟨n, hh⟩ := en_add rfl hh
  have hh : pm_run PT n fr lo 189 (13, [some (.ref 162), some (.int (nI a)), some (.int (nI b))], [.int (nI (6 + 6 * a + b)), .ref 170], h, 198, sl) = some R := hh
  obtain ⟨n, hh⟩ := rn_i rfl rfl rfl rfl hh
  have hh : pm_run PT n fr lo 189 (15, [some (.ref 162), some (.int (nI a)), some (.int (nI b))], [.int (nI 10), .int (nI (6 + 6 * a + b)), .ref 170], h, 198, sl) = some R := hh
  obtain ⟨n, hx1, hh⟩ := en_st (t := 6 + 6 * a + b) (f := Ar h 170) (nI_clamp (by omega)) hw rfl (by decide) rfl (by decide) rfl hh
  obtain ⟨n, hh⟩ := rn_i rfl rfl rfl rfl hh
  have hh : pm_run PT n fr lo 189 (17, [some (.ref 162), some (.int (nI a)), some (.int (nI b))], [.ref 162], aset h 170 96 (upd (Ar h 170) (6 + 6 * a + b) (nI 10)), 198, sl) = some R := hh
  obtain ⟨n, hh⟩ := rn_gr (wt_as rfl hw) rfl rfl (by decide) rfl (by decide) (show _ = some (2, ((170 : Nat) : Int), 1) from rfl) rfl hh
  obtain ⟨n, hh⟩ := rn_i rfl rfl rfl rfl hh
  obtain ⟨n, hh⟩ := rn_i rfl rfl rfl rfl hh
  obtain ⟨n, hh⟩ := rn_i rfl rfl rfl rfl hh
  have hh : pm_run PT n fr lo 189 (25, [some (.ref 162), some (.int (nI a)), some (.int (nI b))], [.int (nI a), .int (nI 6), .int (nI 42), .ref 170], aset h 170 96 (upd (Ar h 170) (6 + 6 * a + b) (nI 10)), 198, sl) = some R := hh
  obtain ⟨n, hh⟩ := en_mul rfl hh
  have hh : pm_run PT n fr lo 189 (26, [some (.ref 162), some (.int (nI a)), some (.int (nI b))], [.int (nI (6 * a)), .int (nI 42), .ref 170], aset h 170 96 (upd (Ar h 170) (6 + 6 * a + b) (nI 10)), 198, sl) = some R := hh
  have hh : pm_run PT n fr lo 189 (26, [some (.ref 162), some (.int (nI a)), some (.int (nI b))], [.int (nI (6 * a)), .int (nI 42), .ref 170], aset h 170 96 (upd (Ar h 170) (6 + 6 * a + b) (nI 10)), 198, sl) = some R := hh
  obtain ⟨n, hh⟩ := en_add rfl hh
  have hh : pm_run PT n fr lo 189 (27, [some (.ref 162), some (.int (nI a)), some (.int (nI b))], [.int (nI (42 + 6 * a)), .ref 170], aset h 170 96 (upd (Ar h 170) (6 + 6 * a + b) (nI 10)), 198, sl) = some R := hh
  obtain ⟨n, hh⟩ := rn_i rfl rfl rfl rfl hh
  have hh : pm_run PT n fr lo 189 (28, [some (.ref 162), some (.int (nI a)), some (.int (nI b))], [.int (nI b), .int (nI (42 + 6 * a)), .ref 170], aset h 170 96 (upd (Ar h 170) (6 + 6 * a + b) (nI 10)), 198, sl) = some R := hh
  obtain ⟨n, hh⟩ := en_add rfl hh
  have hh : pm_run PT n fr lo 189 (29, [some (.ref 162), some (.int (nI a)), some (.int (nI b))], [.int (nI (42 + 6 * a + b)), .ref 170], aset h 170 96 (upd (Ar h 170) (6 + 6 * a + b) (nI 10)), 198, sl) = some R := hh
  obtain ⟨n, hh⟩ := rn_i rfl rfl rfl rfl hh
  have hh : pm_run PT n fr lo 189 (30, [some (.ref 162), some (.int (nI a)), some (.int (nI b))], [.int (nI 0), .int (nI (42 + 6 * a + b)), .ref 170], aset h 170 96 (upd (Ar h 170) (6 + 6 * a + b) (nI 10)), 198, sl) = some R := hh
  obtain ⟨n, hx2, hh⟩ := en_st (t := 42 + 6 * a + b) (f := upd (Ar h 170) (6 + 6 * a + b) (nI 10)) (nI_clamp (by omega)) (wt_as rfl hw) rfl (by decide) rfl (by decide) Ar_s hh
  have hh : pm_run PT n fr lo 189 (31, [some (.ref 162), some (.int (nI a)), some (.int (nI b))], [], aset (aset h 170 96 (upd (Ar h 170) (6 + 6 * a + b) (nI 10))) 170 96 (upd (upd (Ar h 170) (6 + 6 * a + b) (nI 10)) (42 + 6 * a + b) (nI 0)), 198, sl) = some R := hh
  rw [aset_aset] at hh
  obtain ⟨n, hh⟩ := rn_i rfl rfl rfl rfl hh
  have hh : pm_run PT n fr lo 189 (32, [some (.ref 162), some (.int (nI a)), some (.int (nI b))], [.ref 162], aset h 170 96 (upd (upd (Ar h 170) (6 + 6 * a + b) (nI 10)) (42 + 6 * a + b) (nI 0)), 198, sl) = some R := hh
  obtain ⟨n, hh⟩ := rn_gr (wt_as rfl hw) rfl rfl (by decide) rfl (by decide) (show _ = some (2, ((169 : Nat) : Int), 1) from rfl) rfl hh
  obtain ⟨n, hh⟩ := rn_i rfl rfl rfl rfl hh
  obtain ⟨n, hh⟩ := rn_i rfl rfl rfl rfl hh
  have hh : pm_run PT n fr lo 189 (38, [some (.ref 162), some (.int (nI a)), some (.int (nI b))], [.int (nI a), .int (nI 6), .ref 169], aset h 170 96 (upd (upd (Ar h 170) (6 + 6 * a + b) (nI 10)) (42 + 6 * a + b) (nI 0)), 198, sl) = some R := hh
  obtain ⟨n, hh⟩ := en_mul rfl hh
  have hh : pm_run PT n fr lo 189 (39, [some (.ref 162), some (.int (nI a)), some (.int (nI b))], [.int (nI (6 * a)), .ref 169], aset h 170 96 (upd (upd (Ar h 170) (6 + 6 * a + b) (nI 10)) (42 + 6 * a + b) (nI 0)), 198, sl) = some R := hh
  obtain ⟨n, hh⟩ := rn_i rfl rfl rfl rfl hh
  have hh : pm_run PT n fr lo 189 (40, [some (.ref 162), some (.int (nI a)), some (.int (nI b))], [.int (nI b), .int (nI (6 * a)), .ref 169], aset h 170 96 (upd (upd (Ar h 170) (6 + 6 * a + b) (nI 10)) (42 + 6 * a + b) (nI 0)), 198, sl) = some R := hh
  obtain ⟨n, hh⟩ := en_add rfl hh
  have hh : pm_run PT n fr lo 189 (41, [some (.ref 162), some (.int (nI a)), some (.int (nI b))], [.int (nI (6 * a + b)), .ref 169], aset h 170 96 (upd (upd (Ar h 170) (6 + 6 * a + b) (nI 10)) (42 + 6 * a + b) (nI 0)), 198, sl) = some R := hh
  obtain ⟨n, hh⟩ := rn_i rfl rfl rfl rfl hh
  have hh : pm_run PT n fr lo 189 (42, [some (.ref 162), some (.int (nI a)), some (.int (nI b))], [.int (nI 0), .int (nI (6 * a + b)), .ref 169], aset h 170 96 (upd (upd (Ar h 170) (6 + 6 * a + b) (nI 10)) (42 + 6 * a + b) (nI 0)), 198, sl) = some R := hh
  obtain ⟨n, hx3, hh⟩ := en_st (t := 6 * a + b) (f := Ar h 169) (nI_clamp (by omega)) (wt_as rfl hw) rfl (by decide) rfl (by decide) ((Ar_n (by decide)).trans rfl) hh
  have er4 : R = (none, aset (aset h 170 96 (upd (upd (Ar h 170) (6 + 6 * a + b) (nI 10)) (42 + 6 * a + b) (nI 0))) 169 36 (upd (Ar h 169) (6 * a + b) (nI 0)), 198, sl) := rn_vret rfl rfl hh
  have ed : w189 q cc gc h a b = aset (aset h 170 96 (upd (upd (Ar h 170) (6 + 6 * a + b) (nI 10)) (42 + 6 * a + b) (nI 0))) 169 36 (upd (Ar h 169) (6 * a + b) (nI 0)) := rfl
  refine ⟨?_, ?_, ?_⟩ <;> rw [ed]
  · exact er4
  · exact (wt_as rfl (wt_as rfl hw))
  · exact (fr_a rfl rfl (fr_a rfl rfl fr_0))
theorem w189_fr {cc gc : Nat} {q : QT} {h : pm_H} {a : Nat} {b : Nat} (hw : WT h) : WT (w189 q cc gc h a b) ∧ frm [169, 170] [] h (w189 q cc gc h a b) := by
  unfold w189
  show WT (aset (aset h 170 96 (upd (upd (Ar h 170) (6 + 6 * a + b) (nI 10)) (42 + 6 * a + b) (nI 0))) 169 36 (upd (Ar h 169) (6 * a + b) (nI 0))) ∧ frm [169, 170] [] h (aset (aset h 170 96 (upd (upd (Ar h 170) (6 + 6 * a + b) (nI 10)) (42 + 6 * a + b) (nI 0))) 169 36 (upd (Ar h 169) (6 * a + b) (nI 0)))
  exact ⟨(wt_as rfl (wt_as rfl hw)), (fr_a rfl rfl (fr_a rfl rfl fr_0))⟩
def w190 (q : QT) (cc gc : Nat) (h : pm_H) (r : Nat) : pm_H := fset (fset h 162 27 (.int (cond (decide (r ≤ 0)) (Fi h 162 27) (nI 0)))) 162 5 (.int ((Fi h 162 5) + (cond (cond (decide (r ≤ 0)) false true) 1 0)))
theorem w190_ok {n fr lo sl cc gc : Nat} {q : QT} {h : pm_H} {R : pm_Rs} {r : Nat} (hw : WT h) (hr : r ≤ 8) (e20 : Fi h 162 20 = nI r) (hh : pm_run PT n fr lo 190 (0, pm_l0 [.ref 162] 1, [], h, 198, sl) = some R) : R = (none, w190 q cc gc h r, 198, sl) ∧ WT (w190 q cc gc h r) ∧ frm [162] [(162, 5), (162, 27)] h (w190 q cc gc h r) := by
  obtain ⟨n, hh⟩ := rn_i rfl rfl rfl rfl hh
  obtain ⟨n, hh⟩ := rn_i rfl rfl rfl rfl hh
  have hh : pm_run PT n fr lo 190 (2, [some (.ref 162)], [.ref 162, .ref 162], h, 198, sl) = some R := hh
  obtain ⟨n, hh⟩ := rn_gi (x := nI r) hw rfl rfl (by decide) rfl (by decide) rfl e20 hh
  have hh : pm_run PT n fr lo 190 (5, [some (.ref 162)], [.int (nI r), .ref 162], h, 198, sl) = some R := hh
  obtain ⟨n, hh⟩ := en_zn (cc := .le) (off := 7) (t := 12) (b := decide (r ≤ 0)) (hI_le (b := 0) (by omega) (by omega)) rfl rfl hh
  have hj2 : ∃ mJ, pm_run PT mJ fr lo 190 (cond (decide (r ≤ 0)) (16, [some (.ref 162)], [.int (Fi h 162 27), .ref 162], h, 198, sl) (16, [some (.ref 162)], [.int (nI 0), .ref 162], h, 198, sl)) = some R := en_J (fun z1 => by
      have hh := en_t z1 hh
      have hh : pm_run PT n fr lo 190 (12, [some (.ref 162)], [.ref 162], h, 198, sl) = some R := hh
      have y_z1 := of_decide_eq_true z1
      obtain ⟨n, hh⟩ := rn_i rfl rfl rfl rfl hh
      have hh : pm_run PT n fr lo 190 (13, [some (.ref 162)], [.ref 162, .ref 162], h, 198, sl) = some R := hh
      obtain ⟨n, hh⟩ := rn_gi (x := Fi h 162 27) hw rfl rfl (by decide) rfl (by decide) rfl rfl hh
      exact ⟨n, hh⟩) (fun z1 => by
      have hh := en_f z1 hh
      have hh : pm_run PT n fr lo 190 (8, [some (.ref 162)], [.ref 162], h, 198, sl) = some R := hh
      have y_z1 := of_decide_eq_false z1
      obtain ⟨n, hh⟩ := rn_i rfl rfl rfl rfl hh
      obtain ⟨n, hh⟩ := rn_i rfl rfl rfl rfl hh
      exact ⟨n, hh⟩)
  obtain ⟨n, hh⟩ := hj2
  rw [show (cond (decide (r ≤ 0)) (16, [some (.ref 162)], [.int (Fi h 162 27), .ref 162], h, 198, sl) (16, [some (.ref 162)], [.int (nI 0), .ref 162], h, 198, sl) : pm_St) = (16, [some (.ref 162)], [.int (cond (decide (r ≤ 0)) (Fi h 162 27) (nI 0)), .ref 162], h, 198, sl) from by cases (decide (r ≤ 0)) <;> rfl] at hh
  have hh : pm_run PT n fr lo 190 (16, [some (.ref 162)], [.int (cond (decide (r ≤ 0)) (Fi h 162 27) (nI 0)), .ref 162], h, 198, sl) = some R := hh
  obtain ⟨n, hh⟩ := rn_pi hw rfl rfl (by decide) rfl (by decide) rfl hh
  obtain ⟨n, hh⟩ := rn_i rfl rfl rfl rfl hh
  obtain ⟨n, hh⟩ := rn_i rfl rfl rfl rfl hh
  have hh : pm_run PT n fr lo 190 (21, [some (.ref 162)], [.ref 162, .ref 162], fset h 162 27 (.int (cond (decide (r ≤ 0)) (Fi h 162 27) (nI 0))), 198, sl) = some R := hh
  obtain ⟨n, hh⟩ := rn_gi (x := Fi h 162 5) (wt_fs rfl (by decide) rfl hw) rfl rfl (by decide) rfl (by decide) rfl ((Fi_n (Or.inr (by decide))).trans rfl) hh
  obtain ⟨n, hh⟩ := rn_i rfl rfl rfl rfl hh
  have hh : pm_run PT n fr lo 190 (25, [some (.ref 162)], [.ref 162, .int (Fi h 162 5), .ref 162], fset h 162 27 (.int (cond (decide (r ≤ 0)) (Fi h 162 27) (nI 0))), 198, sl) = some R := hh
  obtain ⟨n, hh⟩ := rn_gi (x := nI r) (wt_fs rfl (by decide) rfl hw) rfl rfl (by decide) rfl (by decide) rfl ((Fi_n (Or.inr (by decide))).trans e20) hh
  have hh : pm_run PT n fr lo 190 (28, [some (.ref 162)], [.int (nI r), .int (Fi h 162 5), .ref 162], fset h 162 27 (.int (cond (decide (r ≤ 0)) (Fi h 162 27) (nI 0))), 198, sl) = some R := hh
  obtain ⟨n, hh⟩ := en_zn (cc := .le) (off := 7) (t := 35) (b := decide (r ≤ 0)) (hI_le (b := 0) (by omega) (by omega)) rfl rfl hh
  have hj4 : ∃ mJ, pm_run PT mJ fr lo 190 (cond (decide (r ≤ 0)) (36, [some (.ref 162)], [.int (nI 0), .int (Fi h 162 5), .ref 162], fset h 162 27 (.int (cond (decide (r ≤ 0)) (Fi h 162 27) (nI 0))), 198, sl) (36, [some (.ref 162)], [.int (nI 1), .int (Fi h 162 5), .ref 162], fset h 162 27 (.int (cond (decide (r ≤ 0)) (Fi h 162 27) (nI 0))), 198, sl)) = some R := en_J (fun z3 => by
      have hh := en_t z3 hh
      have hh : pm_run PT n fr lo 190 (35, [some (.ref 162)], [.int (Fi h 162 5), .ref 162], fset h 162 27 (.int (cond (decide (r ≤ 0)) (Fi h 162 27) (nI 0))), 198, sl) = some R := hh
      have y_z3 := of_decide_eq_true z3
      obtain ⟨n, hh⟩ := rn_i rfl rfl rfl rfl hh
      exact ⟨n, hh⟩) (fun z3 => by
      have hh := en_f z3 hh
      have hh : pm_run PT n fr lo 190 (31, [some (.ref 162)], [.int (Fi h 162 5), .ref 162], fset h 162 27 (.int (cond (decide (r ≤ 0)) (Fi h 162 27) (nI 0))), 198, sl) = some R := hh
      have y_z3 := of_decide_eq_false z3
      obtain ⟨n, hh⟩ := rn_i rfl rfl rfl rfl hh
      obtain ⟨n, hh⟩ := rn_i rfl rfl rfl rfl hh
      exact ⟨n, hh⟩)
  obtain ⟨n, hh⟩ := hj4
  rw [show (cond (decide (r ≤ 0)) (36, [some (.ref 162)], [.int (nI 0), .int (Fi h 162 5), .ref 162], fset h 162 27 (.int (cond (decide (r ≤ 0)) (Fi h 162 27) (nI 0))), 198, sl) (36, [some (.ref 162)], [.int (nI 1), .int (Fi h 162 5), .ref 162], fset h 162 27 (.int (cond (decide (r ≤ 0)) (Fi h 162 27) (nI 0))), 198, sl) : pm_St) = (36, [some (.ref 162)], [.int (cond (cond (decide (r ≤ 0)) false true) 1 0), .int (Fi h 162 5), .ref 162], fset h 162 27 (.int (cond (decide (r ≤ 0)) (Fi h 162 27) (nI 0))), 198, sl) from by cases (decide (r ≤ 0)) <;> rfl] at hh
  have hh : pm_run PT n fr lo 190 (36, [some (.ref 162)], [.int (cond (cond (decide (r ≤ 0)) false true) 1 0), .int (Fi h 162 5), .ref 162], fset h 162 27 (.int (cond (decide (r ≤ 0)) (Fi h 162 27) (nI 0))), 198, sl) = some R := hh
  obtain ⟨n, fr1, lo1, r1, hh1, hh⟩ := rn_call (w := 2) (t := 165) rfl rfl hh
  have er5 := rn_dt (F := 10) (Lo := 1000) (hd_flag (fr := 10) (lo := 1000) (h := fset h 162 27 (.int (cond (decide (r ≤ 0)) (Fi h 162 27) (nI 0)))) (sl := sl) (cond (decide (r ≤ 0)) false true)) hh1
  subst er5
  obtain ⟨n, hh⟩ := rn_i rfl rfl rfl rfl hh
  have hh : pm_run PT n fr lo 190 (40, [some (.ref 162)], [.int ((Fi h 162 5) + (cond (cond (decide (r ≤ 0)) false true) 1 0)), .ref 162], fset h 162 27 (.int (cond (decide (r ≤ 0)) (Fi h 162 27) (nI 0))), 198, sl) = some R := hh
  obtain ⟨n, hh⟩ := rn_pi (wt_fs rfl (by decide) rfl hw) rfl rfl (by decide) rfl (by decide) rfl hh
  have er6 : R = (none, fset (fset h 162 27 (.int (cond (decide (r ≤ 0)) (Fi h 162 27) (nI 0)))) 162 5 (.int ((Fi h 162 5) + (cond (cond (decide (r ≤ 0)) false true) 1 0))), 198, sl) := rn_vret rfl rfl hh
  have ed : w190 q cc gc h r = fset (fset h 162 27 (.int (cond (decide (r ≤ 0)) (Fi h 162 27) (nI 0)))) 162 5 (.int ((Fi h 162 5) + (cond (cond (decide (r ≤ 0)) false true) 1 0))) := rfl
  refine ⟨?_, ?_, ?_⟩ <;> rw [ed]
  · exact er6
  · exact (wt_fs rfl (by decide) rfl (wt_fs rfl (by decide) rfl hw))
  · exact (fr_f rfl rfl (fr_f rfl rfl fr_0))
def w188_112b (q : QT) (cc gc : Nat) (h : pm_H) (z162_20 : Nat) (z162_3 : Nat) (t1 : Int32) (t2 : Int32) (t3 : Int32) (t4 : Int32) (m5 : Nat) (i : Nat) : pm_H := aset h 165 30 (upd (Ar h 165) (5 * z162_3 + i) ((Ar h 173) (6 * m5 + 1 + i)))
def w188_112 (q : QT) (cc gc : Nat) (z162_20 : Nat) (z162_3 : Nat) (t1 : Int32) (t2 : Int32) (t3 : Int32) (t4 : Int32) (m5 : Nat) (j i : Nat) (a : pm_H) : pm_H := lp (fun i a => w188_112b q cc gc a z162_20 z162_3 t1 t2 t3 t4 m5 i) j i a
theorem w188_112_e {n fr lo sl cc gc : Nat} {q : QT} {h : pm_H} {R : pm_Rs} {z162_20 : Nat} {z162_3 : Nat} {t1 : Int32} {t2 : Int32} {t3 : Int32} {t4 : Int32} {m5 : Nat} {i : Nat} (hw : WT h) (h_m5 : m5 < 10000) (hz : z162_3 ≤ 6) (e20 : Fi h 162 20 = nI z162_20) (e3 : Fi h 162 3 = nI z162_3) (hi : 5 ≤ i) (hI : i < 1000000) (hh : pm_run PT n fr lo 188 (112, [some (.ref 162), some (.int t1), some (.int t2), some (.int t3), some (.int t4), some (.int (nI m5)), some (.int (nI i))], [], h, 198, sl) = some R) : ∃ m, pm_run PT m fr lo 188 (153, [some (.ref 162), some (.int t1), some (.int t2), some (.int t3), some (.int t4), some (.int (nI m5)), some (.int (nI i))], [], h, 198, sl) = some R := by
  obtain ⟨n, hh⟩ := rn_i rfl rfl rfl rfl hh
  obtain ⟨n, hh⟩ := rn_i rfl rfl rfl rfl hh
  have hh : pm_run PT n fr lo 188 (115, [some (.ref 162), some (.int t1), some (.int t2), some (.int t3), some (.int t4), some (.int (nI m5)), some (.int (nI i))], [.int (nI 5), .int (nI i)], h, 198, sl) = some R := hh
  obtain ⟨n, hh⟩ := en_cn (cc := .ge) (off := 38) (t := 153) (b := decide (5 ≤ i)) (hI_ge (by omega) (by omega)) rfl rfl hh
  have hh := en_t (show decide (5 ≤ i) = true from decide_eq_true (by omega)) hh
  have hh : pm_run PT n fr lo 188 (153, [some (.ref 162), some (.int t1), some (.int t2), some (.int t3), some (.int t4), some (.int (nI m5)), some (.int (nI i))], [], h, 198, sl) = some R := hh
  exact ⟨n, hh⟩
theorem w188_112_s {n fr lo sl cc gc : Nat} {q : QT} {h : pm_H} {R : pm_Rs} {z162_20 : Nat} {z162_3 : Nat} {t1 : Int32} {t2 : Int32} {t3 : Int32} {t4 : Int32} {m5 : Nat} {i : Nat} (hw : WT h) (h_m5 : m5 < 10000) (hz : z162_3 ≤ 6) (e20 : Fi h 162 20 = nI z162_20) (e3 : Fi h 162 3 = nI z162_3) (hi : i < 5) (hI : i < 1000000) (hh : pm_run PT n fr lo 188 (112, [some (.ref 162), some (.int t1), some (.int t2), some (.int t3), some (.int t4), some (.int (nI m5)), some (.int (nI i))], [], h, 198, sl) = some R) : ∃ m, WT ((w188_112b q cc gc h z162_20 z162_3 t1 t2 t3 t4 m5 i)) ∧ frm [165] [] h ((w188_112b q cc gc h z162_20 z162_3 t1 t2 t3 t4 m5 i)) ∧ Fi ((w188_112b q cc gc h z162_20 z162_3 t1 t2 t3 t4 m5 i)) 162 20 = nI z162_20 ∧ Fi ((w188_112b q cc gc h z162_20 z162_3 t1 t2 t3 t4 m5 i)) 162 3 = nI z162_3 ∧ pm_run PT m fr lo 188 (112, [some (.ref 162), some (.int t1), some (.int t2), some (.int t3), some (.int t4), some (.int (nI m5)), some (.int (nI (i + 1)))], [], (w188_112b q cc gc h z162_20 z162_3 t1 t2 t3 t4 m5 i), 198, sl) = some R := by
  obtain ⟨n, hh⟩ := rn_i rfl rfl rfl rfl hh
  obtain ⟨n, hh⟩ := rn_i rfl rfl rfl rfl hh
  have hh : pm_run PT n fr lo 188 (115, [some (.ref 162), some (.int t1), some (.int t2), some (.int t3), some (.int t4), some (.int (nI m5)), some (.int (nI i))], [.int (nI 5), .int (nI i)], h, 198, sl) = some R := hh
  obtain ⟨n, hh⟩ := en_cn (cc := .ge) (off := 38) (t := 153) (b := decide (5 ≤ i)) (hI_ge (by omega) (by omega)) rfl rfl hh
  have hh := en_f (show decide (5 ≤ i) = false from decide_eq_false (by omega)) hh
  have hh : pm_run PT n fr lo 188 (118, [some (.ref 162), some (.int t1), some (.int t2), some (.int t3), some (.int t4), some (.int (nI m5)), some (.int (nI i))], [], h, 198, sl) = some R := hh
  obtain ⟨n, hh⟩ := rn_i rfl rfl rfl rfl hh
  have hh : pm_run PT n fr lo 188 (119, [some (.ref 162), some (.int t1), some (.int t2), some (.int t3), some (.int t4), some (.int (nI m5)), some (.int (nI i))], [.ref 162], h, 198, sl) = some R := hh
  obtain ⟨n, hh⟩ := rn_gr hw rfl rfl (by decide) rfl (by decide) (show _ = some (2, ((165 : Nat) : Int), 1) from rfl) rfl hh
  obtain ⟨n, hh⟩ := rn_i rfl rfl rfl rfl hh
  obtain ⟨n, hh⟩ := rn_i rfl rfl rfl rfl hh
  have hh : pm_run PT n fr lo 188 (124, [some (.ref 162), some (.int t1), some (.int t2), some (.int t3), some (.int t4), some (.int (nI m5)), some (.int (nI i))], [.ref 162, .int (nI 5), .ref 165], h, 198, sl) = some R := hh
  obtain ⟨n, hh⟩ := rn_gi (x := nI z162_3) hw rfl rfl (by decide) rfl (by decide) rfl e3 hh
  have hh : pm_run PT n fr lo 188 (127, [some (.ref 162), some (.int t1), some (.int t2), some (.int t3), some (.int t4), some (.int (nI m5)), some (.int (nI i))], [.int (nI z162_3), .int (nI 5), .ref 165], h, 198, sl) = some R := hh
  obtain ⟨n, hh⟩ := en_mul rfl hh
  have hh : pm_run PT n fr lo 188 (128, [some (.ref 162), some (.int t1), some (.int t2), some (.int t3), some (.int t4), some (.int (nI m5)), some (.int (nI i))], [.int (nI (5 * z162_3)), .ref 165], h, 198, sl) = some R := hh
  obtain ⟨n, hh⟩ := rn_i rfl rfl rfl rfl hh
  have hh : pm_run PT n fr lo 188 (130, [some (.ref 162), some (.int t1), some (.int t2), some (.int t3), some (.int t4), some (.int (nI m5)), some (.int (nI i))], [.int (nI i), .int (nI (5 * z162_3)), .ref 165], h, 198, sl) = some R := hh
  obtain ⟨n, hh⟩ := en_add rfl hh
  have hh : pm_run PT n fr lo 188 (131, [some (.ref 162), some (.int t1), some (.int t2), some (.int t3), some (.int t4), some (.int (nI m5)), some (.int (nI i))], [.int (nI (5 * z162_3 + i)), .ref 165], h, 198, sl) = some R := hh
  obtain ⟨n, hh⟩ := rn_i rfl rfl rfl rfl hh
  have hh : pm_run PT n fr lo 188 (132, [some (.ref 162), some (.int t1), some (.int t2), some (.int t3), some (.int t4), some (.int (nI m5)), some (.int (nI i))], [.ref 162, .int (nI (5 * z162_3 + i)), .ref 165], h, 198, sl) = some R := hh
  obtain ⟨n, hh⟩ := rn_gr hw rfl rfl (by decide) rfl (by decide) (show _ = some (2, ((173 : Nat) : Int), 1) from rfl) rfl hh
  obtain ⟨n, hh⟩ := rn_i rfl rfl rfl rfl hh
  obtain ⟨n, hh⟩ := rn_i rfl rfl rfl rfl hh
  have hh : pm_run PT n fr lo 188 (139, [some (.ref 162), some (.int t1), some (.int t2), some (.int t3), some (.int t4), some (.int (nI m5)), some (.int (nI i))], [.int (nI m5), .int (nI 6), .ref 173, .int (nI (5 * z162_3 + i)), .ref 165], h, 198, sl) = some R := hh
  obtain ⟨n, hh⟩ := en_mul rfl hh
  have hh : pm_run PT n fr lo 188 (140, [some (.ref 162), some (.int t1), some (.int t2), some (.int t3), some (.int t4), some (.int (nI m5)), some (.int (nI i))], [.int (nI (6 * m5)), .ref 173, .int (nI (5 * z162_3 + i)), .ref 165], h, 198, sl) = some R := hh
  obtain ⟨n, hh⟩ := rn_i rfl rfl rfl rfl hh
  have hh : pm_run PT n fr lo 188 (141, [some (.ref 162), some (.int t1), some (.int t2), some (.int t3), some (.int t4), some (.int (nI m5)), some (.int (nI i))], [.int (nI 1), .int (nI (6 * m5)), .ref 173, .int (nI (5 * z162_3 + i)), .ref 165], h, 198, sl) = some R := hh
  obtain ⟨n, hh⟩ := en_add rfl hh
  have hh : pm_run PT n fr lo 188 (142, [some (.ref 162), some (.int t1), some (.int t2), some (.int t3), some (.int t4), some (.int (nI m5)), some (.int (nI i))], [.int (nI (6 * m5 + 1)), .ref 173, .int (nI (5 * z162_3 + i)), .ref 165], h, 198, sl) = some R := hh
  obtain ⟨n, hh⟩ := rn_i rfl rfl rfl rfl hh
  have hh : pm_run PT n fr lo 188 (144, [some (.ref 162), some (.int t1), some (.int t2), some (.int t3), some (.int t4), some (.int (nI m5)), some (.int (nI i))], [.int (nI i), .int (nI (6 * m5 + 1)), .ref 173, .int (nI (5 * z162_3 + i)), .ref 165], h, 198, sl) = some R := hh
  obtain ⟨n, hh⟩ := en_add rfl hh
  have hh : pm_run PT n fr lo 188 (145, [some (.ref 162), some (.int t1), some (.int t2), some (.int t3), some (.int t4), some (.int (nI m5)), some (.int (nI i))], [.int (nI (6 * m5 + 1 + i)), .ref 173, .int (nI (5 * z162_3 + i)), .ref 165], h, 198, sl) = some R := hh
  have hh : pm_run PT n fr lo 188 (145, [some (.ref 162), some (.int t1), some (.int t2), some (.int t3), some (.int t4), some (.int (nI m5)), some (.int (nI i))], [.int (nI (6 * m5 + 1 + i)), .ref 173, .int (nI (5 * z162_3 + i)), .ref 165], h, 198, sl) = some R := hh
  obtain ⟨n, hx3, hh⟩ := en_lu (t := 6 * m5 + 1 + i) (f := Ar h 173) (w := (Ar h 173) (6 * m5 + 1 + i)) (nI_clamp (by omega)) hw rfl (by decide) rfl (by decide) rfl (fun _ => rfl) hh
  have hh : pm_run PT n fr lo 188 (146, [some (.ref 162), some (.int t1), some (.int t2), some (.int t3), some (.int t4), some (.int (nI m5)), some (.int (nI i))], [.int ((Ar h 173) (6 * m5 + 1 + i)), .int (nI (5 * z162_3 + i)), .ref 165], h, 198, sl) = some R := hh
  obtain ⟨n, hx4, hh⟩ := en_st (t := 5 * z162_3 + i) (f := Ar h 165) (nI_clamp (by omega)) hw rfl (by decide) rfl (by decide) rfl hh
  have hh : pm_run PT n fr lo 188 (147, [some (.ref 162), some (.int t1), some (.int t2), some (.int t3), some (.int t4), some (.int (nI m5)), some (.int (nI i))], [], aset h 165 30 (upd (Ar h 165) (5 * z162_3 + i) ((Ar h 173) (6 * m5 + 1 + i))), 198, sl) = some R := hh
  obtain ⟨n, hh⟩ := en_inc (x := i) (c := 1) (j := 6) rfl rfl (by decide) hh
  have hh : pm_run PT n fr lo 188 (150, [some (.ref 162), some (.int t1), some (.int t2), some (.int t3), some (.int t4), some (.int (nI m5)), some (.int (nI (i + 1)))], [], aset h 165 30 (upd (Ar h 165) (5 * z162_3 + i) ((Ar h 173) (6 * m5 + 1 + i))), 198, sl) = some R := hh
  obtain ⟨n, hh⟩ := rn_i rfl rfl rfl rfl hh
  have ed : w188_112b q cc gc h z162_20 z162_3 t1 t2 t3 t4 m5 i = aset h 165 30 (upd (Ar h 165) (5 * z162_3 + i) ((Ar h 173) (6 * m5 + 1 + i))) := rfl
  rw [ed]
  exact ⟨n, (wt_as rfl hw), (fr_a rfl rfl fr_0), (show Fi (aset h 165 30 (upd (Ar h 165) (5 * z162_3 + i) ((Ar h 173) (6 * m5 + 1 + i)))) 162 20 = nI z162_20 from ((Fi_a (by decide)).trans e20)), (show Fi (aset h 165 30 (upd (Ar h 165) (5 * z162_3 + i) ((Ar h 173) (6 * m5 + 1 + i)))) 162 3 = nI z162_3 from ((Fi_a (by decide)).trans e3)), hh⟩
theorem w188_112_ok {fr lo sl cc gc : Nat} {q : QT} {R : pm_Rs} {z162_20 : Nat} {z162_3 : Nat} {t1 : Int32} {t2 : Int32} {t3 : Int32} {t4 : Int32} {m5 : Nat} : ∀ {j i : Nat} {h : pm_H} {n : Nat}, 5 - i = j → i + j < 1000000 → WT h → m5 < 10000 → z162_3 ≤ 6 → Fi h 162 20 = nI z162_20 → Fi h 162 3 = nI z162_3 → pm_run PT n fr lo 188 (112, [some (.ref 162), some (.int t1), some (.int t2), some (.int t3), some (.int t4), some (.int (nI m5)), some (.int (nI i))], [], h, 198, sl) = some R → ∃ m wc, WT ((w188_112 q cc gc z162_20 z162_3 t1 t2 t3 t4 m5 j i h)) ∧ frm [165] [] h ((w188_112 q cc gc z162_20 z162_3 t1 t2 t3 t4 m5 j i h)) ∧ Fi ((w188_112 q cc gc z162_20 z162_3 t1 t2 t3 t4 m5 j i h)) 162 20 = nI z162_20 ∧ Fi ((w188_112 q cc gc z162_20 z162_3 t1 t2 t3 t4 m5 j i h)) 162 3 = nI z162_3 ∧ pm_run PT m fr lo 188 (153, [some (.ref 162), some (.int t1), some (.int t2), some (.int t3), some (.int t4), some (.int (nI m5)), wc], [], (w188_112 q cc gc z162_20 z162_3 t1 t2 t3 t4 m5 j i h), 198, sl) = some R := by
  intro j
  induction j with
  | zero =>
    intro i h n e eI hw h_m5 hz e20 e3 hh
    obtain ⟨n, hh⟩ := w188_112_e (q := q) (cc := cc) (gc := gc) hw h_m5 hz e20 e3 (by omega) (by omega) hh
    exact ⟨n, _, hw, fr_0, e20, e3, hh⟩
  | succ j ih =>
    intro i h n e eI hw h_m5 hz e20 e3 hh
    obtain ⟨n, hc, hf, e20', e3', hh⟩ := w188_112_s (q := q) (cc := cc) (gc := gc) hw h_m5 hz e20 e3 (by omega) (by omega) hh
    obtain ⟨n, wc, hc2, hf2, e20'', e3'', hh⟩ := ih (by omega) (by omega) hc h_m5 hz e20' e3' hh
    exact ⟨n, wc, hc2, fr_t hf2 hf, e20'', e3'', hh⟩
theorem w188_112_fb {cc gc : Nat} {q : QT} {h : pm_H} {t1 : Int32} {t2 : Int32} {t3 : Int32} {t4 : Int32} {m5 : Nat} {z162_20 : Nat} {z162_3 : Nat} {i : Nat} (hw : WT h) : WT ((w188_112b q cc gc h z162_20 z162_3 t1 t2 t3 t4 m5 i)) ∧ frm [165] [] h ((w188_112b q cc gc h z162_20 z162_3 t1 t2 t3 t4 m5 i)) := by
  unfold w188_112b
  show WT (aset h 165 30 (upd (Ar h 165) (5 * z162_3 + i) ((Ar h 173) (6 * m5 + 1 + i)))) ∧ frm [165] [] h (aset h 165 30 (upd (Ar h 165) (5 * z162_3 + i) ((Ar h 173) (6 * m5 + 1 + i))))
  exact ⟨(wt_as rfl hw), (fr_a rfl rfl fr_0)⟩
theorem w188_112_fr {cc gc : Nat} {q : QT} {t1 : Int32} {t2 : Int32} {t3 : Int32} {t4 : Int32} {m5 : Nat} {z162_20 : Nat} {z162_3 : Nat} : ∀ {j i : Nat} {h : pm_H}, WT h → WT ((w188_112 q cc gc z162_20 z162_3 t1 t2 t3 t4 m5 j i h)) ∧ frm [165] [] h ((w188_112 q cc gc z162_20 z162_3 t1 t2 t3 t4 m5 j i h)) := by
  intro j
  induction j with
  | zero =>
    intro i h hw
    exact ⟨hw, fr_0⟩
  | succ j ih =>
    intro i h hw
    obtain ⟨a1, a2⟩ := w188_112_fb (i := i) (t1 := t1) (t2 := t2) (t3 := t3) (t4 := t4) (m5 := m5) (z162_20 := z162_20) (z162_3 := z162_3) hw
    obtain ⟨b1, b2⟩ := ih (i := i + 1) a1
    exact ⟨b1, fr_t b2 a2⟩
def w188_167b (q : QT) (cc gc : Nat) (h : pm_H) (z162_20 : Nat) (z162_3 : Nat) (t1 : Int32) (t2 : Int32) (t3 : Int32) (t4 : Int32) (m5 : Nat) (i : Nat) : pm_H := w189 q cc gc (w189 q cc gc h z162_3 i) i z162_3
def w188_167 (q : QT) (cc gc : Nat) (z162_20 : Nat) (z162_3 : Nat) (t1 : Int32) (t2 : Int32) (t3 : Int32) (t4 : Int32) (m5 : Nat) (j i : Nat) (a : pm_H) : pm_H := lp (fun i a => w188_167b q cc gc a z162_20 z162_3 t1 t2 t3 t4 m5 i) j i a
theorem w188_167_e {n fr lo sl cc gc : Nat} {q : QT} {h : pm_H} {R : pm_Rs} {z162_20 : Nat} {z162_3 : Nat} {t1 : Int32} {t2 : Int32} {t3 : Int32} {t4 : Int32} {m5 : Nat} {i : Nat} (hw : WT h) (h_m5 : m5 < 10000) (hz : z162_3 ≤ 6) (e20 : Fi h 162 20 = nI z162_20) (e3 : Fi h 162 3 = nI z162_3) (hi : 6 ≤ i) (hI : i < 1000000) (hh : pm_run PT n fr lo 188 (167, [some (.ref 162), some (.int t1), some (.int t2), some (.int t3), some (.int t4), some (.int (nI m5)), some (.int (nI i))], [], h, 198, sl) = some R) : ∃ m, pm_run PT m fr lo 188 (200, [some (.ref 162), some (.int t1), some (.int t2), some (.int t3), some (.int t4), some (.int (nI m5)), some (.int (nI i))], [], h, 198, sl) = some R := by
  obtain ⟨n, hh⟩ := rn_i rfl rfl rfl rfl hh
  obtain ⟨n, hh⟩ := rn_i rfl rfl rfl rfl hh
  have hh : pm_run PT n fr lo 188 (171, [some (.ref 162), some (.int t1), some (.int t2), some (.int t3), some (.int t4), some (.int (nI m5)), some (.int (nI i))], [.int (nI 6), .int (nI i)], h, 198, sl) = some R := hh
  obtain ⟨n, hh⟩ := en_cn (cc := .ge) (off := 29) (t := 200) (b := decide (6 ≤ i)) (hI_ge (by omega) (by omega)) rfl rfl hh
  have hh := en_t (show decide (6 ≤ i) = true from decide_eq_true (by omega)) hh
  have hh : pm_run PT n fr lo 188 (200, [some (.ref 162), some (.int t1), some (.int t2), some (.int t3), some (.int t4), some (.int (nI m5)), some (.int (nI i))], [], h, 198, sl) = some R := hh
  exact ⟨n, hh⟩
theorem w188_167_s {n fr lo sl cc gc : Nat} {q : QT} {h : pm_H} {R : pm_Rs} {z162_20 : Nat} {z162_3 : Nat} {t1 : Int32} {t2 : Int32} {t3 : Int32} {t4 : Int32} {m5 : Nat} {i : Nat} (hw : WT h) (h_m5 : m5 < 10000) (hz : z162_3 ≤ 6) (e20 : Fi h 162 20 = nI z162_20) (e3 : Fi h 162 3 = nI z162_3) (hi : i < 6) (hI : i < 1000000) (hh : pm_run PT n fr lo 188 (167, [some (.ref 162), some (.int t1), some (.int t2), some (.int t3), some (.int t4), some (.int (nI m5)), some (.int (nI i))], [], h, 198, sl) = some R) : ∃ m, WT ((w188_167b q cc gc h z162_20 z162_3 t1 t2 t3 t4 m5 i)) ∧ frm [169, 170] [] h ((w188_167b q cc gc h z162_20 z162_3 t1 t2 t3 t4 m5 i)) ∧ Fi ((w188_167b q cc gc h z162_20 z162_3 t1 t2 t3 t4 m5 i)) 162 20 = nI z162_20 ∧ Fi ((w188_167b q cc gc h z162_20 z162_3 t1 t2 t3 t4 m5 i)) 162 3 = nI z162_3 ∧ pm_run PT m fr lo 188 (167, [some (.ref 162), some (.int t1), some (.int t2), some (.int t3), some (.int t4), some (.int (nI m5)), some (.int (nI (i + 1)))], [], (w188_167b q cc gc h z162_20 z162_3 t1 t2 t3 t4 m5 i), 198, sl) = some R := by
  obtain ⟨n, hh⟩ := rn_i rfl rfl rfl rfl hh
  obtain ⟨n, hh⟩ := rn_i rfl rfl rfl rfl hh
  have hh : pm_run PT n fr lo 188 (171, [some (.ref 162), some (.int t1), some (.int t2), some (.int t3), some (.int t4), some (.int (nI m5)), some (.int (nI i))], [.int (nI 6), .int (nI i)], h, 198, sl) = some R := hh
  obtain ⟨n, hh⟩ := en_cn (cc := .ge) (off := 29) (t := 200) (b := decide (6 ≤ i)) (hI_ge (by omega) (by omega)) rfl rfl hh
  have hh := en_f (show decide (6 ≤ i) = false from decide_eq_false (by omega)) hh
  have hh : pm_run PT n fr lo 188 (174, [some (.ref 162), some (.int t1), some (.int t2), some (.int t3), some (.int t4), some (.int (nI m5)), some (.int (nI i))], [], h, 198, sl) = some R := hh
  obtain ⟨n, hh⟩ := rn_i rfl rfl rfl rfl hh
  obtain ⟨n, hh⟩ := rn_i rfl rfl rfl rfl hh
  have hh : pm_run PT n fr lo 188 (176, [some (.ref 162), some (.int t1), some (.int t2), some (.int t3), some (.int t4), some (.int (nI m5)), some (.int (nI i))], [.ref 162, .ref 162], h, 198, sl) = some R := hh
  obtain ⟨n, hh⟩ := rn_gi (x := nI z162_3) hw rfl rfl (by decide) rfl (by decide) rfl e3 hh
  obtain ⟨n, hh⟩ := rn_i rfl rfl rfl rfl hh
  have hh : pm_run PT n fr lo 188 (181, [some (.ref 162), some (.int t1), some (.int t2), some (.int t3), some (.int t4), some (.int (nI m5)), some (.int (nI i))], [.int (nI i), .int (nI z162_3), .ref 162], h, 198, sl) = some R := hh
  obtain ⟨n, fr1, lo1, r1, hh1, hh⟩ := rn_call (w := 0) (t := 189) rfl rfl hh
  obtain ⟨er9, hc10, hf11⟩ := w189_ok (q := q) (cc := cc) (gc := gc) (a := z162_3) (b := i) hw (by omega) (by omega) hh1
  subst er9
  obtain ⟨n, hh⟩ := rn_i rfl rfl rfl rfl hh
  obtain ⟨n, hh⟩ := rn_i rfl rfl rfl rfl hh
  obtain ⟨n, hh⟩ := rn_i rfl rfl rfl rfl hh
  have hh : pm_run PT n fr lo 188 (188, [some (.ref 162), some (.int t1), some (.int t2), some (.int t3), some (.int t4), some (.int (nI m5)), some (.int (nI i))], [.ref 162, .int (nI i), .ref 162], w189 q cc gc h z162_3 i, 198, sl) = some R := hh
  obtain ⟨n, hh⟩ := rn_gi (x := nI z162_3) hc10 rfl rfl (by decide) rfl (by decide) rfl ((hf11.2 162 3 (by decide +kernel) rfl).trans e3) hh
  have hh : pm_run PT n fr lo 188 (191, [some (.ref 162), some (.int t1), some (.int t2), some (.int t3), some (.int t4), some (.int (nI m5)), some (.int (nI i))], [.int (nI z162_3), .int (nI i), .ref 162], w189 q cc gc h z162_3 i, 198, sl) = some R := hh
  obtain ⟨n, fr1, lo1, r1, hh1, hh⟩ := rn_call (w := 0) (t := 189) rfl rfl hh
  obtain ⟨er12, hc13, hf14⟩ := w189_ok (q := q) (cc := cc) (gc := gc) (a := i) (b := z162_3) hc10 (by omega) (by omega) hh1
  subst er12
  have hh : pm_run PT n fr lo 188 (194, [some (.ref 162), some (.int t1), some (.int t2), some (.int t3), some (.int t4), some (.int (nI m5)), some (.int (nI i))], [], w189 q cc gc (w189 q cc gc h z162_3 i) i z162_3, 198, sl) = some R := hh
  obtain ⟨n, hh⟩ := en_inc (x := i) (c := 1) (j := 6) rfl rfl (by decide) hh
  have hh : pm_run PT n fr lo 188 (197, [some (.ref 162), some (.int t1), some (.int t2), some (.int t3), some (.int t4), some (.int (nI m5)), some (.int (nI (i + 1)))], [], w189 q cc gc (w189 q cc gc h z162_3 i) i z162_3, 198, sl) = some R := hh
  obtain ⟨n, hh⟩ := rn_i rfl rfl rfl rfl hh
  have ed : w188_167b q cc gc h z162_20 z162_3 t1 t2 t3 t4 m5 i = w189 q cc gc (w189 q cc gc h z162_3 i) i z162_3 := rfl
  rw [ed]
  exact ⟨n, hc13, (fr_g rfl rfl hf14 (fr_g rfl rfl hf11 fr_0)), (show Fi (w189 q cc gc (w189 q cc gc h z162_3 i) i z162_3) 162 20 = nI z162_20 from ((hf14.2 162 20 (by decide +kernel) rfl).trans ((hf11.2 162 20 (by decide +kernel) rfl).trans e20))), (show Fi (w189 q cc gc (w189 q cc gc h z162_3 i) i z162_3) 162 3 = nI z162_3 from ((hf14.2 162 3 (by decide +kernel) rfl).trans ((hf11.2 162 3 (by decide +kernel) rfl).trans e3))), hh⟩
theorem w188_167_ok {fr lo sl cc gc : Nat} {q : QT} {R : pm_Rs} {z162_20 : Nat} {z162_3 : Nat} {t1 : Int32} {t2 : Int32} {t3 : Int32} {t4 : Int32} {m5 : Nat} : ∀ {j i : Nat} {h : pm_H} {n : Nat}, 6 - i = j → i + j < 1000000 → WT h → m5 < 10000 → z162_3 ≤ 6 → Fi h 162 20 = nI z162_20 → Fi h 162 3 = nI z162_3 → pm_run PT n fr lo 188 (167, [some (.ref 162), some (.int t1), some (.int t2), some (.int t3), some (.int t4), some (.int (nI m5)), some (.int (nI i))], [], h, 198, sl) = some R → ∃ m wc, WT ((w188_167 q cc gc z162_20 z162_3 t1 t2 t3 t4 m5 j i h)) ∧ frm [169, 170] [] h ((w188_167 q cc gc z162_20 z162_3 t1 t2 t3 t4 m5 j i h)) ∧ Fi ((w188_167 q cc gc z162_20 z162_3 t1 t2 t3 t4 m5 j i h)) 162 20 = nI z162_20 ∧ Fi ((w188_167 q cc gc z162_20 z162_3 t1 t2 t3 t4 m5 j i h)) 162 3 = nI z162_3 ∧ pm_run PT m fr lo 188 (200, [some (.ref 162), some (.int t1), some (.int t2), some (.int t3), some (.int t4), some (.int (nI m5)), wc], [], (w188_167 q cc gc z162_20 z162_3 t1 t2 t3 t4 m5 j i h), 198, sl) = some R := by
  intro j
  induction j with
  | zero =>
    intro i h n e eI hw h_m5 hz e20 e3 hh
    obtain ⟨n, hh⟩ := w188_167_e (q := q) (cc := cc) (gc := gc) hw h_m5 hz e20 e3 (by omega) (by omega) hh
    exact ⟨n, _, hw, fr_0, e20, e3, hh⟩
  | succ j ih =>
    intro i h n e eI hw h_m5 hz e20 e3 hh
    obtain ⟨n, hc, hf, e20', e3', hh⟩ := w188_167_s (q := q) (cc := cc) (gc := gc) hw h_m5 hz e20 e3 (by omega) (by omega) hh
    obtain ⟨n, wc, hc2, hf2, e20'', e3'', hh⟩ := ih (by omega) (by omega) hc h_m5 hz e20' e3' hh
    exact ⟨n, wc, hc2, fr_t hf2 hf, e20'', e3'', hh⟩
theorem w188_167_fb {cc gc : Nat} {q : QT} {h : pm_H} {t1 : Int32} {t2 : Int32} {t3 : Int32} {t4 : Int32} {m5 : Nat} {z162_20 : Nat} {z162_3 : Nat} {i : Nat} (hw : WT h) : WT ((w188_167b q cc gc h z162_20 z162_3 t1 t2 t3 t4 m5 i)) ∧ frm [169, 170] [] h ((w188_167b q cc gc h z162_20 z162_3 t1 t2 t3 t4 m5 i)) := by
  unfold w188_167b
  show WT (w189 q cc gc (w189 q cc gc h z162_3 i) i z162_3) ∧ frm [169, 170] [] h (w189 q cc gc (w189 q cc gc h z162_3 i) i z162_3)
  exact ⟨(w189_fr (a := i) (b := z162_3) (w189_fr (a := z162_3) (b := i) hw).1).1, (fr_g rfl rfl (w189_fr (a := i) (b := z162_3) (w189_fr (a := z162_3) (b := i) hw).1).2 (fr_g rfl rfl (w189_fr (a := z162_3) (b := i) hw).2 fr_0))⟩
theorem w188_167_fr {cc gc : Nat} {q : QT} {t1 : Int32} {t2 : Int32} {t3 : Int32} {t4 : Int32} {m5 : Nat} {z162_20 : Nat} {z162_3 : Nat} : ∀ {j i : Nat} {h : pm_H}, WT h → WT ((w188_167 q cc gc z162_20 z162_3 t1 t2 t3 t4 m5 j i h)) ∧ frm [169, 170] [] h ((w188_167 q cc gc z162_20 z162_3 t1 t2 t3 t4 m5 j i h)) := by
  intro j
  induction j with
  | zero =>
    intro i h hw
    exact ⟨hw, fr_0⟩
  | succ j ih =>
    intro i h hw
    obtain ⟨a1, a2⟩ := w188_167_fb (i := i) (t1 := t1) (t2 := t2) (t3 := t3) (t4 := t4) (m5 := m5) (z162_20 := z162_20) (z162_3 := z162_3) hw
    obtain ⟨b1, b2⟩ := ih (i := i + 1) a1
    exact ⟨b1, fr_t b2 a2⟩
def w188_81b (q : QT) (cc gc : Nat) (h : pm_H) (z162_20 : Nat) (z162_3 : Nat) (t1 : Int32) (t2 : Int32) (t3 : Int32) (t4 : Int32) (i : Nat) : pm_H := fset (w188_167 q cc gc z162_20 (z162_3 + i) t1 t2 t3 t4 i 6 0 (aset (w188_112 q cc gc z162_20 (z162_3 + i) t1 t2 t3 t4 i 5 0 (aset h 164 6 (upd (Ar h 164) (z162_3 + i) ((Ar h 173) (6 * i))))) 170 96 (upd (Ar h 170) (z162_3 + i) (nI 50)))) 162 3 (.int (nI (z162_3 + i + 1)))
def w188_81 (q : QT) (cc gc : Nat) (z162_20 : Nat) (z162_3 : Nat) (t1 : Int32) (t2 : Int32) (t3 : Int32) (t4 : Int32) (j i : Nat) (a : pm_H) : pm_H := lp (fun i a => w188_81b q cc gc a z162_20 z162_3 t1 t2 t3 t4 i) j i a
theorem w188_81_e {n fr lo sl cc gc : Nat} {q : QT} {h : pm_H} {R : pm_Rs} {z162_20 : Nat} {z162_3 : Nat} {t1 : Int32} {t2 : Int32} {t3 : Int32} {t4 : Int32} {i : Nat} {o6 : Option Value} (hw : WT h) (hz : z162_3 + z162_20 ≤ 6) (e20 : Fi h 162 20 = nI z162_20) (e3 : Fi h 162 3 = nI (z162_3 + i)) (hi : z162_20 ≤ i) (hI : i < 1000000) (hh : pm_run PT n fr lo 188 (81, [some (.ref 162), some (.int t1), some (.int t2), some (.int t3), some (.int t4), some (.int (nI i)), o6], [], h, 198, sl) = some R) : ∃ m, pm_run PT m fr lo 188 (216, [some (.ref 162), some (.int t1), some (.int t2), some (.int t3), some (.int t4), some (.int (nI i)), o6], [], h, 198, sl) = some R := by
  obtain ⟨n, hh⟩ := rn_i rfl rfl rfl rfl hh
  obtain ⟨n, hh⟩ := rn_i rfl rfl rfl rfl hh
  have hh : pm_run PT n fr lo 188 (84, [some (.ref 162), some (.int t1), some (.int t2), some (.int t3), some (.int t4), some (.int (nI i)), o6], [.ref 162, .int (nI i)], h, 198, sl) = some R := hh
  obtain ⟨n, hh⟩ := rn_gi (x := nI z162_20) hw rfl rfl (by decide) rfl (by decide) rfl e20 hh
  have hh : pm_run PT n fr lo 188 (87, [some (.ref 162), some (.int t1), some (.int t2), some (.int t3), some (.int t4), some (.int (nI i)), o6], [.int (nI z162_20), .int (nI i)], h, 198, sl) = some R := hh
  obtain ⟨n, hh⟩ := en_cn (cc := .ge) (off := 129) (t := 216) (b := decide (z162_20 ≤ i)) (hI_ge (by omega) (by omega)) rfl rfl hh
  have hh := en_t (show decide (z162_20 ≤ i) = true from decide_eq_true (by omega)) hh
  have hh : pm_run PT n fr lo 188 (216, [some (.ref 162), some (.int t1), some (.int t2), some (.int t3), some (.int t4), some (.int (nI i)), o6], [], h, 198, sl) = some R := hh
  exact ⟨n, hh⟩
theorem w188_81_s {n fr lo sl cc gc : Nat} {q : QT} {h : pm_H} {R : pm_Rs} {z162_20 : Nat} {z162_3 : Nat} {t1 : Int32} {t2 : Int32} {t3 : Int32} {t4 : Int32} {i : Nat} {o6 : Option Value} (hw : WT h) (hz : z162_3 + z162_20 ≤ 6) (e20 : Fi h 162 20 = nI z162_20) (e3 : Fi h 162 3 = nI (z162_3 + i)) (hi : i < z162_20) (hI : i < 1000000) (hh : pm_run PT n fr lo 188 (81, [some (.ref 162), some (.int t1), some (.int t2), some (.int t3), some (.int t4), some (.int (nI i)), o6], [], h, 198, sl) = some R) : ∃ m w6, WT ((w188_81b q cc gc h z162_20 z162_3 t1 t2 t3 t4 i)) ∧ frm [162, 164, 165, 169, 170] [(162, 3)] h ((w188_81b q cc gc h z162_20 z162_3 t1 t2 t3 t4 i)) ∧ Fi ((w188_81b q cc gc h z162_20 z162_3 t1 t2 t3 t4 i)) 162 20 = nI z162_20 ∧ Fi ((w188_81b q cc gc h z162_20 z162_3 t1 t2 t3 t4 i)) 162 3 = nI (z162_3 + (i + 1)) ∧ pm_run PT m fr lo 188 (81, [some (.ref 162), some (.int t1), some (.int t2), some (.int t3), some (.int t4), some (.int (nI (i + 1))), w6], [], (w188_81b q cc gc h z162_20 z162_3 t1 t2 t3 t4 i), 198, sl) = some R := by
  obtain ⟨n, hh⟩ := rn_i rfl rfl rfl rfl hh
  obtain ⟨n, hh⟩ := rn_i rfl rfl rfl rfl hh
  have hh : pm_run PT n fr lo 188 (84, [some (.ref 162), some (.int t1), some (.int t2), some (.int t3), some (.int t4), some (.int (nI i)), o6], [.ref 162, .int (nI i)], h, 198, sl) = some R := hh
  obtain ⟨n, hh⟩ := rn_gi (x := nI z162_20) hw rfl rfl (by decide) rfl (by decide) rfl e20 hh
  have hh : pm_run PT n fr lo 188 (87, [some (.ref 162), some (.int t1), some (.int t2), some (.int t3), some (.int t4), some (.int (nI i)), o6], [.int (nI z162_20), .int (nI i)], h, 198, sl) = some R := hh
  obtain ⟨n, hh⟩ := en_cn (cc := .ge) (off := 129) (t := 216) (b := decide (z162_20 ≤ i)) (hI_ge (by omega) (by omega)) rfl rfl hh
  have hh := en_f (show decide (z162_20 ≤ i) = false from decide_eq_false (by omega)) hh
  have hh : pm_run PT n fr lo 188 (90, [some (.ref 162), some (.int t1), some (.int t2), some (.int t3), some (.int t4), some (.int (nI i)), o6], [], h, 198, sl) = some R := hh
  obtain ⟨n, hh⟩ := rn_i rfl rfl rfl rfl hh
  have hh : pm_run PT n fr lo 188 (91, [some (.ref 162), some (.int t1), some (.int t2), some (.int t3), some (.int t4), some (.int (nI i)), o6], [.ref 162], h, 198, sl) = some R := hh
  obtain ⟨n, hh⟩ := rn_gr hw rfl rfl (by decide) rfl (by decide) (show _ = some (2, ((164 : Nat) : Int), 1) from rfl) rfl hh
  obtain ⟨n, hh⟩ := rn_i rfl rfl rfl rfl hh
  have hh : pm_run PT n fr lo 188 (95, [some (.ref 162), some (.int t1), some (.int t2), some (.int t3), some (.int t4), some (.int (nI i)), o6], [.ref 162, .ref 164], h, 198, sl) = some R := hh
  obtain ⟨n, hh⟩ := rn_gi (x := nI (z162_3 + i)) hw rfl rfl (by decide) rfl (by decide) rfl e3 hh
  obtain ⟨n, hh⟩ := rn_i rfl rfl rfl rfl hh
  have hh : pm_run PT n fr lo 188 (99, [some (.ref 162), some (.int t1), some (.int t2), some (.int t3), some (.int t4), some (.int (nI i)), o6], [.ref 162, .int (nI (z162_3 + i)), .ref 164], h, 198, sl) = some R := hh
  obtain ⟨n, hh⟩ := rn_gr hw rfl rfl (by decide) rfl (by decide) (show _ = some (2, ((173 : Nat) : Int), 1) from rfl) rfl hh
  obtain ⟨n, hh⟩ := rn_i rfl rfl rfl rfl hh
  obtain ⟨n, hh⟩ := rn_i rfl rfl rfl rfl hh
  have hh : pm_run PT n fr lo 188 (106, [some (.ref 162), some (.int t1), some (.int t2), some (.int t3), some (.int t4), some (.int (nI i)), o6], [.int (nI i), .int (nI 6), .ref 173, .int (nI (z162_3 + i)), .ref 164], h, 198, sl) = some R := hh
  obtain ⟨n, hh⟩ := en_mul rfl hh
  have hh : pm_run PT n fr lo 188 (107, [some (.ref 162), some (.int t1), some (.int t2), some (.int t3), some (.int t4), some (.int (nI i)), o6], [.int (nI (6 * i)), .ref 173, .int (nI (z162_3 + i)), .ref 164], h, 198, sl) = some R := hh
  have hh : pm_run PT n fr lo 188 (107, [some (.ref 162), some (.int t1), some (.int t2), some (.int t3), some (.int t4), some (.int (nI i)), o6], [.int (nI (6 * i)), .ref 173, .int (nI (z162_3 + i)), .ref 164], h, 198, sl) = some R := hh
  obtain ⟨n, hx1, hh⟩ := en_lu (t := 6 * i) (f := Ar h 173) (w := (Ar h 173) (6 * i)) (nI_clamp (by omega)) hw rfl (by decide) rfl (by decide) rfl (fun _ => rfl) hh
  have hh : pm_run PT n fr lo 188 (108, [some (.ref 162), some (.int t1), some (.int t2), some (.int t3), some (.int t4), some (.int (nI i)), o6], [.int ((Ar h 173) (6 * i)), .int (nI (z162_3 + i)), .ref 164], h, 198, sl) = some R := hh
  obtain ⟨n, hx2, hh⟩ := en_st (t := z162_3 + i) (f := Ar h 164) (nI_clamp (by omega)) hw rfl (by decide) rfl (by decide) rfl hh
  obtain ⟨n, hh⟩ := rn_i rfl rfl rfl rfl hh
  obtain ⟨n, hh⟩ := rn_i rfl rfl rfl rfl hh
  have hh : pm_run PT n fr lo 188 (112, [some (.ref 162), some (.int t1), some (.int t2), some (.int t3), some (.int t4), some (.int (nI i)), some (.int (nI 0))], [], aset h 164 6 (upd (Ar h 164) (z162_3 + i) ((Ar h 173) (6 * i))), 198, sl) = some R := hh
  obtain ⟨n, u3, hc6, hf7, hn4, hn5, hh⟩ := w188_112_ok (q := q) (cc := cc) (gc := gc) (t1 := t1) (t2 := t2) (t3 := t3) (t4 := t4) (m5 := i)  (z162_20 := z162_20) (z162_3 := z162_3 + i) (i := 0) (j := 5) (by omega) (by omega) (wt_as rfl hw) (by omega) (by omega) (show Fi (aset h 164 6 (upd (Ar h 164) (z162_3 + i) ((Ar h 173) (6 * i)))) 162 20 = nI z162_20 from ((Fi_a (by decide)).trans e20)) (show Fi (aset h 164 6 (upd (Ar h 164) (z162_3 + i) ((Ar h 173) (6 * i)))) 162 3 = nI (z162_3 + i) from ((Fi_a (by decide)).trans e3)) hh
  have hh : pm_run PT n fr lo 188 (153, [some (.ref 162), some (.int t1), some (.int t2), some (.int t3), some (.int t4), some (.int (nI i)), u3], [], (w188_112 q cc gc z162_20 (z162_3 + i) t1 t2 t3 t4 i 5 0 (aset h 164 6 (upd (Ar h 164) (z162_3 + i) ((Ar h 173) (6 * i))))), 198, sl) = some R := hh
  obtain ⟨n, hh⟩ := rn_i rfl rfl rfl rfl hh
  have hh : pm_run PT n fr lo 188 (154, [some (.ref 162), some (.int t1), some (.int t2), some (.int t3), some (.int t4), some (.int (nI i)), u3], [.ref 162], (w188_112 q cc gc z162_20 (z162_3 + i) t1 t2 t3 t4 i 5 0 (aset h 164 6 (upd (Ar h 164) (z162_3 + i) ((Ar h 173) (6 * i))))), 198, sl) = some R := hh
  obtain ⟨n, hh⟩ := rn_gr hc6 rfl rfl (by decide) rfl (by decide) (show _ = some (2, ((170 : Nat) : Int), 1) from rfl) rfl hh
  obtain ⟨n, hh⟩ := rn_i rfl rfl rfl rfl hh
  have hh : pm_run PT n fr lo 188 (158, [some (.ref 162), some (.int t1), some (.int t2), some (.int t3), some (.int t4), some (.int (nI i)), u3], [.ref 162, .ref 170], (w188_112 q cc gc z162_20 (z162_3 + i) t1 t2 t3 t4 i 5 0 (aset h 164 6 (upd (Ar h 164) (z162_3 + i) ((Ar h 173) (6 * i))))), 198, sl) = some R := hh
  obtain ⟨n, hh⟩ := rn_gi (x := nI (z162_3 + i)) hc6 rfl rfl (by decide) rfl (by decide) rfl hn5 hh
  obtain ⟨n, hh⟩ := rn_i rfl rfl rfl rfl hh
  have hh : pm_run PT n fr lo 188 (163, [some (.ref 162), some (.int t1), some (.int t2), some (.int t3), some (.int t4), some (.int (nI i)), u3], [.int (nI 50), .int (nI (z162_3 + i)), .ref 170], (w188_112 q cc gc z162_20 (z162_3 + i) t1 t2 t3 t4 i 5 0 (aset h 164 6 (upd (Ar h 164) (z162_3 + i) ((Ar h 173) (6 * i))))), 198, sl) = some R := hh
  obtain ⟨n, hx8, hh⟩ := en_st (t := z162_3 + i) (f := Ar h 170) (nI_clamp (by omega)) hc6 rfl (by decide) rfl (by decide) ((Ar_e (hf7.1 170 rfl)).trans ((Ar_n (by decide)).trans rfl)) hh
  obtain ⟨n, hh⟩ := rn_i rfl rfl rfl rfl hh
  obtain ⟨n, hh⟩ := rn_i rfl rfl rfl rfl hh
  have hh : pm_run PT n fr lo 188 (167, [some (.ref 162), some (.int t1), some (.int t2), some (.int t3), some (.int t4), some (.int (nI i)), some (.int (nI 0))], [], aset (w188_112 q cc gc z162_20 (z162_3 + i) t1 t2 t3 t4 i 5 0 (aset h 164 6 (upd (Ar h 164) (z162_3 + i) ((Ar h 173) (6 * i))))) 170 96 (upd (Ar h 170) (z162_3 + i) (nI 50)), 198, sl) = some R := hh
  obtain ⟨n, u9, hc12, hf13, hn10, hn11, hh⟩ := w188_167_ok (q := q) (cc := cc) (gc := gc) (t1 := t1) (t2 := t2) (t3 := t3) (t4 := t4) (m5 := i)  (z162_20 := z162_20) (z162_3 := z162_3 + i) (i := 0) (j := 6) (by omega) (by omega) (wt_as rfl hc6) (by omega) (by omega) (show Fi (aset (w188_112 q cc gc z162_20 (z162_3 + i) t1 t2 t3 t4 i 5 0 (aset h 164 6 (upd (Ar h 164) (z162_3 + i) ((Ar h 173) (6 * i))))) 170 96 (upd (Ar h 170) (z162_3 + i) (nI 50))) 162 20 = nI z162_20 from ((Fi_a (by decide)).trans hn4)) (show Fi (aset (w188_112 q cc gc z162_20 (z162_3 + i) t1 t2 t3 t4 i 5 0 (aset h 164 6 (upd (Ar h 164) (z162_3 + i) ((Ar h 173) (6 * i))))) 170 96 (upd (Ar h 170) (z162_3 + i) (nI 50))) 162 3 = nI (z162_3 + i) from ((Fi_a (by decide)).trans hn5)) hh
  have hh : pm_run PT n fr lo 188 (200, [some (.ref 162), some (.int t1), some (.int t2), some (.int t3), some (.int t4), some (.int (nI i)), u9], [], (w188_167 q cc gc z162_20 (z162_3 + i) t1 t2 t3 t4 i 6 0 (aset (w188_112 q cc gc z162_20 (z162_3 + i) t1 t2 t3 t4 i 5 0 (aset h 164 6 (upd (Ar h 164) (z162_3 + i) ((Ar h 173) (6 * i))))) 170 96 (upd (Ar h 170) (z162_3 + i) (nI 50)))), 198, sl) = some R := hh
  obtain ⟨n, hh⟩ := rn_i rfl rfl rfl rfl hh
  obtain ⟨n, hh⟩ := rn_i rfl rfl rfl rfl hh
  have hh : pm_run PT n fr lo 188 (202, [some (.ref 162), some (.int t1), some (.int t2), some (.int t3), some (.int t4), some (.int (nI i)), u9], [.ref 162, .ref 162], (w188_167 q cc gc z162_20 (z162_3 + i) t1 t2 t3 t4 i 6 0 (aset (w188_112 q cc gc z162_20 (z162_3 + i) t1 t2 t3 t4 i 5 0 (aset h 164 6 (upd (Ar h 164) (z162_3 + i) ((Ar h 173) (6 * i))))) 170 96 (upd (Ar h 170) (z162_3 + i) (nI 50)))), 198, sl) = some R := hh
  obtain ⟨n, hh⟩ := rn_gi (x := nI (z162_3 + i)) hc12 rfl rfl (by decide) rfl (by decide) rfl hn11 hh
  obtain ⟨n, hh⟩ := rn_i rfl rfl rfl rfl hh
  have hh : pm_run PT n fr lo 188 (206, [some (.ref 162), some (.int t1), some (.int t2), some (.int t3), some (.int t4), some (.int (nI i)), u9], [.int (nI 1), .int (nI (z162_3 + i)), .ref 162], (w188_167 q cc gc z162_20 (z162_3 + i) t1 t2 t3 t4 i 6 0 (aset (w188_112 q cc gc z162_20 (z162_3 + i) t1 t2 t3 t4 i 5 0 (aset h 164 6 (upd (Ar h 164) (z162_3 + i) ((Ar h 173) (6 * i))))) 170 96 (upd (Ar h 170) (z162_3 + i) (nI 50)))), 198, sl) = some R := hh
  obtain ⟨n, hh⟩ := en_add rfl hh
  have hh : pm_run PT n fr lo 188 (207, [some (.ref 162), some (.int t1), some (.int t2), some (.int t3), some (.int t4), some (.int (nI i)), u9], [.int (nI (z162_3 + i + 1)), .ref 162], (w188_167 q cc gc z162_20 (z162_3 + i) t1 t2 t3 t4 i 6 0 (aset (w188_112 q cc gc z162_20 (z162_3 + i) t1 t2 t3 t4 i 5 0 (aset h 164 6 (upd (Ar h 164) (z162_3 + i) ((Ar h 173) (6 * i))))) 170 96 (upd (Ar h 170) (z162_3 + i) (nI 50)))), 198, sl) = some R := hh
  have hh : pm_run PT n fr lo 188 (207, [some (.ref 162), some (.int t1), some (.int t2), some (.int t3), some (.int t4), some (.int (nI i)), u9], [.int (nI (z162_3 + i + 1)), .ref 162], (w188_167 q cc gc z162_20 (z162_3 + i) t1 t2 t3 t4 i 6 0 (aset (w188_112 q cc gc z162_20 (z162_3 + i) t1 t2 t3 t4 i 5 0 (aset h 164 6 (upd (Ar h 164) (z162_3 + i) ((Ar h 173) (6 * i))))) 170 96 (upd (Ar h 170) (z162_3 + i) (nI 50)))), 198, sl) = some R := hh
  obtain ⟨n, hh⟩ := rn_pi hc12 rfl rfl (by decide) rfl (by decide) rfl hh
  have hh : pm_run PT n fr lo 188 (210, [some (.ref 162), some (.int t1), some (.int t2), some (.int t3), some (.int t4), some (.int (nI i)), u9], [], fset (w188_167 q cc gc z162_20 (z162_3 + i) t1 t2 t3 t4 i 6 0 (aset (w188_112 q cc gc z162_20 (z162_3 + i) t1 t2 t3 t4 i 5 0 (aset h 164 6 (upd (Ar h 164) (z162_3 + i) ((Ar h 173) (6 * i))))) 170 96 (upd (Ar h 170) (z162_3 + i) (nI 50)))) 162 3 (.int (nI (z162_3 + i + 1))), 198, sl) = some R := hh
  obtain ⟨n, hh⟩ := en_inc (x := i) (c := 1) (j := 5) rfl rfl (by decide) hh
  have hh : pm_run PT n fr lo 188 (213, [some (.ref 162), some (.int t1), some (.int t2), some (.int t3), some (.int t4), some (.int (nI (i + 1))), u9], [], fset (w188_167 q cc gc z162_20 (z162_3 + i) t1 t2 t3 t4 i 6 0 (aset (w188_112 q cc gc z162_20 (z162_3 + i) t1 t2 t3 t4 i 5 0 (aset h 164 6 (upd (Ar h 164) (z162_3 + i) ((Ar h 173) (6 * i))))) 170 96 (upd (Ar h 170) (z162_3 + i) (nI 50)))) 162 3 (.int (nI (z162_3 + i + 1))), 198, sl) = some R := hh
  obtain ⟨n, hh⟩ := rn_i rfl rfl rfl rfl hh
  have ed : w188_81b q cc gc h z162_20 z162_3 t1 t2 t3 t4 i = fset (w188_167 q cc gc z162_20 (z162_3 + i) t1 t2 t3 t4 i 6 0 (aset (w188_112 q cc gc z162_20 (z162_3 + i) t1 t2 t3 t4 i 5 0 (aset h 164 6 (upd (Ar h 164) (z162_3 + i) ((Ar h 173) (6 * i))))) 170 96 (upd (Ar h 170) (z162_3 + i) (nI 50)))) 162 3 (.int (nI (z162_3 + i + 1))) := rfl
  rw [ed]
  exact ⟨n, u9, (wt_fs rfl (by decide) rfl hc12), (fr_f rfl rfl (fr_g rfl rfl hf13 (fr_a rfl rfl (fr_g rfl rfl hf7 (fr_a rfl rfl fr_0))))), (show Fi (fset (w188_167 q cc gc z162_20 (z162_3 + i) t1 t2 t3 t4 i 6 0 (aset (w188_112 q cc gc z162_20 (z162_3 + i) t1 t2 t3 t4 i 5 0 (aset h 164 6 (upd (Ar h 164) (z162_3 + i) ((Ar h 173) (6 * i))))) 170 96 (upd (Ar h 170) (z162_3 + i) (nI 50)))) 162 3 (.int (nI (z162_3 + i + 1)))) 162 20 = nI z162_20 from ((Fi_n (Or.inr (by decide))).trans hn10)), (show Fi (fset (w188_167 q cc gc z162_20 (z162_3 + i) t1 t2 t3 t4 i 6 0 (aset (w188_112 q cc gc z162_20 (z162_3 + i) t1 t2 t3 t4 i 5 0 (aset h 164 6 (upd (Ar h 164) (z162_3 + i) ((Ar h 173) (6 * i))))) 170 96 (upd (Ar h 170) (z162_3 + i) (nI 50)))) 162 3 (.int (nI (z162_3 + i + 1)))) 162 3 = nI (z162_3 + (i + 1)) from (Fi_s hc12 (by decide) rfl (by decide) rfl)), hh⟩
theorem w188_81_ok {fr lo sl cc gc : Nat} {q : QT} {R : pm_Rs} {z162_20 : Nat} {z162_3 : Nat} {t1 : Int32} {t2 : Int32} {t3 : Int32} {t4 : Int32} : ∀ {j i : Nat} {o6 : Option Value} {h : pm_H} {n : Nat}, z162_20 - i = j → i + j < 1000000 → WT h → z162_3 + z162_20 ≤ 6 → i ≤ z162_20 → Fi h 162 20 = nI z162_20 → Fi h 162 3 = nI (z162_3 + i) → pm_run PT n fr lo 188 (81, [some (.ref 162), some (.int t1), some (.int t2), some (.int t3), some (.int t4), some (.int (nI i)), o6], [], h, 198, sl) = some R → ∃ m wc w6, WT ((w188_81 q cc gc z162_20 z162_3 t1 t2 t3 t4 j i h)) ∧ frm [162, 164, 165, 169, 170] [(162, 3)] h ((w188_81 q cc gc z162_20 z162_3 t1 t2 t3 t4 j i h)) ∧ Fi ((w188_81 q cc gc z162_20 z162_3 t1 t2 t3 t4 j i h)) 162 20 = nI z162_20 ∧ Fi ((w188_81 q cc gc z162_20 z162_3 t1 t2 t3 t4 j i h)) 162 3 = nI (z162_3 + z162_20) ∧ pm_run PT m fr lo 188 (216, [some (.ref 162), some (.int t1), some (.int t2), some (.int t3), some (.int t4), wc, w6], [], (w188_81 q cc gc z162_20 z162_3 t1 t2 t3 t4 j i h), 198, sl) = some R := by
  intro j
  induction j with
  | zero =>
    intro i o6 h n e eI hw hz hiN e20 e3 hh
    obtain ⟨n, hh⟩ := w188_81_e (q := q) (cc := cc) (gc := gc) hw hz e20 e3 (by omega) (by omega) hh
    exact ⟨n, _, o6, hw, fr_0, e20, (e3.trans (congrArg (fun i => nI (z162_3 + i)) (show i = z162_20 by omega))), hh⟩
  | succ j ih =>
    intro i o6 h n e eI hw hz hiN e20 e3 hh
    obtain ⟨n, w6, hc, hf, e20', e3', hh⟩ := w188_81_s (q := q) (cc := cc) (gc := gc) hw hz e20 e3 (by omega) (by omega) hh
    obtain ⟨n, wc, v6, hc2, hf2, e20'', e3'', hh⟩ := ih (by omega) (by omega) hc hz (by omega) e20' e3' hh
    exact ⟨n, wc, v6, hc2, fr_t hf2 hf, e20'', e3'', hh⟩
theorem w188_81_fb {cc gc : Nat} {q : QT} {h : pm_H} {t1 : Int32} {t2 : Int32} {t3 : Int32} {t4 : Int32} {z162_20 : Nat} {z162_3 : Nat} {i : Nat} (hw : WT h) (hz : z162_3 + z162_20 ≤ 6) : WT ((w188_81b q cc gc h z162_20 z162_3 t1 t2 t3 t4 i)) ∧ frm [162, 164, 165, 169, 170] [(162, 3)] h ((w188_81b q cc gc h z162_20 z162_3 t1 t2 t3 t4 i)) := by
  unfold w188_81b
  show WT (fset (w188_167 q cc gc z162_20 (z162_3 + i) t1 t2 t3 t4 i 6 0 (aset (w188_112 q cc gc z162_20 (z162_3 + i) t1 t2 t3 t4 i 5 0 (aset h 164 6 (upd (Ar h 164) (z162_3 + i) ((Ar h 173) (6 * i))))) 170 96 (upd (Ar h 170) (z162_3 + i) (nI 50)))) 162 3 (.int (nI (z162_3 + i + 1)))) ∧ frm [162, 164, 165, 169, 170] [(162, 3)] h (fset (w188_167 q cc gc z162_20 (z162_3 + i) t1 t2 t3 t4 i 6 0 (aset (w188_112 q cc gc z162_20 (z162_3 + i) t1 t2 t3 t4 i 5 0 (aset h 164 6 (upd (Ar h 164) (z162_3 + i) ((Ar h 173) (6 * i))))) 170 96 (upd (Ar h 170) (z162_3 + i) (nI 50)))) 162 3 (.int (nI (z162_3 + i + 1))))
  exact ⟨(wt_fs rfl (by decide) rfl (w188_167_fr (t1 := t1) (t2 := t2) (t3 := t3) (t4 := t4) (m5 := i) (z162_20 := z162_20) (z162_3 := (z162_3 + i)) (j := 6) (i := 0) (wt_as rfl (w188_112_fr (t1 := t1) (t2 := t2) (t3 := t3) (t4 := t4) (m5 := i) (z162_20 := z162_20) (z162_3 := (z162_3 + i)) (j := 5) (i := 0) (wt_as rfl hw)).1)).1), (fr_f rfl rfl (fr_g rfl rfl (w188_167_fr (t1 := t1) (t2 := t2) (t3 := t3) (t4 := t4) (m5 := i) (z162_20 := z162_20) (z162_3 := (z162_3 + i)) (j := 6) (i := 0) (wt_as rfl (w188_112_fr (t1 := t1) (t2 := t2) (t3 := t3) (t4 := t4) (m5 := i) (z162_20 := z162_20) (z162_3 := (z162_3 + i)) (j := 5) (i := 0) (wt_as rfl hw)).1)).2 (fr_a rfl rfl (fr_g rfl rfl (w188_112_fr (t1 := t1) (t2 := t2) (t3 := t3) (t4 := t4) (m5 := i) (z162_20 := z162_20) (z162_3 := (z162_3 + i)) (j := 5) (i := 0) (wt_as rfl hw)).2 (fr_a rfl rfl fr_0)))))⟩
theorem w188_81_fr {cc gc : Nat} {q : QT} {t1 : Int32} {t2 : Int32} {t3 : Int32} {t4 : Int32} {z162_20 : Nat} {z162_3 : Nat} (hz : z162_3 + z162_20 ≤ 6) : ∀ {j i : Nat} {h : pm_H}, WT h → WT ((w188_81 q cc gc z162_20 z162_3 t1 t2 t3 t4 j i h)) ∧ frm [162, 164, 165, 169, 170] [(162, 3)] h ((w188_81 q cc gc z162_20 z162_3 t1 t2 t3 t4 j i h)) := by
  intro j
  induction j with
  | zero =>
    intro i h hw
    exact ⟨hw, fr_0⟩
  | succ j ih =>
    intro i h hw
    obtain ⟨a1, a2⟩ := w188_81_fb (i := i) (t1 := t1) (t2 := t2) (t3 := t3) (t4 := t4) (z162_20 := z162_20) (z162_3 := z162_3) hw hz
    obtain ⟨b1, b2⟩ := ih (i := i + 1) a1
    exact ⟨b1, fr_t b2 a2⟩
def w188 (q : QT) (cc gc : Nat) (h : pm_H) (r : Nat) (c : Nat) (F : Int32) (x1 : Int32) (x2 : Int32) (x3 : Int32) : Int32 × pm_H := (nI r, w190 q cc gc (w188_81 q cc gc r c x1 x2 x3 F r 0 h) r)
theorem w188_ok {n fr lo sl cc gc : Nat} {q : QT} {h : pm_H} {R : pm_Rs} {r : Nat} {c : Nat} {F : Int32} {x1 : Int32} {x2 : Int32} {x3 : Int32} (hw : WT h) (hc : c + r ≤ 6) (e20 : Fi h 162 20 = nI r) (e3 : Fi h 162 3 = nI c) (hh : pm_run PT n fr lo 188 (78, [some (.ref 162), some (.int x1), some (.int x2), some (.int x3), some (.int F), none, none], [], h, 198, sl) = some R) : R = (some (.int ((w188 q cc gc h r c F x1 x2 x3).1)), (w188 q cc gc h r c F x1 x2 x3).2, 198, sl) ∧ WT ((w188 q cc gc h r c F x1 x2 x3).2) ∧ frm [162, 164, 165, 169, 170] [(162, 3), (162, 5), (162, 27)] h ((w188 q cc gc h r c F x1 x2 x3).2) := by
  obtain ⟨n, hh⟩ := rn_i rfl rfl rfl rfl hh
  obtain ⟨n, hh⟩ := rn_i rfl rfl rfl rfl hh
  have hh : pm_run PT n fr lo 188 (81, [some (.ref 162), some (.int x1), some (.int x2), some (.int x3), some (.int F), some (.int (nI 0)), none], [], h, 198, sl) = some R := hh
  obtain ⟨n, u2, u1, hc5, hf6, hn3, hn4, hh⟩ := w188_81_ok (q := q) (cc := cc) (gc := gc) (t1 := x1) (t2 := x2) (t3 := x3) (t4 := F)  (z162_20 := r) (z162_3 := c) (i := 0) (o6 := none) (j := r) (by omega) (by omega) hw (by omega) (by omega) (show Fi (h) 162 20 = nI r from e20) (show Fi (h) 162 3 = nI (c + 0) from e3) hh
  have hh : pm_run PT n fr lo 188 (216, [some (.ref 162), some (.int x1), some (.int x2), some (.int x3), some (.int F), u2, u1], [], (w188_81 q cc gc r c x1 x2 x3 F r 0 h), 198, sl) = some R := hh
  obtain ⟨n, hh⟩ := rn_i rfl rfl rfl rfl hh
  have hh : pm_run PT n fr lo 188 (217, [some (.ref 162), some (.int x1), some (.int x2), some (.int x3), some (.int F), u2, u1], [.ref 162], (w188_81 q cc gc r c x1 x2 x3 F r 0 h), 198, sl) = some R := hh
  obtain ⟨n, fr1, lo1, r1, hh1, hh⟩ := rn_call (w := 0) (t := 190) rfl rfl hh
  obtain ⟨er7, hc8, hf9⟩ := w190_ok (q := q) (cc := cc) (gc := gc) (r := r) hc5 (by omega) hn3 hh1
  subst er7
  obtain ⟨n, hh⟩ := rn_i rfl rfl rfl rfl hh
  have hh : pm_run PT n fr lo 188 (221, [some (.ref 162), some (.int x1), some (.int x2), some (.int x3), some (.int F), u2, u1], [.ref 162], w190 q cc gc (w188_81 q cc gc r c x1 x2 x3 F r 0 h) r, 198, sl) = some R := hh
  obtain ⟨n, hh⟩ := rn_gi (x := nI r) hc8 rfl rfl (by decide) rfl (by decide) rfl ((hf9.2 162 20 (by decide +kernel) rfl).trans hn3) hh
  have hh : pm_run PT n fr lo 188 (224, [some (.ref 162), some (.int x1), some (.int x2), some (.int x3), some (.int F), u2, u1], [.int (nI r)], w190 q cc gc (w188_81 q cc gc r c x1 x2 x3 F r 0 h) r, 198, sl) = some R := hh
  have er10 : R = (some (.int (nI r)), w190 q cc gc (w188_81 q cc gc r c x1 x2 x3 F r 0 h) r, 198, sl) := (rn_ret rfl (Or.inl rfl) hh).2
  have ed : w188 q cc gc h r c F x1 x2 x3 = (nI r, w190 q cc gc (w188_81 q cc gc r c x1 x2 x3 F r 0 h) r) := rfl
  refine ⟨?_, ?_, ?_⟩ <;> rw [ed]
  · exact er10
  · exact hc8
  · exact (fr_g rfl rfl hf9 (fr_g rfl rfl hf6 fr_0))
def w192_81b (q : QT) (cc gc : Nat) (h : pm_H) (z162_20 : Nat) (z162_4 : Nat) (t1 : Int32) (t2 : Int32) (t3 : Int32) (t4 : Int32) (i : Nat) : pm_H := fset (aset (aset (aset (aset h 166 8 (upd (Ar h 166) (z162_4 + i) ((Ar h 173) (4 * i)))) 167 8 (upd (Ar h 167) (z162_4 + i) ((Ar h 173) (4 * i + 1)))) 168 8 (upd (Ar h 168) (z162_4 + i) ((Ar h 173) (4 * i + 2)))) 170 96 (upd (upd (upd (Ar h 170) (78 + (z162_4 + i)) ((Ar h 173) (4 * i + 3))) (86 + (z162_4 + i)) (shl (nI 1) ((Ar h 173) (4 * i + 3)))) 94 (((upd (upd (Ar h 170) (78 + (z162_4 + i)) ((Ar h 173) (4 * i + 3))) (86 + (z162_4 + i)) (shl (nI 1) ((Ar h 173) (4 * i + 3)))) 94) &&& ((shl (nI 1) (nI (z162_4 + i))) ^^^ (Int32.ofInt (-1)))))) 162 4 (.int (nI (z162_4 + i + 1)))
def w192_81 (q : QT) (cc gc : Nat) (z162_20 : Nat) (z162_4 : Nat) (t1 : Int32) (t2 : Int32) (t3 : Int32) (t4 : Int32) (j i : Nat) (a : pm_H) : pm_H := lp (fun i a => w192_81b q cc gc a z162_20 z162_4 t1 t2 t3 t4 i) j i a
theorem w192_81_e {n fr lo sl cc gc : Nat} {q : QT} {h : pm_H} {R : pm_Rs} {z162_20 : Nat} {z162_4 : Nat} {t1 : Int32} {t2 : Int32} {t3 : Int32} {t4 : Int32} {i : Nat} (hw : WT h) (hz : z162_4 + z162_20 ≤ 8) (e20 : Fi h 162 20 = nI z162_20) (e4 : Fi h 162 4 = nI (z162_4 + i)) (hi : z162_20 ≤ i) (hI : i < 1000000) (hh : pm_run PT n fr lo 192 (81, [some (.ref 162), some (.int t1), some (.int t2), some (.int t3), some (.int t4), some (.int (nI i))], [], h, 198, sl) = some R) : ∃ m, pm_run PT m fr lo 192 (230, [some (.ref 162), some (.int t1), some (.int t2), some (.int t3), some (.int t4), some (.int (nI i))], [], h, 198, sl) = some R := by
  obtain ⟨n, hh⟩ := rn_i rfl rfl rfl rfl hh
  obtain ⟨n, hh⟩ := rn_i rfl rfl rfl rfl hh
  have hh : pm_run PT n fr lo 192 (84, [some (.ref 162), some (.int t1), some (.int t2), some (.int t3), some (.int t4), some (.int (nI i))], [.ref 162, .int (nI i)], h, 198, sl) = some R := hh
  obtain ⟨n, hh⟩ := rn_gi (x := nI z162_20) hw rfl rfl (by decide) rfl (by decide) rfl e20 hh
  have hh : pm_run PT n fr lo 192 (87, [some (.ref 162), some (.int t1), some (.int t2), some (.int t3), some (.int t4), some (.int (nI i))], [.int (nI z162_20), .int (nI i)], h, 198, sl) = some R := hh
  obtain ⟨n, hh⟩ := en_cn (cc := .ge) (off := 143) (t := 230) (b := decide (z162_20 ≤ i)) (hI_ge (by omega) (by omega)) rfl rfl hh
  have hh := en_t (show decide (z162_20 ≤ i) = true from decide_eq_true (by omega)) hh
  have hh : pm_run PT n fr lo 192 (230, [some (.ref 162), some (.int t1), some (.int t2), some (.int t3), some (.int t4), some (.int (nI i))], [], h, 198, sl) = some R := hh
  exact ⟨n, hh⟩
theorem w192_81_s {n fr lo sl cc gc : Nat} {q : QT} {h : pm_H} {R : pm_Rs} {z162_20 : Nat} {z162_4 : Nat} {t1 : Int32} {t2 : Int32} {t3 : Int32} {t4 : Int32} {i : Nat} (hw : WT h) (hz : z162_4 + z162_20 ≤ 8) (e20 : Fi h 162 20 = nI z162_20) (e4 : Fi h 162 4 = nI (z162_4 + i)) (hi : i < z162_20) (hI : i < 1000000) (hh : pm_run PT n fr lo 192 (81, [some (.ref 162), some (.int t1), some (.int t2), some (.int t3), some (.int t4), some (.int (nI i))], [], h, 198, sl) = some R) : ∃ m, WT ((w192_81b q cc gc h z162_20 z162_4 t1 t2 t3 t4 i)) ∧ frm [162, 166, 167, 168, 170] [(162, 4)] h ((w192_81b q cc gc h z162_20 z162_4 t1 t2 t3 t4 i)) ∧ Fi ((w192_81b q cc gc h z162_20 z162_4 t1 t2 t3 t4 i)) 162 20 = nI z162_20 ∧ Fi ((w192_81b q cc gc h z162_20 z162_4 t1 t2 t3 t4 i)) 162 4 = nI (z162_4 + (i + 1)) ∧ pm_run PT m fr lo 192 (81, [some (.ref 162), some (.int t1), some (.int t2), some (.int t3), some (.int t4), some (.int (nI (i + 1)))], [], (w192_81b q cc gc h z162_20 z162_4 t1 t2 t3 t4 i), 198, sl) = some R := by
  obtain ⟨n, hh⟩ := rn_i rfl rfl rfl rfl hh
  obtain ⟨n, hh⟩ := rn_i rfl rfl rfl rfl hh
  have hh : pm_run PT n fr lo 192 (84, [some (.ref 162), some (.int t1), some (.int t2), some (.int t3), some (.int t4), some (.int (nI i))], [.ref 162, .int (nI i)], h, 198, sl) = some R := hh
  obtain ⟨n, hh⟩ := rn_gi (x := nI z162_20) hw rfl rfl (by decide) rfl (by decide) rfl e20 hh
  have hh : pm_run PT n fr lo 192 (87, [some (.ref 162), some (.int t1), some (.int t2), some (.int t3), some (.int t4), some (.int (nI i))], [.int (nI z162_20), .int (nI i)], h, 198, sl) = some R := hh
  obtain ⟨n, hh⟩ := en_cn (cc := .ge) (off := 143) (t := 230) (b := decide (z162_20 ≤ i)) (hI_ge (by omega) (by omega)) rfl rfl hh
  have hh := en_f (show decide (z162_20 ≤ i) = false from decide_eq_false (by omega)) hh
  have hh : pm_run PT n fr lo 192 (90, [some (.ref 162), some (.int t1), some (.int t2), some (.int t3), some (.int t4), some (.int (nI i))], [], h, 198, sl) = some R := hh
  obtain ⟨n, hh⟩ := rn_i rfl rfl rfl rfl hh
  have hh : pm_run PT n fr lo 192 (91, [some (.ref 162), some (.int t1), some (.int t2), some (.int t3), some (.int t4), some (.int (nI i))], [.ref 162], h, 198, sl) = some R := hh
  obtain ⟨n, hh⟩ := rn_gr hw rfl rfl (by decide) rfl (by decide) (show _ = some (2, ((166 : Nat) : Int), 1) from rfl) rfl hh
  obtain ⟨n, hh⟩ := rn_i rfl rfl rfl rfl hh
  have hh : pm_run PT n fr lo 192 (95, [some (.ref 162), some (.int t1), some (.int t2), some (.int t3), some (.int t4), some (.int (nI i))], [.ref 162, .ref 166], h, 198, sl) = some R := hh
  obtain ⟨n, hh⟩ := rn_gi (x := nI (z162_4 + i)) hw rfl rfl (by decide) rfl (by decide) rfl e4 hh
  obtain ⟨n, hh⟩ := rn_i rfl rfl rfl rfl hh
  have hh : pm_run PT n fr lo 192 (99, [some (.ref 162), some (.int t1), some (.int t2), some (.int t3), some (.int t4), some (.int (nI i))], [.ref 162, .int (nI (z162_4 + i)), .ref 166], h, 198, sl) = some R := hh
  obtain ⟨n, hh⟩ := rn_gr hw rfl rfl (by decide) rfl (by decide) (show _ = some (2, ((173 : Nat) : Int), 1) from rfl) rfl hh
  obtain ⟨n, hh⟩ := rn_i rfl rfl rfl rfl hh
  obtain ⟨n, hh⟩ := rn_i rfl rfl rfl rfl hh
  have hh : pm_run PT n fr lo 192 (105, [some (.ref 162), some (.int t1), some (.int t2), some (.int t3), some (.int t4), some (.int (nI i))], [.int (nI i), .int (nI 4), .ref 173, .int (nI (z162_4 + i)), .ref 166], h, 198, sl) = some R := hh
  obtain ⟨n, hh⟩ := en_mul rfl hh
  have hh : pm_run PT n fr lo 192 (106, [some (.ref 162), some (.int t1), some (.int t2), some (.int t3), some (.int t4), some (.int (nI i))], [.int (nI (4 * i)), .ref 173, .int (nI (z162_4 + i)), .ref 166], h, 198, sl) = some R := hh
  have hh : pm_run PT n fr lo 192 (106, [some (.ref 162), some (.int t1), some (.int t2), some (.int t3), some (.int t4), some (.int (nI i))], [.int (nI (4 * i)), .ref 173, .int (nI (z162_4 + i)), .ref 166], h, 198, sl) = some R := hh
  obtain ⟨n, hx1, hh⟩ := en_lu (t := 4 * i) (f := Ar h 173) (w := (Ar h 173) (4 * i)) (nI_clamp (by omega)) hw rfl (by decide) rfl (by decide) rfl (fun _ => rfl) hh
  have hh : pm_run PT n fr lo 192 (107, [some (.ref 162), some (.int t1), some (.int t2), some (.int t3), some (.int t4), some (.int (nI i))], [.int ((Ar h 173) (4 * i)), .int (nI (z162_4 + i)), .ref 166], h, 198, sl) = some R := hh
  obtain ⟨n, hx2, hh⟩ := en_st (t := z162_4 + i) (f := Ar h 166) (nI_clamp (by omega)) hw rfl (by decide) rfl (by decide) rfl hh
  obtain ⟨n, hh⟩ := rn_i rfl rfl rfl rfl hh
  have hh : pm_run PT n fr lo 192 (109, [some (.ref 162), some (.int t1), some (.int t2), some (.int t3), some (.int t4), some (.int (nI i))], [.ref 162], aset h 166 8 (upd (Ar h 166) (z162_4 + i) ((Ar h 173) (4 * i))), 198, sl) = some R := hh
  obtain ⟨n, hh⟩ := rn_gr (wt_as rfl hw) rfl rfl (by decide) rfl (by decide) (show _ = some (2, ((167 : Nat) : Int), 1) from rfl) rfl hh
  obtain ⟨n, hh⟩ := rn_i rfl rfl rfl rfl hh
  have hh : pm_run PT n fr lo 192 (113, [some (.ref 162), some (.int t1), some (.int t2), some (.int t3), some (.int t4), some (.int (nI i))], [.ref 162, .ref 167], aset h 166 8 (upd (Ar h 166) (z162_4 + i) ((Ar h 173) (4 * i))), 198, sl) = some R := hh
  obtain ⟨n, hh⟩ := rn_gi (x := nI (z162_4 + i)) (wt_as rfl hw) rfl rfl (by decide) rfl (by decide) rfl ((Fi_a (by decide)).trans e4) hh
  obtain ⟨n, hh⟩ := rn_i rfl rfl rfl rfl hh
  have hh : pm_run PT n fr lo 192 (117, [some (.ref 162), some (.int t1), some (.int t2), some (.int t3), some (.int t4), some (.int (nI i))], [.ref 162, .int (nI (z162_4 + i)), .ref 167], aset h 166 8 (upd (Ar h 166) (z162_4 + i) ((Ar h 173) (4 * i))), 198, sl) = some R := hh
  obtain ⟨n, hh⟩ := rn_gr (wt_as rfl hw) rfl rfl (by decide) rfl (by decide) (show _ = some (2, ((173 : Nat) : Int), 1) from rfl) rfl hh
  obtain ⟨n, hh⟩ := rn_i rfl rfl rfl rfl hh
  obtain ⟨n, hh⟩ := rn_i rfl rfl rfl rfl hh
  have hh : pm_run PT n fr lo 192 (123, [some (.ref 162), some (.int t1), some (.int t2), some (.int t3), some (.int t4), some (.int (nI i))], [.int (nI i), .int (nI 4), .ref 173, .int (nI (z162_4 + i)), .ref 167], aset h 166 8 (upd (Ar h 166) (z162_4 + i) ((Ar h 173) (4 * i))), 198, sl) = some R := hh
  obtain ⟨n, hh⟩ := en_mul rfl hh
  have hh : pm_run PT n fr lo 192 (124, [some (.ref 162), some (.int t1), some (.int t2), some (.int t3), some (.int t4), some (.int (nI i))], [.int (nI (4 * i)), .ref 173, .int (nI (z162_4 + i)), .ref 167], aset h 166 8 (upd (Ar h 166) (z162_4 + i) ((Ar h 173) (4 * i))), 198, sl) = some R := hh
  obtain ⟨n, hh⟩ := rn_i rfl rfl rfl rfl hh
  have hh : pm_run PT n fr lo 192 (125, [some (.ref 162), some (.int t1), some (.int t2), some (.int t3), some (.int t4), some (.int (nI i))], [.int (nI 1), .int (nI (4 * i)), .ref 173, .int (nI (z162_4 + i)), .ref 167], aset h 166 8 (upd (Ar h 166) (z162_4 + i) ((Ar h 173) (4 * i))), 198, sl) = some R := hh
  obtain ⟨n, hh⟩ := en_add rfl hh
  have hh : pm_run PT n fr lo 192 (126, [some (.ref 162), some (.int t1), some (.int t2), some (.int t3), some (.int t4), some (.int (nI i))], [.int (nI (4 * i + 1)), .ref 173, .int (nI (z162_4 + i)), .ref 167], aset h 166 8 (upd (Ar h 166) (z162_4 + i) ((Ar h 173) (4 * i))), 198, sl) = some R := hh
  have hh : pm_run PT n fr lo 192 (126, [some (.ref 162), some (.int t1), some (.int t2), some (.int t3), some (.int t4), some (.int (nI i))], [.int (nI (4 * i + 1)), .ref 173, .int (nI (z162_4 + i)), .ref 167], aset h 166 8 (upd (Ar h 166) (z162_4 + i) ((Ar h 173) (4 * i))), 198, sl) = some R := hh
  obtain ⟨n, hx3, hh⟩ := en_lu (t := 4 * i + 1) (f := Ar h 173) (w := (Ar h 173) (4 * i + 1)) (nI_clamp (by omega)) (wt_as rfl hw) rfl (by decide) rfl (by decide) ((Ar_n (by decide)).trans rfl) (fun _ => rfl) hh
  have hh : pm_run PT n fr lo 192 (127, [some (.ref 162), some (.int t1), some (.int t2), some (.int t3), some (.int t4), some (.int (nI i))], [.int ((Ar h 173) (4 * i + 1)), .int (nI (z162_4 + i)), .ref 167], aset h 166 8 (upd (Ar h 166) (z162_4 + i) ((Ar h 173) (4 * i))), 198, sl) = some R := hh
  obtain ⟨n, hx4, hh⟩ := en_st (t := z162_4 + i) (f := Ar h 167) (nI_clamp (by omega)) (wt_as rfl hw) rfl (by decide) rfl (by decide) ((Ar_n (by decide)).trans rfl) hh
  obtain ⟨n, hh⟩ := rn_i rfl rfl rfl rfl hh
  have hh : pm_run PT n fr lo 192 (129, [some (.ref 162), some (.int t1), some (.int t2), some (.int t3), some (.int t4), some (.int (nI i))], [.ref 162], aset (aset h 166 8 (upd (Ar h 166) (z162_4 + i) ((Ar h 173) (4 * i)))) 167 8 (upd (Ar h 167) (z162_4 + i) ((Ar h 173) (4 * i + 1))), 198, sl) = some R := hh
  obtain ⟨n, hh⟩ := rn_gr (wt_as rfl (wt_as rfl hw)) rfl rfl (by decide) rfl (by decide) (show _ = some (2, ((168 : Nat) : Int), 1) from rfl) rfl hh
  obtain ⟨n, hh⟩ := rn_i rfl rfl rfl rfl hh
  have hh : pm_run PT n fr lo 192 (133, [some (.ref 162), some (.int t1), some (.int t2), some (.int t3), some (.int t4), some (.int (nI i))], [.ref 162, .ref 168], aset (aset h 166 8 (upd (Ar h 166) (z162_4 + i) ((Ar h 173) (4 * i)))) 167 8 (upd (Ar h 167) (z162_4 + i) ((Ar h 173) (4 * i + 1))), 198, sl) = some R := hh
  obtain ⟨n, hh⟩ := rn_gi (x := nI (z162_4 + i)) (wt_as rfl (wt_as rfl hw)) rfl rfl (by decide) rfl (by decide) rfl ((Fi_a (by decide)).trans ((Fi_a (by decide)).trans e4)) hh
  obtain ⟨n, hh⟩ := rn_i rfl rfl rfl rfl hh
  have hh : pm_run PT n fr lo 192 (137, [some (.ref 162), some (.int t1), some (.int t2), some (.int t3), some (.int t4), some (.int (nI i))], [.ref 162, .int (nI (z162_4 + i)), .ref 168], aset (aset h 166 8 (upd (Ar h 166) (z162_4 + i) ((Ar h 173) (4 * i)))) 167 8 (upd (Ar h 167) (z162_4 + i) ((Ar h 173) (4 * i + 1))), 198, sl) = some R := hh
  obtain ⟨n, hh⟩ := rn_gr (wt_as rfl (wt_as rfl hw)) rfl rfl (by decide) rfl (by decide) (show _ = some (2, ((173 : Nat) : Int), 1) from rfl) rfl hh
  obtain ⟨n, hh⟩ := rn_i rfl rfl rfl rfl hh
  obtain ⟨n, hh⟩ := rn_i rfl rfl rfl rfl hh
  have hh : pm_run PT n fr lo 192 (143, [some (.ref 162), some (.int t1), some (.int t2), some (.int t3), some (.int t4), some (.int (nI i))], [.int (nI i), .int (nI 4), .ref 173, .int (nI (z162_4 + i)), .ref 168], aset (aset h 166 8 (upd (Ar h 166) (z162_4 + i) ((Ar h 173) (4 * i)))) 167 8 (upd (Ar h 167) (z162_4 + i) ((Ar h 173) (4 * i + 1))), 198, sl) = some R := hh
  obtain ⟨n, hh⟩ := en_mul rfl hh
  have hh : pm_run PT n fr lo 192 (144, [some (.ref 162), some (.int t1), some (.int t2), some (.int t3), some (.int t4), some (.int (nI i))], [.int (nI (4 * i)), .ref 173, .int (nI (z162_4 + i)), .ref 168], aset (aset h 166 8 (upd (Ar h 166) (z162_4 + i) ((Ar h 173) (4 * i)))) 167 8 (upd (Ar h 167) (z162_4 + i) ((Ar h 173) (4 * i + 1))), 198, sl) = some R := hh
  obtain ⟨n, hh⟩ := rn_i rfl rfl rfl rfl hh
  have hh : pm_run PT n fr lo 192 (145, [some (.ref 162), some (.int t1), some (.int t2), some (.int t3), some (.int t4), some (.int (nI i))], [.int (nI 2), .int (nI (4 * i)), .ref 173, .int (nI (z162_4 + i)), .ref 168], aset (aset h 166 8 (upd (Ar h 166) (z162_4 + i) ((Ar h 173) (4 * i)))) 167 8 (upd (Ar h 167) (z162_4 + i) ((Ar h 173) (4 * i + 1))), 198, sl) = some R := hh
  obtain ⟨n, hh⟩ := en_add rfl hh
  have hh : pm_run PT n fr lo 192 (146, [some (.ref 162), some (.int t1), some (.int t2), some (.int t3), some (.int t4), some (.int (nI i))], [.int (nI (4 * i + 2)), .ref 173, .int (nI (z162_4 + i)), .ref 168], aset (aset h 166 8 (upd (Ar h 166) (z162_4 + i) ((Ar h 173) (4 * i)))) 167 8 (upd (Ar h 167) (z162_4 + i) ((Ar h 173) (4 * i + 1))), 198, sl) = some R := hh
  have hh : pm_run PT n fr lo 192 (146, [some (.ref 162), some (.int t1), some (.int t2), some (.int t3), some (.int t4), some (.int (nI i))], [.int (nI (4 * i + 2)), .ref 173, .int (nI (z162_4 + i)), .ref 168], aset (aset h 166 8 (upd (Ar h 166) (z162_4 + i) ((Ar h 173) (4 * i)))) 167 8 (upd (Ar h 167) (z162_4 + i) ((Ar h 173) (4 * i + 1))), 198, sl) = some R := hh
  obtain ⟨n, hx5, hh⟩ := en_lu (t := 4 * i + 2) (f := Ar h 173) (w := (Ar h 173) (4 * i + 2)) (nI_clamp (by omega)) (wt_as rfl (wt_as rfl hw)) rfl (by decide) rfl (by decide) ((Ar_n (by decide)).trans ((Ar_n (by decide)).trans rfl)) (fun _ => rfl) hh
  have hh : pm_run PT n fr lo 192 (147, [some (.ref 162), some (.int t1), some (.int t2), some (.int t3), some (.int t4), some (.int (nI i))], [.int ((Ar h 173) (4 * i + 2)), .int (nI (z162_4 + i)), .ref 168], aset (aset h 166 8 (upd (Ar h 166) (z162_4 + i) ((Ar h 173) (4 * i)))) 167 8 (upd (Ar h 167) (z162_4 + i) ((Ar h 173) (4 * i + 1))), 198, sl) = some R := hh
  obtain ⟨n, hx6, hh⟩ := en_st (t := z162_4 + i) (f := Ar h 168) (nI_clamp (by omega)) (wt_as rfl (wt_as rfl hw)) rfl (by decide) rfl (by decide) ((Ar_n (by decide)).trans ((Ar_n (by decide)).trans rfl)) hh
  obtain ⟨n, hh⟩ := rn_i rfl rfl rfl rfl hh
  have hh : pm_run PT n fr lo 192 (149, [some (.ref 162), some (.int t1), some (.int t2), some (.int t3), some (.int t4), some (.int (nI i))], [.ref 162], aset (aset (aset h 166 8 (upd (Ar h 166) (z162_4 + i) ((Ar h 173) (4 * i)))) 167 8 (upd (Ar h 167) (z162_4 + i) ((Ar h 173) (4 * i + 1)))) 168 8 (upd (Ar h 168) (z162_4 + i) ((Ar h 173) (4 * i + 2))), 198, sl) = some R := hh
  obtain ⟨n, hh⟩ := rn_gr (wt_as rfl (wt_as rfl (wt_as rfl hw))) rfl rfl (by decide) rfl (by decide) (show _ = some (2, ((170 : Nat) : Int), 1) from rfl) rfl hh
  obtain ⟨n, hh⟩ := rn_i rfl rfl rfl rfl hh
  obtain ⟨n, hh⟩ := rn_i rfl rfl rfl rfl hh
  have hh : pm_run PT n fr lo 192 (155, [some (.ref 162), some (.int t1), some (.int t2), some (.int t3), some (.int t4), some (.int (nI i))], [.ref 162, .int (nI 78), .ref 170], aset (aset (aset h 166 8 (upd (Ar h 166) (z162_4 + i) ((Ar h 173) (4 * i)))) 167 8 (upd (Ar h 167) (z162_4 + i) ((Ar h 173) (4 * i + 1)))) 168 8 (upd (Ar h 168) (z162_4 + i) ((Ar h 173) (4 * i + 2))), 198, sl) = some R := hh
  obtain ⟨n, hh⟩ := rn_gi (x := nI (z162_4 + i)) (wt_as rfl (wt_as rfl (wt_as rfl hw))) rfl rfl (by decide) rfl (by decide) rfl ((Fi_a (by decide)).trans ((Fi_a (by decide)).trans ((Fi_a (by decide)).trans e4))) hh
  have hh : pm_run PT n fr lo 192 (158, [some (.ref 162), some (.int t1), some (.int t2), some (.int t3), some (.int t4), some (.int (nI i))], [.int (nI (z162_4 + i)), .int (nI 78), .ref 170], aset (aset (aset h 166 8 (upd (Ar h 166) (z162_4 + i) ((Ar h 173) (4 * i)))) 167 8 (upd (Ar h 167) (z162_4 + i) ((Ar h 173) (4 * i + 1)))) 168 8 (upd (Ar h 168) (z162_4 + i) ((Ar h 173) (4 * i + 2))), 198, sl) = some R := hh
  obtain ⟨n, hh⟩ := en_add rfl hh
  have hh : pm_run PT n fr lo 192 (159, [some (.ref 162), some (.int t1), some (.int t2), some (.int t3), some (.int t4), some (.int (nI i))], [.int (nI (78 + (z162_4 + i))), .ref 170], aset (aset (aset h 166 8 (upd (Ar h 166) (z162_4 + i) ((Ar h 173) (4 * i)))) 167 8 (upd (Ar h 167) (z162_4 + i) ((Ar h 173) (4 * i + 1)))) 168 8 (upd (Ar h 168) (z162_4 + i) ((Ar h 173) (4 * i + 2))), 198, sl) = some R := hh
  obtain ⟨n, hh⟩ := rn_i rfl rfl rfl rfl hh
  have hh : pm_run PT n fr lo 192 (160, [some (.ref 162), some (.int t1), some (.int t2), some (.int t3), some (.int t4), some (.int (nI i))], [.ref 162, .int (nI (78 + (z162_4 + i))), .ref 170], aset (aset (aset h 166 8 (upd (Ar h 166) (z162_4 + i) ((Ar h 173) (4 * i)))) 167 8 (upd (Ar h 167) (z162_4 + i) ((Ar h 173) (4 * i + 1)))) 168 8 (upd (Ar h 168) (z162_4 + i) ((Ar h 173) (4 * i + 2))), 198, sl) = some R := hh
  obtain ⟨n, hh⟩ := rn_gr (wt_as rfl (wt_as rfl (wt_as rfl hw))) rfl rfl (by decide) rfl (by decide) (show _ = some (2, ((173 : Nat) : Int), 1) from rfl) rfl hh
  obtain ⟨n, hh⟩ := rn_i rfl rfl rfl rfl hh
  obtain ⟨n, hh⟩ := rn_i rfl rfl rfl rfl hh
  have hh : pm_run PT n fr lo 192 (166, [some (.ref 162), some (.int t1), some (.int t2), some (.int t3), some (.int t4), some (.int (nI i))], [.int (nI i), .int (nI 4), .ref 173, .int (nI (78 + (z162_4 + i))), .ref 170], aset (aset (aset h 166 8 (upd (Ar h 166) (z162_4 + i) ((Ar h 173) (4 * i)))) 167 8 (upd (Ar h 167) (z162_4 + i) ((Ar h 173) (4 * i + 1)))) 168 8 (upd (Ar h 168) (z162_4 + i) ((Ar h 173) (4 * i + 2))), 198, sl) = some R := hh
  obtain ⟨n, hh⟩ := en_mul rfl hh
  have hh : pm_run PT n fr lo 192 (167, [some (.ref 162), some (.int t1), some (.int t2), some (.int t3), some (.int t4), some (.int (nI i))], [.int (nI (4 * i)), .ref 173, .int (nI (78 + (z162_4 + i))), .ref 170], aset (aset (aset h 166 8 (upd (Ar h 166) (z162_4 + i) ((Ar h 173) (4 * i)))) 167 8 (upd (Ar h 167) (z162_4 + i) ((Ar h 173) (4 * i + 1)))) 168 8 (upd (Ar h 168) (z162_4 + i) ((Ar h 173) (4 * i + 2))), 198, sl) = some R := hh
  obtain ⟨n, hh⟩ := rn_i rfl rfl rfl rfl hh
  have hh : pm_run PT n fr lo 192 (168, [some (.ref 162), some (.int t1), some (.int t2), some (.int t3), some (.int t4), some (.int (nI i))], [.int (nI 3), .int (nI (4 * i)), .ref 173, .int (nI (78 + (z162_4 + i))), .ref 170], aset (aset (aset h 166 8 (upd (Ar h 166) (z162_4 + i) ((Ar h 173) (4 * i)))) 167 8 (upd (Ar h 167) (z162_4 + i) ((Ar h 173) (4 * i + 1)))) 168 8 (upd (Ar h 168) (z162_4 + i) ((Ar h 173) (4 * i + 2))), 198, sl) = some R := hh
  obtain ⟨n, hh⟩ := en_add rfl hh
  have hh : pm_run PT n fr lo 192 (169, [some (.ref 162), some (.int t1), some (.int t2), some (.int t3), some (.int t4), some (.int (nI i))], [.int (nI (4 * i + 3)), .ref 173, .int (nI (78 + (z162_4 + i))), .ref 170], aset (aset (aset h 166 8 (upd (Ar h 166) (z162_4 + i) ((Ar h 173) (4 * i)))) 167 8 (upd (Ar h 167) (z162_4 + i) ((Ar h 173) (4 * i + 1)))) 168 8 (upd (Ar h 168) (z162_4 + i) ((Ar h 173) (4 * i + 2))), 198, sl) = some R := hh
  have hh : pm_run PT n fr lo 192 (169, [some (.ref 162), some (.int t1), some (.int t2), some (.int t3), some (.int t4), some (.int (nI i))], [.int (nI (4 * i + 3)), .ref 173, .int (nI (78 + (z162_4 + i))), .ref 170], aset (aset (aset h 166 8 (upd (Ar h 166) (z162_4 + i) ((Ar h 173) (4 * i)))) 167 8 (upd (Ar h 167) (z162_4 + i) ((Ar h 173) (4 * i + 1)))) 168 8 (upd (Ar h 168) (z162_4 + i) ((Ar h 173) (4 * i + 2))), 198, sl) = some R := hh
  obtain ⟨n, hx7, hh⟩ := en_lu (t := 4 * i + 3) (f := Ar h 173) (w := (Ar h 173) (4 * i + 3)) (nI_clamp (by omega)) (wt_as rfl (wt_as rfl (wt_as rfl hw))) rfl (by decide) rfl (by decide) ((Ar_n (by decide)).trans ((Ar_n (by decide)).trans ((Ar_n (by decide)).trans rfl))) (fun _ => rfl) hh
  have hh : pm_run PT n fr lo 192 (170, [some (.ref 162), some (.int t1), some (.int t2), some (.int t3), some (.int t4), some (.int (nI i))], [.int ((Ar h 173) (4 * i + 3)), .int (nI (78 + (z162_4 + i))), .ref 170], aset (aset (aset h 166 8 (upd (Ar h 166) (z162_4 + i) ((Ar h 173) (4 * i)))) 167 8 (upd (Ar h 167) (z162_4 + i) ((Ar h 173) (4 * i + 1)))) 168 8 (upd (Ar h 168) (z162_4 + i) ((Ar h 173) (4 * i + 2))), 198, sl) = some R := hh
  obtain ⟨n, hx8, hh⟩ := en_st (t := 78 + (z162_4 + i)) (f := Ar h 170) (nI_clamp (by omega)) (wt_as rfl (wt_as rfl (wt_as rfl hw))) rfl (by decide) rfl (by decide) ((Ar_n (by decide)).trans ((Ar_n (by decide)).trans ((Ar_n (by decide)).trans rfl))) hh
  obtain ⟨n, hh⟩ := rn_i rfl rfl rfl rfl hh
  have hh : pm_run PT n fr lo 192 (172, [some (.ref 162), some (.int t1), some (.int t2), some (.int t3), some (.int t4), some (.int (nI i))], [.ref 162], aset (aset (aset (aset h 166 8 (upd (Ar h 166) (z162_4 + i) ((Ar h 173) (4 * i)))) 167 8 (upd (Ar h 167) (z162_4 + i) ((Ar h 173) (4 * i + 1)))) 168 8 (upd (Ar h 168) (z162_4 + i) ((Ar h 173) (4 * i + 2)))) 170 96 (upd (Ar h 170) (78 + (z162_4 + i)) ((Ar h 173) (4 * i + 3))), 198, sl) = some R := hh
  obtain ⟨n, hh⟩ := rn_gr (wt_as rfl (wt_as rfl (wt_as rfl (wt_as rfl hw)))) rfl rfl (by decide) rfl (by decide) (show _ = some (2, ((170 : Nat) : Int), 1) from rfl) rfl hh
  obtain ⟨n, hh⟩ := rn_i rfl rfl rfl rfl hh
  obtain ⟨n, hh⟩ := rn_i rfl rfl rfl rfl hh
  have hh : pm_run PT n fr lo 192 (178, [some (.ref 162), some (.int t1), some (.int t2), some (.int t3), some (.int t4), some (.int (nI i))], [.ref 162, .int (nI 86), .ref 170], aset (aset (aset (aset h 166 8 (upd (Ar h 166) (z162_4 + i) ((Ar h 173) (4 * i)))) 167 8 (upd (Ar h 167) (z162_4 + i) ((Ar h 173) (4 * i + 1)))) 168 8 (upd (Ar h 168) (z162_4 + i) ((Ar h 173) (4 * i + 2)))) 170 96 (upd (Ar h 170) (78 + (z162_4 + i)) ((Ar h 173) (4 * i + 3))), 198, sl) = some R := hh
  obtain ⟨n, hh⟩ := rn_gi (x := nI (z162_4 + i)) (wt_as rfl (wt_as rfl (wt_as rfl (wt_as rfl hw)))) rfl rfl (by decide) rfl (by decide) rfl ((Fi_a (by decide)).trans ((Fi_a (by decide)).trans ((Fi_a (by decide)).trans ((Fi_a (by decide)).trans e4)))) hh
  have hh : pm_run PT n fr lo 192 (181, [some (.ref 162), some (.int t1), some (.int t2), some (.int t3), some (.int t4), some (.int (nI i))], [.int (nI (z162_4 + i)), .int (nI 86), .ref 170], aset (aset (aset (aset h 166 8 (upd (Ar h 166) (z162_4 + i) ((Ar h 173) (4 * i)))) 167 8 (upd (Ar h 167) (z162_4 + i) ((Ar h 173) (4 * i + 1)))) 168 8 (upd (Ar h 168) (z162_4 + i) ((Ar h 173) (4 * i + 2)))) 170 96 (upd (Ar h 170) (78 + (z162_4 + i)) ((Ar h 173) (4 * i + 3))), 198, sl) = some R := hh
  obtain ⟨n, hh⟩ := en_add rfl hh
  have hh : pm_run PT n fr lo 192 (182, [some (.ref 162), some (.int t1), some (.int t2), some (.int t3), some (.int t4), some (.int (nI i))], [.int (nI (86 + (z162_4 + i))), .ref 170], aset (aset (aset (aset h 166 8 (upd (Ar h 166) (z162_4 + i) ((Ar h 173) (4 * i)))) 167 8 (upd (Ar h 167) (z162_4 + i) ((Ar h 173) (4 * i + 1)))) 168 8 (upd (Ar h 168) (z162_4 + i) ((Ar h 173) (4 * i + 2)))) 170 96 (upd (Ar h 170) (78 + (z162_4 + i)) ((Ar h 173) (4 * i + 3))), 198, sl) = some R := hh
  obtain ⟨n, hh⟩ := rn_i rfl rfl rfl rfl hh
  obtain ⟨n, hh⟩ := rn_i rfl rfl rfl rfl hh
  have hh : pm_run PT n fr lo 192 (184, [some (.ref 162), some (.int t1), some (.int t2), some (.int t3), some (.int t4), some (.int (nI i))], [.ref 162, .int (nI 1), .int (nI (86 + (z162_4 + i))), .ref 170], aset (aset (aset (aset h 166 8 (upd (Ar h 166) (z162_4 + i) ((Ar h 173) (4 * i)))) 167 8 (upd (Ar h 167) (z162_4 + i) ((Ar h 173) (4 * i + 1)))) 168 8 (upd (Ar h 168) (z162_4 + i) ((Ar h 173) (4 * i + 2)))) 170 96 (upd (Ar h 170) (78 + (z162_4 + i)) ((Ar h 173) (4 * i + 3))), 198, sl) = some R := hh
  obtain ⟨n, hh⟩ := rn_gr (wt_as rfl (wt_as rfl (wt_as rfl (wt_as rfl hw)))) rfl rfl (by decide) rfl (by decide) (show _ = some (2, ((173 : Nat) : Int), 1) from rfl) rfl hh
  obtain ⟨n, hh⟩ := rn_i rfl rfl rfl rfl hh
  obtain ⟨n, hh⟩ := rn_i rfl rfl rfl rfl hh
  have hh : pm_run PT n fr lo 192 (190, [some (.ref 162), some (.int t1), some (.int t2), some (.int t3), some (.int t4), some (.int (nI i))], [.int (nI i), .int (nI 4), .ref 173, .int (nI 1), .int (nI (86 + (z162_4 + i))), .ref 170], aset (aset (aset (aset h 166 8 (upd (Ar h 166) (z162_4 + i) ((Ar h 173) (4 * i)))) 167 8 (upd (Ar h 167) (z162_4 + i) ((Ar h 173) (4 * i + 1)))) 168 8 (upd (Ar h 168) (z162_4 + i) ((Ar h 173) (4 * i + 2)))) 170 96 (upd (Ar h 170) (78 + (z162_4 + i)) ((Ar h 173) (4 * i + 3))), 198, sl) = some R := hh
  obtain ⟨n, hh⟩ := en_mul rfl hh
  have hh : pm_run PT n fr lo 192 (191, [some (.ref 162), some (.int t1), some (.int t2), some (.int t3), some (.int t4), some (.int (nI i))], [.int (nI (4 * i)), .ref 173, .int (nI 1), .int (nI (86 + (z162_4 + i))), .ref 170], aset (aset (aset (aset h 166 8 (upd (Ar h 166) (z162_4 + i) ((Ar h 173) (4 * i)))) 167 8 (upd (Ar h 167) (z162_4 + i) ((Ar h 173) (4 * i + 1)))) 168 8 (upd (Ar h 168) (z162_4 + i) ((Ar h 173) (4 * i + 2)))) 170 96 (upd (Ar h 170) (78 + (z162_4 + i)) ((Ar h 173) (4 * i + 3))), 198, sl) = some R := hh
  obtain ⟨n, hh⟩ := rn_i rfl rfl rfl rfl hh
  have hh : pm_run PT n fr lo 192 (192, [some (.ref 162), some (.int t1), some (.int t2), some (.int t3), some (.int t4), some (.int (nI i))], [.int (nI 3), .int (nI (4 * i)), .ref 173, .int (nI 1), .int (nI (86 + (z162_4 + i))), .ref 170], aset (aset (aset (aset h 166 8 (upd (Ar h 166) (z162_4 + i) ((Ar h 173) (4 * i)))) 167 8 (upd (Ar h 167) (z162_4 + i) ((Ar h 173) (4 * i + 1)))) 168 8 (upd (Ar h 168) (z162_4 + i) ((Ar h 173) (4 * i + 2)))) 170 96 (upd (Ar h 170) (78 + (z162_4 + i)) ((Ar h 173) (4 * i + 3))), 198, sl) = some R := hh
  obtain ⟨n, hh⟩ := en_add rfl hh
  have hh : pm_run PT n fr lo 192 (193, [some (.ref 162), some (.int t1), some (.int t2), some (.int t3), some (.int t4), some (.int (nI i))], [.int (nI (4 * i + 3)), .ref 173, .int (nI 1), .int (nI (86 + (z162_4 + i))), .ref 170], aset (aset (aset (aset h 166 8 (upd (Ar h 166) (z162_4 + i) ((Ar h 173) (4 * i)))) 167 8 (upd (Ar h 167) (z162_4 + i) ((Ar h 173) (4 * i + 1)))) 168 8 (upd (Ar h 168) (z162_4 + i) ((Ar h 173) (4 * i + 2)))) 170 96 (upd (Ar h 170) (78 + (z162_4 + i)) ((Ar h 173) (4 * i + 3))), 198, sl) = some R := hh
  have hh : pm_run PT n fr lo 192 (193, [some (.ref 162), some (.int t1), some (.int t2), some (.int t3), some (.int t4), some (.int (nI i))], [.int (nI (4 * i + 3)), .ref 173, .int (nI 1), .int (nI (86 + (z162_4 + i))), .ref 170], aset (aset (aset (aset h 166 8 (upd (Ar h 166) (z162_4 + i) ((Ar h 173) (4 * i)))) 167 8 (upd (Ar h 167) (z162_4 + i) ((Ar h 173) (4 * i + 1)))) 168 8 (upd (Ar h 168) (z162_4 + i) ((Ar h 173) (4 * i + 2)))) 170 96 (upd (Ar h 170) (78 + (z162_4 + i)) ((Ar h 173) (4 * i + 3))), 198, sl) = some R := hh
  obtain ⟨n, hx9, hh⟩ := en_lu (t := 4 * i + 3) (f := Ar h 173) (w := (Ar h 173) (4 * i + 3)) (nI_clamp (by omega)) (wt_as rfl (wt_as rfl (wt_as rfl (wt_as rfl hw)))) rfl (by decide) rfl (by decide) ((Ar_n (by decide)).trans ((Ar_n (by decide)).trans ((Ar_n (by decide)).trans ((Ar_n (by decide)).trans rfl)))) (fun _ => rfl) hh
  obtain ⟨n, hh⟩ := rn_i rfl rfl rfl rfl hh
  have hh : pm_run PT n fr lo 192 (195, [some (.ref 162), some (.int t1), some (.int t2), some (.int t3), some (.int t4), some (.int (nI i))], [.int (shl (nI 1) ((Ar h 173) (4 * i + 3))), .int (nI (86 + (z162_4 + i))), .ref 170], aset (aset (aset (aset h 166 8 (upd (Ar h 166) (z162_4 + i) ((Ar h 173) (4 * i)))) 167 8 (upd (Ar h 167) (z162_4 + i) ((Ar h 173) (4 * i + 1)))) 168 8 (upd (Ar h 168) (z162_4 + i) ((Ar h 173) (4 * i + 2)))) 170 96 (upd (Ar h 170) (78 + (z162_4 + i)) ((Ar h 173) (4 * i + 3))), 198, sl) = some R := hh
  obtain ⟨n, hx10, hh⟩ := en_st (t := 86 + (z162_4 + i)) (f := upd (Ar h 170) (78 + (z162_4 + i)) ((Ar h 173) (4 * i + 3))) (nI_clamp (by omega)) (wt_as rfl (wt_as rfl (wt_as rfl (wt_as rfl hw)))) rfl (by decide) rfl (by decide) Ar_s hh
  have hh : pm_run PT n fr lo 192 (196, [some (.ref 162), some (.int t1), some (.int t2), some (.int t3), some (.int t4), some (.int (nI i))], [], aset (aset (aset (aset (aset h 166 8 (upd (Ar h 166) (z162_4 + i) ((Ar h 173) (4 * i)))) 167 8 (upd (Ar h 167) (z162_4 + i) ((Ar h 173) (4 * i + 1)))) 168 8 (upd (Ar h 168) (z162_4 + i) ((Ar h 173) (4 * i + 2)))) 170 96 (upd (Ar h 170) (78 + (z162_4 + i)) ((Ar h 173) (4 * i + 3)))) 170 96 (upd (upd (Ar h 170) (78 + (z162_4 + i)) ((Ar h 173) (4 * i + 3))) (86 + (z162_4 + i)) (shl (nI 1) ((Ar h 173) (4 * i + 3)))), 198, sl) = some R := hh
  rw [aset_aset] at hh
  obtain ⟨n, hh⟩ := rn_i rfl rfl rfl rfl hh
  have hh : pm_run PT n fr lo 192 (197, [some (.ref 162), some (.int t1), some (.int t2), some (.int t3), some (.int t4), some (.int (nI i))], [.ref 162], aset (aset (aset (aset h 166 8 (upd (Ar h 166) (z162_4 + i) ((Ar h 173) (4 * i)))) 167 8 (upd (Ar h 167) (z162_4 + i) ((Ar h 173) (4 * i + 1)))) 168 8 (upd (Ar h 168) (z162_4 + i) ((Ar h 173) (4 * i + 2)))) 170 96 (upd (upd (Ar h 170) (78 + (z162_4 + i)) ((Ar h 173) (4 * i + 3))) (86 + (z162_4 + i)) (shl (nI 1) ((Ar h 173) (4 * i + 3)))), 198, sl) = some R := hh
  obtain ⟨n, hh⟩ := rn_gr (wt_as rfl (wt_as rfl (wt_as rfl (wt_as rfl hw)))) rfl rfl (by decide) rfl (by decide) (show _ = some (2, ((170 : Nat) : Int), 1) from rfl) rfl hh
  obtain ⟨n, hh⟩ := rn_i rfl rfl rfl rfl hh
  obtain ⟨n, hh⟩ := rn_i rfl rfl rfl rfl hh
  have hh : pm_run PT n fr lo 192 (203, [some (.ref 162), some (.int t1), some (.int t2), some (.int t3), some (.int t4), some (.int (nI i))], [.int (nI 94), .ref 170, .int (nI 94), .ref 170], aset (aset (aset (aset h 166 8 (upd (Ar h 166) (z162_4 + i) ((Ar h 173) (4 * i)))) 167 8 (upd (Ar h 167) (z162_4 + i) ((Ar h 173) (4 * i + 1)))) 168 8 (upd (Ar h 168) (z162_4 + i) ((Ar h 173) (4 * i + 2)))) 170 96 (upd (upd (Ar h 170) (78 + (z162_4 + i)) ((Ar h 173) (4 * i + 3))) (86 + (z162_4 + i)) (shl (nI 1) ((Ar h 173) (4 * i + 3)))), 198, sl) = some R := hh
  obtain ⟨n, hx11, hh⟩ := en_lu (t := 94) (f := upd (upd (Ar h 170) (78 + (z162_4 + i)) ((Ar h 173) (4 * i + 3))) (86 + (z162_4 + i)) (shl (nI 1) ((Ar h 173) (4 * i + 3)))) (w := (upd (upd (Ar h 170) (78 + (z162_4 + i)) ((Ar h 173) (4 * i + 3))) (86 + (z162_4 + i)) (shl (nI 1) ((Ar h 173) (4 * i + 3)))) 94) (nI_clamp (by omega)) (wt_as rfl (wt_as rfl (wt_as rfl (wt_as rfl hw)))) rfl (by decide) rfl (by decide) Ar_s (fun _ => rfl) hh
  obtain ⟨n, hh⟩ := rn_i rfl rfl rfl rfl hh
  obtain ⟨n, hh⟩ := rn_i rfl rfl rfl rfl hh
  have hh : pm_run PT n fr lo 192 (206, [some (.ref 162), some (.int t1), some (.int t2), some (.int t3), some (.int t4), some (.int (nI i))], [.ref 162, .int (nI 1), .int ((upd (upd (Ar h 170) (78 + (z162_4 + i)) ((Ar h 173) (4 * i + 3))) (86 + (z162_4 + i)) (shl (nI 1) ((Ar h 173) (4 * i + 3)))) 94), .int (nI 94), .ref 170], aset (aset (aset (aset h 166 8 (upd (Ar h 166) (z162_4 + i) ((Ar h 173) (4 * i)))) 167 8 (upd (Ar h 167) (z162_4 + i) ((Ar h 173) (4 * i + 1)))) 168 8 (upd (Ar h 168) (z162_4 + i) ((Ar h 173) (4 * i + 2)))) 170 96 (upd (upd (Ar h 170) (78 + (z162_4 + i)) ((Ar h 173) (4 * i + 3))) (86 + (z162_4 + i)) (shl (nI 1) ((Ar h 173) (4 * i + 3)))), 198, sl) = some R := hh
  obtain ⟨n, hh⟩ := rn_gi (x := nI (z162_4 + i)) (wt_as rfl (wt_as rfl (wt_as rfl (wt_as rfl hw)))) rfl rfl (by decide) rfl (by decide) rfl ((Fi_a (by decide)).trans ((Fi_a (by decide)).trans ((Fi_a (by decide)).trans ((Fi_a (by decide)).trans e4)))) hh
  obtain ⟨n, hh⟩ := rn_i rfl rfl rfl rfl hh
  obtain ⟨n, hh⟩ := rn_i rfl rfl rfl rfl hh
  obtain ⟨n, hh⟩ := rn_i rfl rfl rfl rfl hh
  obtain ⟨n, hh⟩ := rn_i rfl rfl rfl rfl hh
  have hh : pm_run PT n fr lo 192 (213, [some (.ref 162), some (.int t1), some (.int t2), some (.int t3), some (.int t4), some (.int (nI i))], [.int (((upd (upd (Ar h 170) (78 + (z162_4 + i)) ((Ar h 173) (4 * i + 3))) (86 + (z162_4 + i)) (shl (nI 1) ((Ar h 173) (4 * i + 3)))) 94) &&& ((shl (nI 1) (nI (z162_4 + i))) ^^^ (Int32.ofInt (-1)))), .int (nI 94), .ref 170], aset (aset (aset (aset h 166 8 (upd (Ar h 166) (z162_4 + i) ((Ar h 173) (4 * i)))) 167 8 (upd (Ar h 167) (z162_4 + i) ((Ar h 173) (4 * i + 1)))) 168 8 (upd (Ar h 168) (z162_4 + i) ((Ar h 173) (4 * i + 2)))) 170 96 (upd (upd (Ar h 170) (78 + (z162_4 + i)) ((Ar h 173) (4 * i + 3))) (86 + (z162_4 + i)) (shl (nI 1) ((Ar h 173) (4 * i + 3)))), 198, sl) = some R := hh
  obtain ⟨n, hx12, hh⟩ := en_st (t := 94) (f := upd (upd (Ar h 170) (78 + (z162_4 + i)) ((Ar h 173) (4 * i + 3))) (86 + (z162_4 + i)) (shl (nI 1) ((Ar h 173) (4 * i + 3)))) (nI_clamp (by omega)) (wt_as rfl (wt_as rfl (wt_as rfl (wt_as rfl hw)))) rfl (by decide) rfl (by decide) Ar_s hh
  have hh : pm_run PT n fr lo 192 (214, [some (.ref 162), some (.int t1), some (.int t2), some (.int t3), some (.int t4), some (.int (nI i))], [], aset (aset (aset (aset (aset h 166 8 (upd (Ar h 166) (z162_4 + i) ((Ar h 173) (4 * i)))) 167 8 (upd (Ar h 167) (z162_4 + i) ((Ar h 173) (4 * i + 1)))) 168 8 (upd (Ar h 168) (z162_4 + i) ((Ar h 173) (4 * i + 2)))) 170 96 (upd (upd (Ar h 170) (78 + (z162_4 + i)) ((Ar h 173) (4 * i + 3))) (86 + (z162_4 + i)) (shl (nI 1) ((Ar h 173) (4 * i + 3))))) 170 96 (upd (upd (upd (Ar h 170) (78 + (z162_4 + i)) ((Ar h 173) (4 * i + 3))) (86 + (z162_4 + i)) (shl (nI 1) ((Ar h 173) (4 * i + 3)))) 94 (((upd (upd (Ar h 170) (78 + (z162_4 + i)) ((Ar h 173) (4 * i + 3))) (86 + (z162_4 + i)) (shl (nI 1) ((Ar h 173) (4 * i + 3)))) 94) &&& ((shl (nI 1) (nI (z162_4 + i))) ^^^ (Int32.ofInt (-1))))), 198, sl) = some R := hh
  rw [aset_aset] at hh
  obtain ⟨n, hh⟩ := rn_i rfl rfl rfl rfl hh
  obtain ⟨n, hh⟩ := rn_i rfl rfl rfl rfl hh
  have hh : pm_run PT n fr lo 192 (216, [some (.ref 162), some (.int t1), some (.int t2), some (.int t3), some (.int t4), some (.int (nI i))], [.ref 162, .ref 162], aset (aset (aset (aset h 166 8 (upd (Ar h 166) (z162_4 + i) ((Ar h 173) (4 * i)))) 167 8 (upd (Ar h 167) (z162_4 + i) ((Ar h 173) (4 * i + 1)))) 168 8 (upd (Ar h 168) (z162_4 + i) ((Ar h 173) (4 * i + 2)))) 170 96 (upd (upd (upd (Ar h 170) (78 + (z162_4 + i)) ((Ar h 173) (4 * i + 3))) (86 + (z162_4 + i)) (shl (nI 1) ((Ar h 173) (4 * i + 3)))) 94 (((upd (upd (Ar h 170) (78 + (z162_4 + i)) ((Ar h 173) (4 * i + 3))) (86 + (z162_4 + i)) (shl (nI 1) ((Ar h 173) (4 * i + 3)))) 94) &&& ((shl (nI 1) (nI (z162_4 + i))) ^^^ (Int32.ofInt (-1))))), 198, sl) = some R := hh
  obtain ⟨n, hh⟩ := rn_gi (x := nI (z162_4 + i)) (wt_as rfl (wt_as rfl (wt_as rfl (wt_as rfl hw)))) rfl rfl (by decide) rfl (by decide) rfl ((Fi_a (by decide)).trans ((Fi_a (by decide)).trans ((Fi_a (by decide)).trans ((Fi_a (by decide)).trans e4)))) hh
  obtain ⟨n, hh⟩ := rn_i rfl rfl rfl rfl hh
  have hh : pm_run PT n fr lo 192 (220, [some (.ref 162), some (.int t1), some (.int t2), some (.int t3), some (.int t4), some (.int (nI i))], [.int (nI 1), .int (nI (z162_4 + i)), .ref 162], aset (aset (aset (aset h 166 8 (upd (Ar h 166) (z162_4 + i) ((Ar h 173) (4 * i)))) 167 8 (upd (Ar h 167) (z162_4 + i) ((Ar h 173) (4 * i + 1)))) 168 8 (upd (Ar h 168) (z162_4 + i) ((Ar h 173) (4 * i + 2)))) 170 96 (upd (upd (upd (Ar h 170) (78 + (z162_4 + i)) ((Ar h 173) (4 * i + 3))) (86 + (z162_4 + i)) (shl (nI 1) ((Ar h 173) (4 * i + 3)))) 94 (((upd (upd (Ar h 170) (78 + (z162_4 + i)) ((Ar h 173) (4 * i + 3))) (86 + (z162_4 + i)) (shl (nI 1) ((Ar h 173) (4 * i + 3)))) 94) &&& ((shl (nI 1) (nI (z162_4 + i))) ^^^ (Int32.ofInt (-1))))), 198, sl) = some R := hh
  obtain ⟨n, hh⟩ := en_add rfl hh
  have hh : pm_run PT n fr lo 192 (221, [some (.ref 162), some (.int t1), some (.int t2), some (.int t3), some (.int t4), some (.int (nI i))], [.int (nI (z162_4 + i + 1)), .ref 162], aset (aset (aset (aset h 166 8 (upd (Ar h 166) (z162_4 + i) ((Ar h 173) (4 * i)))) 167 8 (upd (Ar h 167) (z162_4 + i) ((Ar h 173) (4 * i + 1)))) 168 8 (upd (Ar h 168) (z162_4 + i) ((Ar h 173) (4 * i + 2)))) 170 96 (upd (upd (upd (Ar h 170) (78 + (z162_4 + i)) ((Ar h 173) (4 * i + 3))) (86 + (z162_4 + i)) (shl (nI 1) ((Ar h 173) (4 * i + 3)))) 94 (((upd (upd (Ar h 170) (78 + (z162_4 + i)) ((Ar h 173) (4 * i + 3))) (86 + (z162_4 + i)) (shl (nI 1) ((Ar h 173) (4 * i + 3)))) 94) &&& ((shl (nI 1) (nI (z162_4 + i))) ^^^ (Int32.ofInt (-1))))), 198, sl) = some R := hh
  have hh : pm_run PT n fr lo 192 (221, [some (.ref 162), some (.int t1), some (.int t2), some (.int t3), some (.int t4), some (.int (nI i))], [.int (nI (z162_4 + i + 1)), .ref 162], aset (aset (aset (aset h 166 8 (upd (Ar h 166) (z162_4 + i) ((Ar h 173) (4 * i)))) 167 8 (upd (Ar h 167) (z162_4 + i) ((Ar h 173) (4 * i + 1)))) 168 8 (upd (Ar h 168) (z162_4 + i) ((Ar h 173) (4 * i + 2)))) 170 96 (upd (upd (upd (Ar h 170) (78 + (z162_4 + i)) ((Ar h 173) (4 * i + 3))) (86 + (z162_4 + i)) (shl (nI 1) ((Ar h 173) (4 * i + 3)))) 94 (((upd (upd (Ar h 170) (78 + (z162_4 + i)) ((Ar h 173) (4 * i + 3))) (86 + (z162_4 + i)) (shl (nI 1) ((Ar h 173) (4 * i + 3)))) 94) &&& ((shl (nI 1) (nI (z162_4 + i))) ^^^ (Int32.ofInt (-1))))), 198, sl) = some R := hh
  obtain ⟨n, hh⟩ := rn_pi (wt_as rfl (wt_as rfl (wt_as rfl (wt_as rfl hw)))) rfl rfl (by decide) rfl (by decide) rfl hh
  have hh : pm_run PT n fr lo 192 (224, [some (.ref 162), some (.int t1), some (.int t2), some (.int t3), some (.int t4), some (.int (nI i))], [], fset (aset (aset (aset (aset h 166 8 (upd (Ar h 166) (z162_4 + i) ((Ar h 173) (4 * i)))) 167 8 (upd (Ar h 167) (z162_4 + i) ((Ar h 173) (4 * i + 1)))) 168 8 (upd (Ar h 168) (z162_4 + i) ((Ar h 173) (4 * i + 2)))) 170 96 (upd (upd (upd (Ar h 170) (78 + (z162_4 + i)) ((Ar h 173) (4 * i + 3))) (86 + (z162_4 + i)) (shl (nI 1) ((Ar h 173) (4 * i + 3)))) 94 (((upd (upd (Ar h 170) (78 + (z162_4 + i)) ((Ar h 173) (4 * i + 3))) (86 + (z162_4 + i)) (shl (nI 1) ((Ar h 173) (4 * i + 3)))) 94) &&& ((shl (nI 1) (nI (z162_4 + i))) ^^^ (Int32.ofInt (-1)))))) 162 4 (.int (nI (z162_4 + i + 1))), 198, sl) = some R := hh
  obtain ⟨n, hh⟩ := en_inc (x := i) (c := 1) (j := 5) rfl rfl (by decide) hh
  have hh : pm_run PT n fr lo 192 (227, [some (.ref 162), some (.int t1), some (.int t2), some (.int t3), some (.int t4), some (.int (nI (i + 1)))], [], fset (aset (aset (aset (aset h 166 8 (upd (Ar h 166) (z162_4 + i) ((Ar h 173) (4 * i)))) 167 8 (upd (Ar h 167) (z162_4 + i) ((Ar h 173) (4 * i + 1)))) 168 8 (upd (Ar h 168) (z162_4 + i) ((Ar h 173) (4 * i + 2)))) 170 96 (upd (upd (upd (Ar h 170) (78 + (z162_4 + i)) ((Ar h 173) (4 * i + 3))) (86 + (z162_4 + i)) (shl (nI 1) ((Ar h 173) (4 * i + 3)))) 94 (((upd (upd (Ar h 170) (78 + (z162_4 + i)) ((Ar h 173) (4 * i + 3))) (86 + (z162_4 + i)) (shl (nI 1) ((Ar h 173) (4 * i + 3)))) 94) &&& ((shl (nI 1) (nI (z162_4 + i))) ^^^ (Int32.ofInt (-1)))))) 162 4 (.int (nI (z162_4 + i + 1))), 198, sl) = some R := hh
  obtain ⟨n, hh⟩ := rn_i rfl rfl rfl rfl hh
  have ed : w192_81b q cc gc h z162_20 z162_4 t1 t2 t3 t4 i = fset (aset (aset (aset (aset h 166 8 (upd (Ar h 166) (z162_4 + i) ((Ar h 173) (4 * i)))) 167 8 (upd (Ar h 167) (z162_4 + i) ((Ar h 173) (4 * i + 1)))) 168 8 (upd (Ar h 168) (z162_4 + i) ((Ar h 173) (4 * i + 2)))) 170 96 (upd (upd (upd (Ar h 170) (78 + (z162_4 + i)) ((Ar h 173) (4 * i + 3))) (86 + (z162_4 + i)) (shl (nI 1) ((Ar h 173) (4 * i + 3)))) 94 (((upd (upd (Ar h 170) (78 + (z162_4 + i)) ((Ar h 173) (4 * i + 3))) (86 + (z162_4 + i)) (shl (nI 1) ((Ar h 173) (4 * i + 3)))) 94) &&& ((shl (nI 1) (nI (z162_4 + i))) ^^^ (Int32.ofInt (-1)))))) 162 4 (.int (nI (z162_4 + i + 1))) := rfl
  rw [ed]
  exact ⟨n, (wt_fs rfl (by decide) rfl (wt_as rfl (wt_as rfl (wt_as rfl (wt_as rfl hw))))), (fr_f rfl rfl (fr_a rfl rfl (fr_a rfl rfl (fr_a rfl rfl (fr_a rfl rfl fr_0))))), (show Fi (fset (aset (aset (aset (aset h 166 8 (upd (Ar h 166) (z162_4 + i) ((Ar h 173) (4 * i)))) 167 8 (upd (Ar h 167) (z162_4 + i) ((Ar h 173) (4 * i + 1)))) 168 8 (upd (Ar h 168) (z162_4 + i) ((Ar h 173) (4 * i + 2)))) 170 96 (upd (upd (upd (Ar h 170) (78 + (z162_4 + i)) ((Ar h 173) (4 * i + 3))) (86 + (z162_4 + i)) (shl (nI 1) ((Ar h 173) (4 * i + 3)))) 94 (((upd (upd (Ar h 170) (78 + (z162_4 + i)) ((Ar h 173) (4 * i + 3))) (86 + (z162_4 + i)) (shl (nI 1) ((Ar h 173) (4 * i + 3)))) 94) &&& ((shl (nI 1) (nI (z162_4 + i))) ^^^ (Int32.ofInt (-1)))))) 162 4 (.int (nI (z162_4 + i + 1)))) 162 20 = nI z162_20 from ((Fi_n (Or.inr (by decide))).trans ((Fi_a (by decide)).trans ((Fi_a (by decide)).trans ((Fi_a (by decide)).trans ((Fi_a (by decide)).trans e20)))))), (show Fi (fset (aset (aset (aset (aset h 166 8 (upd (Ar h 166) (z162_4 + i) ((Ar h 173) (4 * i)))) 167 8 (upd (Ar h 167) (z162_4 + i) ((Ar h 173) (4 * i + 1)))) 168 8 (upd (Ar h 168) (z162_4 + i) ((Ar h 173) (4 * i + 2)))) 170 96 (upd (upd (upd (Ar h 170) (78 + (z162_4 + i)) ((Ar h 173) (4 * i + 3))) (86 + (z162_4 + i)) (shl (nI 1) ((Ar h 173) (4 * i + 3)))) 94 (((upd (upd (Ar h 170) (78 + (z162_4 + i)) ((Ar h 173) (4 * i + 3))) (86 + (z162_4 + i)) (shl (nI 1) ((Ar h 173) (4 * i + 3)))) 94) &&& ((shl (nI 1) (nI (z162_4 + i))) ^^^ (Int32.ofInt (-1)))))) 162 4 (.int (nI (z162_4 + i + 1)))) 162 4 = nI (z162_4 + (i + 1)) from (Fi_s (wt_as rfl (wt_as rfl (wt_as rfl (wt_as rfl hw)))) (by decide) rfl (by decide) rfl)), hh⟩
theorem w192_81_ok {fr lo sl cc gc : Nat} {q : QT} {R : pm_Rs} {z162_20 : Nat} {z162_4 : Nat} {t1 : Int32} {t2 : Int32} {t3 : Int32} {t4 : Int32} : ∀ {j i : Nat} {h : pm_H} {n : Nat}, z162_20 - i = j → i + j < 1000000 → WT h → z162_4 + z162_20 ≤ 8 → i ≤ z162_20 → Fi h 162 20 = nI z162_20 → Fi h 162 4 = nI (z162_4 + i) → pm_run PT n fr lo 192 (81, [some (.ref 162), some (.int t1), some (.int t2), some (.int t3), some (.int t4), some (.int (nI i))], [], h, 198, sl) = some R → ∃ m wc, WT ((w192_81 q cc gc z162_20 z162_4 t1 t2 t3 t4 j i h)) ∧ frm [162, 166, 167, 168, 170] [(162, 4)] h ((w192_81 q cc gc z162_20 z162_4 t1 t2 t3 t4 j i h)) ∧ Fi ((w192_81 q cc gc z162_20 z162_4 t1 t2 t3 t4 j i h)) 162 20 = nI z162_20 ∧ Fi ((w192_81 q cc gc z162_20 z162_4 t1 t2 t3 t4 j i h)) 162 4 = nI (z162_4 + z162_20) ∧ pm_run PT m fr lo 192 (230, [some (.ref 162), some (.int t1), some (.int t2), some (.int t3), some (.int t4), wc], [], (w192_81 q cc gc z162_20 z162_4 t1 t2 t3 t4 j i h), 198, sl) = some R := by
  intro j
  induction j with
  | zero =>
    intro i h n e eI hw hz hiN e20 e4 hh
    obtain ⟨n, hh⟩ := w192_81_e (q := q) (cc := cc) (gc := gc) hw hz e20 e4 (by omega) (by omega) hh
    exact ⟨n, _, hw, fr_0, e20, (e4.trans (congrArg (fun i => nI (z162_4 + i)) (show i = z162_20 by omega))), hh⟩
  | succ j ih =>
    intro i h n e eI hw hz hiN e20 e4 hh
    obtain ⟨n, hc, hf, e20', e4', hh⟩ := w192_81_s (q := q) (cc := cc) (gc := gc) hw hz e20 e4 (by omega) (by omega) hh
    obtain ⟨n, wc, hc2, hf2, e20'', e4'', hh⟩ := ih (by omega) (by omega) hc hz (by omega) e20' e4' hh
    exact ⟨n, wc, hc2, fr_t hf2 hf, e20'', e4'', hh⟩
theorem w192_81_fb {cc gc : Nat} {q : QT} {h : pm_H} {t1 : Int32} {t2 : Int32} {t3 : Int32} {t4 : Int32} {z162_20 : Nat} {z162_4 : Nat} {i : Nat} (hw : WT h) (hz : z162_4 + z162_20 ≤ 8) : WT ((w192_81b q cc gc h z162_20 z162_4 t1 t2 t3 t4 i)) ∧ frm [162, 166, 167, 168, 170] [(162, 4)] h ((w192_81b q cc gc h z162_20 z162_4 t1 t2 t3 t4 i)) := by
  unfold w192_81b
  show WT (fset (aset (aset (aset (aset h 166 8 (upd (Ar h 166) (z162_4 + i) ((Ar h 173) (4 * i)))) 167 8 (upd (Ar h 167) (z162_4 + i) ((Ar h 173) (4 * i + 1)))) 168 8 (upd (Ar h 168) (z162_4 + i) ((Ar h 173) (4 * i + 2)))) 170 96 (upd (upd (upd (Ar h 170) (78 + (z162_4 + i)) ((Ar h 173) (4 * i + 3))) (86 + (z162_4 + i)) (shl (nI 1) ((Ar h 173) (4 * i + 3)))) 94 (((upd (upd (Ar h 170) (78 + (z162_4 + i)) ((Ar h 173) (4 * i + 3))) (86 + (z162_4 + i)) (shl (nI 1) ((Ar h 173) (4 * i + 3)))) 94) &&& ((shl (nI 1) (nI (z162_4 + i))) ^^^ (Int32.ofInt (-1)))))) 162 4 (.int (nI (z162_4 + i + 1)))) ∧ frm [162, 166, 167, 168, 170] [(162, 4)] h (fset (aset (aset (aset (aset h 166 8 (upd (Ar h 166) (z162_4 + i) ((Ar h 173) (4 * i)))) 167 8 (upd (Ar h 167) (z162_4 + i) ((Ar h 173) (4 * i + 1)))) 168 8 (upd (Ar h 168) (z162_4 + i) ((Ar h 173) (4 * i + 2)))) 170 96 (upd (upd (upd (Ar h 170) (78 + (z162_4 + i)) ((Ar h 173) (4 * i + 3))) (86 + (z162_4 + i)) (shl (nI 1) ((Ar h 173) (4 * i + 3)))) 94 (((upd (upd (Ar h 170) (78 + (z162_4 + i)) ((Ar h 173) (4 * i + 3))) (86 + (z162_4 + i)) (shl (nI 1) ((Ar h 173) (4 * i + 3)))) 94) &&& ((shl (nI 1) (nI (z162_4 + i))) ^^^ (Int32.ofInt (-1)))))) 162 4 (.int (nI (z162_4 + i + 1))))
  exact ⟨(wt_fs rfl (by decide) rfl (wt_as rfl (wt_as rfl (wt_as rfl (wt_as rfl hw))))), (fr_f rfl rfl (fr_a rfl rfl (fr_a rfl rfl (fr_a rfl rfl (fr_a rfl rfl fr_0)))))⟩
theorem w192_81_fr {cc gc : Nat} {q : QT} {t1 : Int32} {t2 : Int32} {t3 : Int32} {t4 : Int32} {z162_20 : Nat} {z162_4 : Nat} (hz : z162_4 + z162_20 ≤ 8) : ∀ {j i : Nat} {h : pm_H}, WT h → WT ((w192_81 q cc gc z162_20 z162_4 t1 t2 t3 t4 j i h)) ∧ frm [162, 166, 167, 168, 170] [(162, 4)] h ((w192_81 q cc gc z162_20 z162_4 t1 t2 t3 t4 j i h)) := by
  intro j
  induction j with
  | zero =>
    intro i h hw
    exact ⟨hw, fr_0⟩
  | succ j ih =>
    intro i h hw
    obtain ⟨a1, a2⟩ := w192_81_fb (i := i) (t1 := t1) (t2 := t2) (t3 := t3) (t4 := t4) (z162_20 := z162_20) (z162_4 := z162_4) hw hz
    obtain ⟨b1, b2⟩ := ih (i := i + 1) a1
    exact ⟨b1, fr_t b2 a2⟩
def w192 (q : QT) (cc gc : Nat) (h : pm_H) (r : Nat) (c : Nat) (F : Int32) (x1 : Int32) (x2 : Int32) (x3 : Int32) : Int32 × pm_H := (nI r, w190 q cc gc (w192_81 q cc gc r c x1 x2 x3 F r 0 h) r)
theorem w192_ok {n fr lo sl cc gc : Nat} {q : QT} {h : pm_H} {R : pm_Rs} {r : Nat} {c : Nat} {F : Int32} {x1 : Int32} {x2 : Int32} {x3 : Int32} (hw : WT h) (hc : c + r ≤ 8) (e20 : Fi h 162 20 = nI r) (e4 : Fi h 162 4 = nI c) (hh : pm_run PT n fr lo 192 (78, [some (.ref 162), some (.int x1), some (.int x2), some (.int x3), some (.int F), none], [], h, 198, sl) = some R) : R = (some (.int ((w192 q cc gc h r c F x1 x2 x3).1)), (w192 q cc gc h r c F x1 x2 x3).2, 198, sl) ∧ WT ((w192 q cc gc h r c F x1 x2 x3).2) ∧ frm [162, 166, 167, 168, 170] [(162, 4), (162, 5), (162, 27)] h ((w192 q cc gc h r c F x1 x2 x3).2) := by
  obtain ⟨n, hh⟩ := rn_i rfl rfl rfl rfl hh
  obtain ⟨n, hh⟩ := rn_i rfl rfl rfl rfl hh
  have hh : pm_run PT n fr lo 192 (81, [some (.ref 162), some (.int x1), some (.int x2), some (.int x3), some (.int F), some (.int (nI 0))], [], h, 198, sl) = some R := hh
  obtain ⟨n, u1, hc4, hf5, hn2, hn3, hh⟩ := w192_81_ok (q := q) (cc := cc) (gc := gc) (t1 := x1) (t2 := x2) (t3 := x3) (t4 := F)  (z162_20 := r) (z162_4 := c) (i := 0) (j := r) (by omega) (by omega) hw (by omega) (by omega) (show Fi (h) 162 20 = nI r from e20) (show Fi (h) 162 4 = nI (c + 0) from e4) hh
  have hh : pm_run PT n fr lo 192 (230, [some (.ref 162), some (.int x1), some (.int x2), some (.int x3), some (.int F), u1], [], (w192_81 q cc gc r c x1 x2 x3 F r 0 h), 198, sl) = some R := hh
  obtain ⟨n, hh⟩ := rn_i rfl rfl rfl rfl hh
  have hh : pm_run PT n fr lo 192 (231, [some (.ref 162), some (.int x1), some (.int x2), some (.int x3), some (.int F), u1], [.ref 162], (w192_81 q cc gc r c x1 x2 x3 F r 0 h), 198, sl) = some R := hh
  obtain ⟨n, fr1, lo1, r1, hh1, hh⟩ := rn_call (w := 0) (t := 190) rfl rfl hh
  obtain ⟨er6, hc7, hf8⟩ := w190_ok (q := q) (cc := cc) (gc := gc) (r := r) hc4 (by omega) hn2 hh1
  subst er6
  obtain ⟨n, hh⟩ := rn_i rfl rfl rfl rfl hh
  have hh : pm_run PT n fr lo 192 (235, [some (.ref 162), some (.int x1), some (.int x2), some (.int x3), some (.int F), u1], [.ref 162], w190 q cc gc (w192_81 q cc gc r c x1 x2 x3 F r 0 h) r, 198, sl) = some R := hh
  obtain ⟨n, hh⟩ := rn_gi (x := nI r) hc7 rfl rfl (by decide) rfl (by decide) rfl ((hf8.2 162 20 (by decide +kernel) rfl).trans hn2) hh
  have hh : pm_run PT n fr lo 192 (238, [some (.ref 162), some (.int x1), some (.int x2), some (.int x3), some (.int F), u1], [.int (nI r)], w190 q cc gc (w192_81 q cc gc r c x1 x2 x3 F r 0 h) r, 198, sl) = some R := hh
  have er9 : R = (some (.int (nI r)), w190 q cc gc (w192_81 q cc gc r c x1 x2 x3 F r 0 h) r, 198, sl) := (rn_ret rfl (Or.inl rfl) hh).2
  have ed : w192 q cc gc h r c F x1 x2 x3 = (nI r, w190 q cc gc (w192_81 q cc gc r c x1 x2 x3 F r 0 h) r) := rfl
  refine ⟨?_, ?_, ?_⟩ <;> rw [ed]
  · exact er9
  · exact hc7
  · exact (fr_g rfl rfl hf8 (fr_g rfl rfl hf5 fr_0))
def w197a_7b (q : QT) (cc gc : Nat) (h : pm_H) (m2 : Nat) (i : Nat) : pm_H := aset h 174 80 (upd (Ar h 174) i ((Ar h 175) i))
def w197a_7 (q : QT) (cc gc : Nat) (m2 : Nat) (j i : Nat) (a : pm_H) : pm_H := lp (fun i a => w197a_7b q cc gc a m2 i) j i a
theorem w197a_7_e {n fr lo sl cc gc : Nat} {q : QT} {h : pm_H} {R : pm_Rs} {m2 : Nat} {i : Nat} (hw : WT h) (h_m2 : m2 < 10000) (hz : m2 ≤ 80) (hi : m2 ≤ i) (hI : i < 1000000) (hh : pm_run PT n fr lo 197 (7, [some (.ref 162), some (.ref 175), some (.int (nI m2)), some (.int (nI i))], [], h, 198, sl) = some R) : ∃ m, pm_run PT m fr lo 197 (27, [some (.ref 162), some (.ref 175), some (.int (nI m2)), some (.int (nI i))], [], h, 198, sl) = some R := by
  obtain ⟨n, hh⟩ := rn_i rfl rfl rfl rfl hh
  obtain ⟨n, hh⟩ := rn_i rfl rfl rfl rfl hh
  have hh : pm_run PT n fr lo 197 (9, [some (.ref 162), some (.ref 175), some (.int (nI m2)), some (.int (nI i))], [.int (nI m2), .int (nI i)], h, 198, sl) = some R := hh
  obtain ⟨n, hh⟩ := en_cn (cc := .ge) (off := 18) (t := 27) (b := decide (m2 ≤ i)) (hI_ge (by omega) (by omega)) rfl rfl hh
  have hh := en_t (show decide (m2 ≤ i) = true from decide_eq_true (by omega)) hh
  have hh : pm_run PT n fr lo 197 (27, [some (.ref 162), some (.ref 175), some (.int (nI m2)), some (.int (nI i))], [], h, 198, sl) = some R := hh
  exact ⟨n, hh⟩
theorem w197a_7_s {n fr lo sl cc gc : Nat} {q : QT} {h : pm_H} {R : pm_Rs} {m2 : Nat} {i : Nat} (hw : WT h) (h_m2 : m2 < 10000) (hz : m2 ≤ 80) (hi : i < m2) (hI : i < 1000000) (hh : pm_run PT n fr lo 197 (7, [some (.ref 162), some (.ref 175), some (.int (nI m2)), some (.int (nI i))], [], h, 198, sl) = some R) : ∃ m, WT ((w197a_7b q cc gc h m2 i)) ∧ frm [174] [] h ((w197a_7b q cc gc h m2 i)) ∧ pm_run PT m fr lo 197 (7, [some (.ref 162), some (.ref 175), some (.int (nI m2)), some (.int (nI (i + 1)))], [], (w197a_7b q cc gc h m2 i), 198, sl) = some R := by
  obtain ⟨n, hh⟩ := rn_i rfl rfl rfl rfl hh
  obtain ⟨n, hh⟩ := rn_i rfl rfl rfl rfl hh
  have hh : pm_run PT n fr lo 197 (9, [some (.ref 162), some (.ref 175), some (.int (nI m2)), some (.int (nI i))], [.int (nI m2), .int (nI i)], h, 198, sl) = some R := hh
  obtain ⟨n, hh⟩ := en_cn (cc := .ge) (off := 18) (t := 27) (b := decide (m2 ≤ i)) (hI_ge (by omega) (by omega)) rfl rfl hh
  have hh := en_f (show decide (m2 ≤ i) = false from decide_eq_false (by omega)) hh
  have hh : pm_run PT n fr lo 197 (12, [some (.ref 162), some (.ref 175), some (.int (nI m2)), some (.int (nI i))], [], h, 198, sl) = some R := hh
  obtain ⟨n, hh⟩ := rn_i rfl rfl rfl rfl hh
  have hh : pm_run PT n fr lo 197 (13, [some (.ref 162), some (.ref 175), some (.int (nI m2)), some (.int (nI i))], [.ref 162], h, 198, sl) = some R := hh
  obtain ⟨n, hh⟩ := rn_gr hw rfl rfl (by decide) rfl (by decide) (show _ = some (2, ((174 : Nat) : Int), 1) from rfl) rfl hh
  obtain ⟨n, hh⟩ := rn_i rfl rfl rfl rfl hh
  obtain ⟨n, hh⟩ := rn_i rfl rfl rfl rfl hh
  obtain ⟨n, hh⟩ := rn_i rfl rfl rfl rfl hh
  have hh : pm_run PT n fr lo 197 (19, [some (.ref 162), some (.ref 175), some (.int (nI m2)), some (.int (nI i))], [.int (nI i), .ref 175, .int (nI i), .ref 174], h, 198, sl) = some R := hh
  obtain ⟨n, hx1, hh⟩ := en_lu (t := i) (f := Ar h 175) (w := (Ar h 175) i) (nI_clamp (by omega)) hw rfl (by decide) rfl (by decide) rfl (fun _ => rfl) hh
  have hh : pm_run PT n fr lo 197 (20, [some (.ref 162), some (.ref 175), some (.int (nI m2)), some (.int (nI i))], [.int ((Ar h 175) i), .int (nI i), .ref 174], h, 198, sl) = some R := hh
  obtain ⟨n, hx2, hh⟩ := en_st (t := i) (f := Ar h 174) (nI_clamp (by omega)) hw rfl (by decide) rfl (by decide) rfl hh
  have hh : pm_run PT n fr lo 197 (21, [some (.ref 162), some (.ref 175), some (.int (nI m2)), some (.int (nI i))], [], aset h 174 80 (upd (Ar h 174) i ((Ar h 175) i)), 198, sl) = some R := hh
  obtain ⟨n, hh⟩ := en_inc (x := i) (c := 1) (j := 3) rfl rfl (by decide) hh
  have hh : pm_run PT n fr lo 197 (24, [some (.ref 162), some (.ref 175), some (.int (nI m2)), some (.int (nI (i + 1)))], [], aset h 174 80 (upd (Ar h 174) i ((Ar h 175) i)), 198, sl) = some R := hh
  obtain ⟨n, hh⟩ := rn_i rfl rfl rfl rfl hh
  have ed : w197a_7b q cc gc h m2 i = aset h 174 80 (upd (Ar h 174) i ((Ar h 175) i)) := rfl
  rw [ed]
  exact ⟨n, (wt_as rfl hw), (fr_a rfl rfl fr_0), hh⟩
theorem w197a_7_ok {fr lo sl cc gc : Nat} {q : QT} {R : pm_Rs} {m2 : Nat} : ∀ {j i : Nat} {h : pm_H} {n : Nat}, m2 - i = j → i + j < 1000000 → WT h → m2 < 10000 → m2 ≤ 80 → pm_run PT n fr lo 197 (7, [some (.ref 162), some (.ref 175), some (.int (nI m2)), some (.int (nI i))], [], h, 198, sl) = some R → ∃ m wc, WT ((w197a_7 q cc gc m2 j i h)) ∧ frm [174] [] h ((w197a_7 q cc gc m2 j i h)) ∧ pm_run PT m fr lo 197 (27, [some (.ref 162), some (.ref 175), some (.int (nI m2)), wc], [], (w197a_7 q cc gc m2 j i h), 198, sl) = some R := by
  intro j
  induction j with
  | zero =>
    intro i h n e eI hw h_m2 hz hh
    obtain ⟨n, hh⟩ := w197a_7_e (q := q) (cc := cc) (gc := gc) hw h_m2 hz (by omega) (by omega) hh
    exact ⟨n, _, hw, fr_0, hh⟩
  | succ j ih =>
    intro i h n e eI hw h_m2 hz hh
    obtain ⟨n, hc, hf, hh⟩ := w197a_7_s (q := q) (cc := cc) (gc := gc) hw h_m2 hz (by omega) (by omega) hh
    obtain ⟨n, wc, hc2, hf2, hh⟩ := ih (by omega) (by omega) hc h_m2 hz hh
    exact ⟨n, wc, hc2, fr_t hf2 hf, hh⟩
theorem w197a_7_fb {cc gc : Nat} {q : QT} {h : pm_H} {m2 : Nat} {i : Nat} (hw : WT h) (hz : m2 ≤ 80) : WT ((w197a_7b q cc gc h m2 i)) ∧ frm [174] [] h ((w197a_7b q cc gc h m2 i)) := by
  unfold w197a_7b
  show WT (aset h 174 80 (upd (Ar h 174) i ((Ar h 175) i))) ∧ frm [174] [] h (aset h 174 80 (upd (Ar h 174) i ((Ar h 175) i)))
  exact ⟨(wt_as rfl hw), (fr_a rfl rfl fr_0)⟩
theorem w197a_7_fr {cc gc : Nat} {q : QT} {m2 : Nat} (hz : m2 ≤ 80) : ∀ {j i : Nat} {h : pm_H}, WT h → WT ((w197a_7 q cc gc m2 j i h)) ∧ frm [174] [] h ((w197a_7 q cc gc m2 j i h)) := by
  intro j
  induction j with
  | zero =>
    intro i h hw
    exact ⟨hw, fr_0⟩
  | succ j ih =>
    intro i h hw
    obtain ⟨a1, a2⟩ := w197a_7_fb (i := i) (m2 := m2) hw hz
    obtain ⟨b1, b2⟩ := ih (i := i + 1) a1
    exact ⟨b1, fr_t b2 a2⟩
def w197a (q : QT) (cc gc : Nat) (h : pm_H) (m : Nat) : pm_H := (w197a_7 q cc gc m m 0 (fset h 162 23 (.int (nI m))))
theorem w197a_ok {n fr lo sl cc gc : Nat} {q : QT} {h : pm_H} {R : pm_Rs} {m : Nat} (hw : WT h) (h_m : m < 81) (hm : m ≤ 80) (hh : pm_run PT n fr lo 197 (0, pm_l0 [.ref 162, .ref 175, .int (nI m)] 4, [], h, 198, sl) = some R) : R = (none, w197a q cc gc h m, 198, sl) ∧ WT (w197a q cc gc h m) ∧ frm [162, 174] [(162, 23)] h (w197a q cc gc h m) := by
  obtain ⟨n, hh⟩ := rn_i rfl rfl rfl rfl hh
  obtain ⟨n, hh⟩ := rn_i rfl rfl rfl rfl hh
  have hh : pm_run PT n fr lo 197 (2, [some (.ref 162), some (.ref 175), some (.int (nI m)), none], [.int (nI m), .ref 162], h, 198, sl) = some R := hh
  obtain ⟨n, hh⟩ := rn_pi hw rfl rfl (by decide) rfl (by decide) rfl hh
  obtain ⟨n, hh⟩ := rn_i rfl rfl rfl rfl hh
  obtain ⟨n, hh⟩ := rn_i rfl rfl rfl rfl hh
  have hh : pm_run PT n fr lo 197 (7, [some (.ref 162), some (.ref 175), some (.int (nI m)), some (.int (nI 0))], [], fset h 162 23 (.int (nI m)), 198, sl) = some R := hh
  obtain ⟨n, u1, hc2, hf3, hh⟩ := w197a_7_ok (q := q) (cc := cc) (gc := gc) (m2 := m)  (i := 0) (j := m) (by omega) (by omega) (wt_fs rfl (by decide) rfl hw) (by omega) hm hh
  have hh : pm_run PT n fr lo 197 (27, [some (.ref 162), some (.ref 175), some (.int (nI m)), u1], [], (w197a_7 q cc gc m m 0 (fset h 162 23 (.int (nI m)))), 198, sl) = some R := hh
  have er4 : R = (none, (w197a_7 q cc gc m m 0 (fset h 162 23 (.int (nI m)))), 198, sl) := rn_vret rfl rfl hh
  have ed : w197a q cc gc h m = (w197a_7 q cc gc m m 0 (fset h 162 23 (.int (nI m)))) := rfl
  refine ⟨?_, ?_, ?_⟩ <;> rw [ed]
  · exact er4
  · exact hc2
  · exact (fr_g rfl rfl hf3 (fr_f rfl rfl fr_0))
def w197b_7b (q : QT) (cc gc : Nat) (h : pm_H) (m2 : Nat) (i : Nat) : pm_H := aset h 174 80 (upd (Ar h 174) i ((Ar h 193) i))
def w197b_7 (q : QT) (cc gc : Nat) (m2 : Nat) (j i : Nat) (a : pm_H) : pm_H := lp (fun i a => w197b_7b q cc gc a m2 i) j i a
theorem w197b_7_e {n fr lo sl cc gc : Nat} {q : QT} {h : pm_H} {R : pm_Rs} {m2 : Nat} {i : Nat} (hw : WT h) (h_m2 : m2 < 10000) (hz : m2 ≤ 80) (hi : m2 ≤ i) (hI : i < 1000000) (hh : pm_run PT n fr lo 197 (7, [some (.ref 162), some (.ref 193), some (.int (nI m2)), some (.int (nI i))], [], h, 198, sl) = some R) : ∃ m, pm_run PT m fr lo 197 (27, [some (.ref 162), some (.ref 193), some (.int (nI m2)), some (.int (nI i))], [], h, 198, sl) = some R := by
  obtain ⟨n, hh⟩ := rn_i rfl rfl rfl rfl hh
  obtain ⟨n, hh⟩ := rn_i rfl rfl rfl rfl hh
  have hh : pm_run PT n fr lo 197 (9, [some (.ref 162), some (.ref 193), some (.int (nI m2)), some (.int (nI i))], [.int (nI m2), .int (nI i)], h, 198, sl) = some R := hh
  obtain ⟨n, hh⟩ := en_cn (cc := .ge) (off := 18) (t := 27) (b := decide (m2 ≤ i)) (hI_ge (by omega) (by omega)) rfl rfl hh
  have hh := en_t (show decide (m2 ≤ i) = true from decide_eq_true (by omega)) hh
  have hh : pm_run PT n fr lo 197 (27, [some (.ref 162), some (.ref 193), some (.int (nI m2)), some (.int (nI i))], [], h, 198, sl) = some R := hh
  exact ⟨n, hh⟩
theorem w197b_7_s {n fr lo sl cc gc : Nat} {q : QT} {h : pm_H} {R : pm_Rs} {m2 : Nat} {i : Nat} (hw : WT h) (h_m2 : m2 < 10000) (hz : m2 ≤ 80) (hi : i < m2) (hI : i < 1000000) (hh : pm_run PT n fr lo 197 (7, [some (.ref 162), some (.ref 193), some (.int (nI m2)), some (.int (nI i))], [], h, 198, sl) = some R) : ∃ m, WT ((w197b_7b q cc gc h m2 i)) ∧ frm [174] [] h ((w197b_7b q cc gc h m2 i)) ∧ pm_run PT m fr lo 197 (7, [some (.ref 162), some (.ref 193), some (.int (nI m2)), some (.int (nI (i + 1)))], [], (w197b_7b q cc gc h m2 i), 198, sl) = some R := by
  obtain ⟨n, hh⟩ := rn_i rfl rfl rfl rfl hh
  obtain ⟨n, hh⟩ := rn_i rfl rfl rfl rfl hh
  have hh : pm_run PT n fr lo 197 (9, [some (.ref 162), some (.ref 193), some (.int (nI m2)), some (.int (nI i))], [.int (nI m2), .int (nI i)], h, 198, sl) = some R := hh
  obtain ⟨n, hh⟩ := en_cn (cc := .ge) (off := 18) (t := 27) (b := decide (m2 ≤ i)) (hI_ge (by omega) (by omega)) rfl rfl hh
  have hh := en_f (show decide (m2 ≤ i) = false from decide_eq_false (by omega)) hh
  have hh : pm_run PT n fr lo 197 (12, [some (.ref 162), some (.ref 193), some (.int (nI m2)), some (.int (nI i))], [], h, 198, sl) = some R := hh
  obtain ⟨n, hh⟩ := rn_i rfl rfl rfl rfl hh
  have hh : pm_run PT n fr lo 197 (13, [some (.ref 162), some (.ref 193), some (.int (nI m2)), some (.int (nI i))], [.ref 162], h, 198, sl) = some R := hh
  obtain ⟨n, hh⟩ := rn_gr hw rfl rfl (by decide) rfl (by decide) (show _ = some (2, ((174 : Nat) : Int), 1) from rfl) rfl hh
  obtain ⟨n, hh⟩ := rn_i rfl rfl rfl rfl hh
  obtain ⟨n, hh⟩ := rn_i rfl rfl rfl rfl hh
  obtain ⟨n, hh⟩ := rn_i rfl rfl rfl rfl hh
  have hh : pm_run PT n fr lo 197 (19, [some (.ref 162), some (.ref 193), some (.int (nI m2)), some (.int (nI i))], [.int (nI i), .ref 193, .int (nI i), .ref 174], h, 198, sl) = some R := hh
  obtain ⟨n, hx1, hh⟩ := en_lu (t := i) (f := Ar h 193) (w := (Ar h 193) i) (nI_clamp (by omega)) hw rfl (by decide) rfl (by decide) rfl (fun _ => rfl) hh
  have hh : pm_run PT n fr lo 197 (20, [some (.ref 162), some (.ref 193), some (.int (nI m2)), some (.int (nI i))], [.int ((Ar h 193) i), .int (nI i), .ref 174], h, 198, sl) = some R := hh
  obtain ⟨n, hx2, hh⟩ := en_st (t := i) (f := Ar h 174) (nI_clamp (by omega)) hw rfl (by decide) rfl (by decide) rfl hh
  have hh : pm_run PT n fr lo 197 (21, [some (.ref 162), some (.ref 193), some (.int (nI m2)), some (.int (nI i))], [], aset h 174 80 (upd (Ar h 174) i ((Ar h 193) i)), 198, sl) = some R := hh
  obtain ⟨n, hh⟩ := en_inc (x := i) (c := 1) (j := 3) rfl rfl (by decide) hh
  have hh : pm_run PT n fr lo 197 (24, [some (.ref 162), some (.ref 193), some (.int (nI m2)), some (.int (nI (i + 1)))], [], aset h 174 80 (upd (Ar h 174) i ((Ar h 193) i)), 198, sl) = some R := hh
  obtain ⟨n, hh⟩ := rn_i rfl rfl rfl rfl hh
  have ed : w197b_7b q cc gc h m2 i = aset h 174 80 (upd (Ar h 174) i ((Ar h 193) i)) := rfl
  rw [ed]
  exact ⟨n, (wt_as rfl hw), (fr_a rfl rfl fr_0), hh⟩
theorem w197b_7_ok {fr lo sl cc gc : Nat} {q : QT} {R : pm_Rs} {m2 : Nat} : ∀ {j i : Nat} {h : pm_H} {n : Nat}, m2 - i = j → i + j < 1000000 → WT h → m2 < 10000 → m2 ≤ 80 → pm_run PT n fr lo 197 (7, [some (.ref 162), some (.ref 193), some (.int (nI m2)), some (.int (nI i))], [], h, 198, sl) = some R → ∃ m wc, WT ((w197b_7 q cc gc m2 j i h)) ∧ frm [174] [] h ((w197b_7 q cc gc m2 j i h)) ∧ pm_run PT m fr lo 197 (27, [some (.ref 162), some (.ref 193), some (.int (nI m2)), wc], [], (w197b_7 q cc gc m2 j i h), 198, sl) = some R := by
  intro j
  induction j with
  | zero =>
    intro i h n e eI hw h_m2 hz hh
    obtain ⟨n, hh⟩ := w197b_7_e (q := q) (cc := cc) (gc := gc) hw h_m2 hz (by omega) (by omega) hh
    exact ⟨n, _, hw, fr_0, hh⟩
  | succ j ih =>
    intro i h n e eI hw h_m2 hz hh
    obtain ⟨n, hc, hf, hh⟩ := w197b_7_s (q := q) (cc := cc) (gc := gc) hw h_m2 hz (by omega) (by omega) hh
    obtain ⟨n, wc, hc2, hf2, hh⟩ := ih (by omega) (by omega) hc h_m2 hz hh
    exact ⟨n, wc, hc2, fr_t hf2 hf, hh⟩
theorem w197b_7_fb {cc gc : Nat} {q : QT} {h : pm_H} {m2 : Nat} {i : Nat} (hw : WT h) (hz : m2 ≤ 80) : WT ((w197b_7b q cc gc h m2 i)) ∧ frm [174] [] h ((w197b_7b q cc gc h m2 i)) := by
  unfold w197b_7b
  show WT (aset h 174 80 (upd (Ar h 174) i ((Ar h 193) i))) ∧ frm [174] [] h (aset h 174 80 (upd (Ar h 174) i ((Ar h 193) i)))
  exact ⟨(wt_as rfl hw), (fr_a rfl rfl fr_0)⟩
theorem w197b_7_fr {cc gc : Nat} {q : QT} {m2 : Nat} (hz : m2 ≤ 80) : ∀ {j i : Nat} {h : pm_H}, WT h → WT ((w197b_7 q cc gc m2 j i h)) ∧ frm [174] [] h ((w197b_7 q cc gc m2 j i h)) := by
  intro j
  induction j with
  | zero =>
    intro i h hw
    exact ⟨hw, fr_0⟩
  | succ j ih =>
    intro i h hw
    obtain ⟨a1, a2⟩ := w197b_7_fb (i := i) (m2 := m2) hw hz
    obtain ⟨b1, b2⟩ := ih (i := i + 1) a1
    exact ⟨b1, fr_t b2 a2⟩
def w197b (q : QT) (cc gc : Nat) (h : pm_H) (m : Nat) : pm_H := (w197b_7 q cc gc m m 0 (fset h 162 23 (.int (nI m))))
theorem w197b_ok {n fr lo sl cc gc : Nat} {q : QT} {h : pm_H} {R : pm_Rs} {m : Nat} (hw : WT h) (h_m : m < 81) (hm : m ≤ 80) (hh : pm_run PT n fr lo 197 (0, pm_l0 [.ref 162, .ref 193, .int (nI m)] 4, [], h, 198, sl) = some R) : R = (none, w197b q cc gc h m, 198, sl) ∧ WT (w197b q cc gc h m) ∧ frm [162, 174] [(162, 23)] h (w197b q cc gc h m) := by
  obtain ⟨n, hh⟩ := rn_i rfl rfl rfl rfl hh
  obtain ⟨n, hh⟩ := rn_i rfl rfl rfl rfl hh
  have hh : pm_run PT n fr lo 197 (2, [some (.ref 162), some (.ref 193), some (.int (nI m)), none], [.int (nI m), .ref 162], h, 198, sl) = some R := hh
  obtain ⟨n, hh⟩ := rn_pi hw rfl rfl (by decide) rfl (by decide) rfl hh
  obtain ⟨n, hh⟩ := rn_i rfl rfl rfl rfl hh
  obtain ⟨n, hh⟩ := rn_i rfl rfl rfl rfl hh
  have hh : pm_run PT n fr lo 197 (7, [some (.ref 162), some (.ref 193), some (.int (nI m)), some (.int (nI 0))], [], fset h 162 23 (.int (nI m)), 198, sl) = some R := hh
  obtain ⟨n, u1, hc2, hf3, hh⟩ := w197b_7_ok (q := q) (cc := cc) (gc := gc) (m2 := m)  (i := 0) (j := m) (by omega) (by omega) (wt_fs rfl (by decide) rfl hw) (by omega) hm hh
  have hh : pm_run PT n fr lo 197 (27, [some (.ref 162), some (.ref 193), some (.int (nI m)), u1], [], (w197b_7 q cc gc m m 0 (fset h 162 23 (.int (nI m)))), 198, sl) = some R := hh
  have er4 : R = (none, (w197b_7 q cc gc m m 0 (fset h 162 23 (.int (nI m)))), 198, sl) := rn_vret rfl rfl hh
  have ed : w197b q cc gc h m = (w197b_7 q cc gc m m 0 (fset h 162 23 (.int (nI m)))) := rfl
  refine ⟨?_, ?_, ?_⟩ <;> rw [ed]
  · exact er4
  · exact hc2
  · exact (fr_g rfl rfl hf3 (fr_f rfl rfl fr_0))
def w258_35b (q : QT) (cc gc : Nat) (h : pm_H) (z162_23 : Nat) (t1 : Int32) (t2 : Int32) (t3 : Int32) (i : Nat) : pm_H := aset h 193 80 (upd (Ar h 193) i ((Ar h 174) i))
def w258_35 (q : QT) (cc gc : Nat) (z162_23 : Nat) (t1 : Int32) (t2 : Int32) (t3 : Int32) (j i : Nat) (a : pm_H) : pm_H := lp (fun i a => w258_35b q cc gc a z162_23 t1 t2 t3 i) j i a
theorem w258_35_e {n fr lo sl cc gc : Nat} {q : QT} {h : pm_H} {R : pm_Rs} {z162_23 : Nat} {t1 : Int32} {t2 : Int32} {t3 : Int32} {i : Nat} (hw : WT h) (hz : z162_23 ≤ 80) (e23 : Fi h 162 23 = nI z162_23) (hi : z162_23 ≤ i) (hI : i < 1000000) (hh : pm_run PT n fr lo 258 (35, [some (.ref 162), some (.int t1), some (.int t2), some (.int t3), some (.int (nI i))], [], h, 198, sl) = some R) : ∃ m, pm_run PT m fr lo 258 (64, [some (.ref 162), some (.int t1), some (.int t2), some (.int t3), some (.int (nI i))], [], h, 198, sl) = some R := by
  obtain ⟨n, hh⟩ := rn_i rfl rfl rfl rfl hh
  obtain ⟨n, hh⟩ := rn_i rfl rfl rfl rfl hh
  have hh : pm_run PT n fr lo 258 (38, [some (.ref 162), some (.int t1), some (.int t2), some (.int t3), some (.int (nI i))], [.ref 162, .int (nI i)], h, 198, sl) = some R := hh
  obtain ⟨n, hh⟩ := rn_gi (x := nI z162_23) hw rfl rfl (by decide) rfl (by decide) rfl e23 hh
  have hh : pm_run PT n fr lo 258 (41, [some (.ref 162), some (.int t1), some (.int t2), some (.int t3), some (.int (nI i))], [.int (nI z162_23), .int (nI i)], h, 198, sl) = some R := hh
  obtain ⟨n, hh⟩ := en_cn (cc := .ge) (off := 23) (t := 64) (b := decide (z162_23 ≤ i)) (hI_ge (by omega) (by omega)) rfl rfl hh
  have hh := en_t (show decide (z162_23 ≤ i) = true from decide_eq_true (by omega)) hh
  have hh : pm_run PT n fr lo 258 (64, [some (.ref 162), some (.int t1), some (.int t2), some (.int t3), some (.int (nI i))], [], h, 198, sl) = some R := hh
  exact ⟨n, hh⟩
theorem w258_35_s {n fr lo sl cc gc : Nat} {q : QT} {h : pm_H} {R : pm_Rs} {z162_23 : Nat} {t1 : Int32} {t2 : Int32} {t3 : Int32} {i : Nat} (hw : WT h) (hz : z162_23 ≤ 80) (e23 : Fi h 162 23 = nI z162_23) (hi : i < z162_23) (hI : i < 1000000) (hh : pm_run PT n fr lo 258 (35, [some (.ref 162), some (.int t1), some (.int t2), some (.int t3), some (.int (nI i))], [], h, 198, sl) = some R) : ∃ m, WT ((w258_35b q cc gc h z162_23 t1 t2 t3 i)) ∧ frm [193] [] h ((w258_35b q cc gc h z162_23 t1 t2 t3 i)) ∧ Fi ((w258_35b q cc gc h z162_23 t1 t2 t3 i)) 162 23 = nI z162_23 ∧ pm_run PT m fr lo 258 (35, [some (.ref 162), some (.int t1), some (.int t2), some (.int t3), some (.int (nI (i + 1)))], [], (w258_35b q cc gc h z162_23 t1 t2 t3 i), 198, sl) = some R := by
  obtain ⟨n, hh⟩ := rn_i rfl rfl rfl rfl hh
  obtain ⟨n, hh⟩ := rn_i rfl rfl rfl rfl hh
  have hh : pm_run PT n fr lo 258 (38, [some (.ref 162), some (.int t1), some (.int t2), some (.int t3), some (.int (nI i))], [.ref 162, .int (nI i)], h, 198, sl) = some R := hh
  obtain ⟨n, hh⟩ := rn_gi (x := nI z162_23) hw rfl rfl (by decide) rfl (by decide) rfl e23 hh
  have hh : pm_run PT n fr lo 258 (41, [some (.ref 162), some (.int t1), some (.int t2), some (.int t3), some (.int (nI i))], [.int (nI z162_23), .int (nI i)], h, 198, sl) = some R := hh
  obtain ⟨n, hh⟩ := en_cn (cc := .ge) (off := 23) (t := 64) (b := decide (z162_23 ≤ i)) (hI_ge (by omega) (by omega)) rfl rfl hh
  have hh := en_f (show decide (z162_23 ≤ i) = false from decide_eq_false (by omega)) hh
  have hh : pm_run PT n fr lo 258 (44, [some (.ref 162), some (.int t1), some (.int t2), some (.int t3), some (.int (nI i))], [], h, 198, sl) = some R := hh
  obtain ⟨n, hh⟩ := rn_i rfl rfl rfl rfl hh
  have hh : pm_run PT n fr lo 258 (45, [some (.ref 162), some (.int t1), some (.int t2), some (.int t3), some (.int (nI i))], [.ref 162], h, 198, sl) = some R := hh
  obtain ⟨n, hh⟩ := rn_gr hw rfl rfl (by decide) rfl (by decide) (show _ = some (2, ((193 : Nat) : Int), 1) from rfl) rfl hh
  obtain ⟨n, hh⟩ := rn_i rfl rfl rfl rfl hh
  obtain ⟨n, hh⟩ := rn_i rfl rfl rfl rfl hh
  have hh : pm_run PT n fr lo 258 (51, [some (.ref 162), some (.int t1), some (.int t2), some (.int t3), some (.int (nI i))], [.ref 162, .int (nI i), .ref 193], h, 198, sl) = some R := hh
  obtain ⟨n, hh⟩ := rn_gr hw rfl rfl (by decide) rfl (by decide) (show _ = some (2, ((174 : Nat) : Int), 1) from rfl) rfl hh
  obtain ⟨n, hh⟩ := rn_i rfl rfl rfl rfl hh
  have hh : pm_run PT n fr lo 258 (56, [some (.ref 162), some (.int t1), some (.int t2), some (.int t3), some (.int (nI i))], [.int (nI i), .ref 174, .int (nI i), .ref 193], h, 198, sl) = some R := hh
  obtain ⟨n, hx1, hh⟩ := en_lu (t := i) (f := Ar h 174) (w := (Ar h 174) i) (nI_clamp (by omega)) hw rfl (by decide) rfl (by decide) rfl (fun _ => rfl) hh
  have hh : pm_run PT n fr lo 258 (57, [some (.ref 162), some (.int t1), some (.int t2), some (.int t3), some (.int (nI i))], [.int ((Ar h 174) i), .int (nI i), .ref 193], h, 198, sl) = some R := hh
  obtain ⟨n, hx2, hh⟩ := en_st (t := i) (f := Ar h 193) (nI_clamp (by omega)) hw rfl (by decide) rfl (by decide) rfl hh
  have hh : pm_run PT n fr lo 258 (58, [some (.ref 162), some (.int t1), some (.int t2), some (.int t3), some (.int (nI i))], [], aset h 193 80 (upd (Ar h 193) i ((Ar h 174) i)), 198, sl) = some R := hh
  obtain ⟨n, hh⟩ := en_inc (x := i) (c := 1) (j := 4) rfl rfl (by decide) hh
  have hh : pm_run PT n fr lo 258 (61, [some (.ref 162), some (.int t1), some (.int t2), some (.int t3), some (.int (nI (i + 1)))], [], aset h 193 80 (upd (Ar h 193) i ((Ar h 174) i)), 198, sl) = some R := hh
  obtain ⟨n, hh⟩ := rn_i rfl rfl rfl rfl hh
  have ed : w258_35b q cc gc h z162_23 t1 t2 t3 i = aset h 193 80 (upd (Ar h 193) i ((Ar h 174) i)) := rfl
  rw [ed]
  exact ⟨n, (wt_as rfl hw), (fr_a rfl rfl fr_0), (show Fi (aset h 193 80 (upd (Ar h 193) i ((Ar h 174) i))) 162 23 = nI z162_23 from ((Fi_a (by decide)).trans e23)), hh⟩
theorem w258_35_ok {fr lo sl cc gc : Nat} {q : QT} {R : pm_Rs} {z162_23 : Nat} {t1 : Int32} {t2 : Int32} {t3 : Int32} : ∀ {j i : Nat} {h : pm_H} {n : Nat}, z162_23 - i = j → i + j < 1000000 → WT h → z162_23 ≤ 80 → Fi h 162 23 = nI z162_23 → pm_run PT n fr lo 258 (35, [some (.ref 162), some (.int t1), some (.int t2), some (.int t3), some (.int (nI i))], [], h, 198, sl) = some R → ∃ m wc, WT ((w258_35 q cc gc z162_23 t1 t2 t3 j i h)) ∧ frm [193] [] h ((w258_35 q cc gc z162_23 t1 t2 t3 j i h)) ∧ Fi ((w258_35 q cc gc z162_23 t1 t2 t3 j i h)) 162 23 = nI z162_23 ∧ pm_run PT m fr lo 258 (64, [some (.ref 162), some (.int t1), some (.int t2), some (.int t3), wc], [], (w258_35 q cc gc z162_23 t1 t2 t3 j i h), 198, sl) = some R := by
  intro j
  induction j with
  | zero =>
    intro i h n e eI hw hz e23 hh
    obtain ⟨n, hh⟩ := w258_35_e (q := q) (cc := cc) (gc := gc) hw hz e23 (by omega) (by omega) hh
    exact ⟨n, _, hw, fr_0, e23, hh⟩
  | succ j ih =>
    intro i h n e eI hw hz e23 hh
    obtain ⟨n, hc, hf, e23', hh⟩ := w258_35_s (q := q) (cc := cc) (gc := gc) hw hz e23 (by omega) (by omega) hh
    obtain ⟨n, wc, hc2, hf2, e23'', hh⟩ := ih (by omega) (by omega) hc hz e23' hh
    exact ⟨n, wc, hc2, fr_t hf2 hf, e23'', hh⟩
end EK
end MH95zzyjx0
section MH95zzyjx1
section MG95zzykx0
/-! readCourts of the class: what it notes -/
section VAX
variable {n fr lo sl n0 cc ln i : Nat} {h g0 : pm_H} {R : pm_Rs} {f A0 B0 A B : Nat → Int32} {d : Int32}
/-- ln whole lines and i digits of the next are noted behind the cc courts that there are -/
def vI (cc : Nat) (f A0 B0 A B : Nat → Int32) (ln i : Nat) : Prop := ((∀ c, c < cc → A c = A0 c) ∧ ∀ j, j < 5 * cc → B j = B0 j) ∧ (∀ k, k < ln → A (cc + k) = f (7 * k) - nI 48 ∧ ∀ j, j < 5 → B (5 * (cc + k) + j) = f (7 * k + 1 + j) - nI 48) ∧ (0 < i → A (cc + ln) = f (7 * ln) - nI 48) ∧ ∀ j, j + 1 < i → B (5 * (cc + ln) + j) = f (7 * ln + 1 + j) - nI 48
theorem vI_rank (v : vI cc f A0 B0 A B ln 0) : vI cc f A0 B0 (upd A (cc + ln) (f (7 * ln) - nI 48)) B ln 1 := by
  obtain ⟨⟨a1, a2⟩, a3, -, -⟩ := v
  have un : ∀ c, c ≠ cc + ln → upd A (cc + ln) (f (7 * ln) - nI 48) c = A c := fun c z => by unfold upd; rw [if_neg z]
  refine ⟨⟨fun c hc => (un c (by omega)).trans (a1 c hc), a2⟩, fun k hk => ⟨(un _ (by omega)).trans (a3 k hk).1, (a3 k hk).2⟩, fun _ => ?_, fun j hj => by omega⟩
  unfold upd
  rw [if_pos rfl]
theorem vI_taste {i : Nat} (hi : i < 5) (v : vI cc f A0 B0 A B ln (i + 1)) : vI cc f A0 B0 A (upd B (5 * (cc + ln) + i) (f (7 * ln + 1 + i) - nI 48)) ln (i + 2) := by
  obtain ⟨⟨a1, a2⟩, a3, a4, a5⟩ := v
  have un : ∀ c, c ≠ 5 * (cc + ln) + i → upd B (5 * (cc + ln) + i) (f (7 * ln + 1 + i) - nI 48) c = B c := fun c z => by unfold upd; rw [if_neg z]
  refine ⟨⟨a1, fun j hj => (un j (by omega)).trans (a2 j hj)⟩, fun k hk => ⟨(a3 k hk).1, fun j hj => (un _ (by omega)).trans ((a3 k hk).2 j hj)⟩, fun _ => a4 (by omega), fun j hj => ?_⟩
  by_cases z : j = i
  · subst z
    unfold upd
    rw [if_pos rfl]
  · exact (un _ (by omega)).trans (a5 j (by omega))
theorem vI_line (v : vI cc f A0 B0 A B ln 6) : vI cc f A0 B0 A B (ln + 1) 0 := by
  obtain ⟨a1, a3, a4, a5⟩ := v
  refine ⟨a1, fun k hk => ?_, fun q => by omega, fun j hj => by omega⟩
  by_cases z : k = ln
  · subst z
    exact ⟨a4 (by omega), fun j hj => a5 j (by omega)⟩
  · exact a3 k (by omega)
theorem vI_0 (v : vI cc f A0 B0 A B ln i) : vI cc f A0 B0 A B 0 0 := ⟨v.1, fun k hk => by omega, fun q => by omega, fun j hj => by omega⟩
def svX (g0 h : pm_H) (n0 cc : Nat) (f A B : Nat → Int32) : Prop := pX h n0 cc f ∧ (∃ rs, h 5 = .inr (3, rs) ∧ rs[2]? = some (.ref 6) ∧ rs[3]? = some (.ref 7) ∧ WT h ∧ ∀ i, i ≠ 6 → i ≠ 7 → h i = g0 i) ∧ h 6 = .inl (0, 6, .inl A) ∧ h 7 = .inl (0, 30, .inl B)
theorem pX_as {a m : Nat} {g : Nat → Int32} (h0 : a ≠ 0) (h1 : a ≠ 1) (h2 : a ≠ 2) (h5 : a ≠ 5) (x : pX h n0 cc f) : pX (aset h a m g) n0 cc f := by
  obtain ⟨⟨fs, a1, a2⟩, ⟨gs, b1, b2⟩, c1, rs, d1, d2⟩ := x
  exact ⟨⟨fs, (asR_ne (Ne.symm h0)).trans a1, a2⟩, ⟨gs, (asR_ne (Ne.symm h1)).trans b1, b2⟩, (asR_ne (Ne.symm h2)).trans c1, rs, (asR_ne (Ne.symm h5)).trans d1, d2⟩
theorem svX_6 {A' : Nat → Int32} (x : svX g0 h n0 cc f A B) : svX g0 (aset h 6 6 A') n0 cc f A' B := by
  obtain ⟨p, ⟨rs, r1, r2, r3, wt, fr⟩, -, k7⟩ := x
  exact ⟨pX_as (by decide) (by decide) (by decide) (by decide) p, ⟨rs, (asR_ne (by decide)).trans r1, r2, r3, wt_as rfl wt, fun i h6 h7 => (asR_ne h6).trans (fr i h6 h7)⟩, asR_self, (asR_ne (by decide)).trans k7⟩
theorem svX_7 {B' : Nat → Int32} (x : svX g0 h n0 cc f A B) : svX g0 (aset h 7 30 B') n0 cc f A B' := by
  obtain ⟨p, ⟨rs, r1, r2, r3, wt, fr⟩, k6, -⟩ := x
  exact ⟨pX_as (by decide) (by decide) (by decide) (by decide) p, ⟨rs, (asR_ne (by decide)).trans r1, r2, r3, wt_as rfl wt, fun i h6 h7 => (asR_ne h7).trans (fr i h6 h7)⟩, (asR_ne (by decide)).trans k6, asR_self⟩
theorem nc_0 {c : Nat} (hc : c < 1000) (x : svX g0 h n0 cc f A B) (hh : pm_run PT n fr lo 26 (0, pm_l0 [.ref 5, .int (nI c), .int (nI 0), .int d] 4, [], h, 198, sl) = some R) : R = (none, aset h 6 6 (upd A c d), 198, sl) := by
  obtain ⟨-, ⟨rs, r1, r2, r3⟩, k6, k7⟩ := x
  obtain ⟨n, hh⟩ := rn_i rfl rfl rfl rfl hh
  obtain ⟨n, hh⟩ := rn_if (cc := .ne) (off := 13) (t := 14) rfl rfl hh
  have hh : pm_run PT n fr lo 26 (4, [some (.ref 5), some (.int (nI c)), some (.int (nI 0)), some (.int d)], [], h, 198, sl) = some R := hh
  obtain ⟨n, hh⟩ := rn_i rfl rfl rfl rfl hh
  obtain ⟨n, hh⟩ := rn_gfo (g := 2) rfl rfl (by decide) r1 r2 hh
  obtain ⟨n, hh⟩ := rn_i rfl rfl rfl rfl hh
  obtain ⟨n, hh⟩ := rn_i rfl rfl rfl rfl hh
  have hh : pm_run PT n fr lo 26 (10, [some (.ref 5), some (.int (nI c)), some (.int (nI 0)), some (.int d)], [.int d, .int (nI c), .ref 6], h, 198, sl) = some R := hh
  obtain ⟨n, -, hh⟩ := en_iss rfl k6 (by decide) hh
  rw [nI_clamp (by omega)] at hh
  have hh : pm_run PT n fr lo 26 (11, [some (.ref 5), some (.int (nI c)), some (.int (nI 0)), some (.int d)], [], (aset h 6 6 (upd A c d)), 198, sl) = some R := hh
  obtain ⟨n, hh⟩ := rn_i rfl rfl rfl rfl hh
  exact rn_vret rfl rfl hh
theorem nI_sub1 (n : Nat) : nI (n + 1) - 1 = nI n := by
  rw [show nI (n + 1) = nI n + 1 from Int32.ofNat_add n 1]
  exact Int32.add_sub_cancel _ _
theorem nc_s {c i : Nat} (hc : c < 1000) (hi : i < 1000) (x : svX g0 h n0 cc f A B) (hh : pm_run PT n fr lo 26 (0, pm_l0 [.ref 5, .int (nI c), .int (nI (i + 1)), .int d] 4, [], h, 198, sl) = some R) : R = (none, aset h 7 30 (upd B (5 * c + i) d), 198, sl) := by
  obtain ⟨-, ⟨rs, r1, r2, r3⟩, k6, k7⟩ := x
  have ec : pm_cmp .ne (nI (i + 1)) 0 = true := decide_eq_true (fun e => by
    have e := congrArg Int32.toInt e
    rw [nI_toInt (by omega), show (0 : Int32).toInt = 0 by decide] at e
    omega)
  obtain ⟨n, hh⟩ := rn_i rfl rfl rfl rfl hh
  obtain ⟨n, hh⟩ := rn_if (cc := .ne) (off := 13) (t := 14) rfl rfl hh
  rw [ec] at hh
  have hh : pm_run PT n fr lo 26 (14, [some (.ref 5), some (.int (nI c)), some (.int (nI (i + 1))), some (.int d)], [], h, 198, sl) = some R := hh
  obtain ⟨n, hh⟩ := rn_i rfl rfl rfl rfl hh
  obtain ⟨n, hh⟩ := rn_gfo (g := 3) rfl rfl (by decide) r1 r3.1 hh
  obtain ⟨n, hh⟩ := rn_i rfl rfl rfl rfl hh
  obtain ⟨n, hh⟩ := rn_i rfl rfl rfl rfl hh
  obtain ⟨n, hh⟩ := rn_i rfl rfl rfl rfl hh
  obtain ⟨n, hh⟩ := rn_i rfl rfl rfl rfl hh
  obtain ⟨n, hh⟩ := rn_i rfl rfl rfl rfl hh
  obtain ⟨n, hh⟩ := rn_i rfl rfl rfl rfl hh
  obtain ⟨n, hh⟩ := rn_i rfl rfl rfl rfl hh
  obtain ⟨n, hh⟩ := rn_i rfl rfl rfl rfl hh
  have hh : pm_run PT n fr lo 26 (26, [some (.ref 5), some (.int (nI c)), some (.int (nI (i + 1))), some (.int d)], [.int d, .int ((((nI c) * 5) + (nI (i + 1))) - 1), .ref 7], h, 198, sl) = some R := hh
  have ei : nI c * 5 + nI (i + 1) - 1 = nI (5 * c + i) := by
    rw [show (5 : Int32) = nI 5 from rfl, hI_mul, nI_add, Nat.mul_comm c 5, show 5 * c + (i + 1) = 5 * c + i + 1 by omega]
    exact nI_sub1 _
  rw [ei] at hh
  obtain ⟨n, -, hh⟩ := en_iss rfl k7 (by decide) hh
  rw [nI_clamp (by omega)] at hh
  exact rn_vret rfl rfl hh
theorem m1_nN : ∀ p, p < 100 → ∀ N, N < 10 → ¬ (Int32.ofInt (-1) - nI p = nI N) := by decide +kernel
/-- what is noted when it ends: nothing of the courts that there are; all lines, if they are so many -/
def vP (g0 : pm_H) (R : pm_Rs) (n0 cc : Nat) (f A0 B0 : Nat → Int32) : Prop := ∃ A B, svX g0 R.2.1 n0 cc f A B ∧ vI cc f A0 B0 A B 0 0 ∧ ∀ N, 1 ≤ N → N < 10 → R.1 = some (.int (nI N)) → vI cc f A0 B0 A B N 0
theorem vP_no {p : Nat} {x3 x4 x5 : Option Value} (hp : p < 100) (x : svX g0 h n0 cc f A B) (v : vI cc f A0 B0 A B ln i) (e : R = (some (.int (Int32.ofInt (-1) - nI p)), h, 198, sl)) : vP g0 R n0 cc f A0 B0 := by
  rw [e]
  refine ⟨A, B, x, vI_0 v, fun N h1 h2 e2 => ?_⟩
  have e2 : Int32.ofInt (-1) - nI p = nI N := Value.int.inj (Option.some.inj e2)
  exact absurd e2 (m1_nN p hp N h2)
theorem vx_dig (hn : n0 ≤ 80) (hl : cc + ln < 6) : ∀ (k i n : Nat) (h : pm_H) (A B : Nat → Int32) (x5 : Option Value), i + k = 6 → svX g0 h n0 cc f A B → vI cc f A0 B0 A B ln i → pm_run PT n fr lo 129 (45, [some (.ref 0), some (.int (nI (7 * ln + i))), some (.int (nI ln)), some (.int (nI (cc + ln))), some (.int (nI i)), x5], [], h, 198, sl) = some R → vP g0 R n0 cc f A0 B0 ∨ ∃ q h' A' B' y5, pm_run PT q fr lo 129 (104, [some (.ref 0), some (.int (nI (7 * ln + 6))), some (.int (nI ln)), some (.int (nI (cc + ln))), some (.int (nI 6)), y5], [], h', 198, sl) = some R ∧ svX g0 h' n0 cc f A' B' ∧ vI cc f A0 B0 A' B' ln 6 := by
  intro k
  induction k with
  | zero =>
    intro i n h A B x5 hi x v hh
    obtain ⟨n, hh⟩ := rn_i rfl rfl rfl rfl hh
    obtain ⟨n, hh⟩ := rn_i rfl rfl rfl rfl hh
    have hh : pm_run PT n fr lo 129 (49, [some (.ref 0), some (.int (nI (7 * ln + i))), some (.int (nI ln)), some (.int (nI (cc + ln))), some (.int (nI i)), x5], [.int (nI 6), .int (nI i)], h, 198, sl) = some R := hh
    obtain ⟨n, hh⟩ := rn_icmp (cc := .ge) (off := 55) (t := 104) rfl rfl hh
    rw [hI_ge (by omega) (by omega), decide_eq_true (by omega)] at hh
    have hi : i = 6 := by omega
    rw [hi] at hh v
    exact Or.inr ⟨n, h, A, B, x5, hh, x, v⟩
  | succ k ih =>
    intro i n h A B x5 hi x v hh
    obtain ⟨px, -⟩ := id x
    obtain ⟨⟨fs, a1, a2, a3⟩, ⟨gs, b1, b2, b3⟩, c1, rs, d1, d2⟩ := id px
    obtain ⟨n, hh⟩ := rn_i rfl rfl rfl rfl hh
    obtain ⟨n, hh⟩ := rn_i rfl rfl rfl rfl hh
    have hh : pm_run PT n fr lo 129 (49, [some (.ref 0), some (.int (nI (7 * ln + i))), some (.int (nI ln)), some (.int (nI (cc + ln))), some (.int (nI i)), x5], [.int (nI 6), .int (nI i)], h, 198, sl) = some R := hh
    obtain ⟨n, hh⟩ := rn_icmp (cc := .ge) (off := 55) (t := 104) rfl rfl hh
    rw [hI_ge (by omega) (by omega), decide_eq_false (by omega)] at hh
    have hh : pm_run PT n fr lo 129 (52, [some (.ref 0), some (.int (nI (7 * ln + i))), some (.int (nI ln)), some (.int (nI (cc + ln))), some (.int (nI i)), x5], [], h, 198, sl) = some R := hh
    obtain ⟨n, hh⟩ := rn_i rfl rfl rfl rfl hh
    obtain ⟨n, hh⟩ := rn_gfo (g := 0) rfl rfl (by decide) a1 a2 hh
    obtain ⟨n, hh⟩ := rn_i rfl rfl rfl rfl hh
    obtain ⟨n, hh⟩ := rn_i rfl rfl rfl rfl hh
    have hh : pm_run PT n fr lo 129 (59, [some (.ref 0), some (.int (nI (7 * ln + i))), some (.int (nI ln)), some (.int (nI (cc + ln))), some (.int (nI i)), x5], [.int (nI 41), .int (nI (7 * ln + i)), .ref 1], h, 198, sl) = some R := hh
    obtain ⟨n, fr', lo', r1, hr1, hh⟩ := rn_call (w := 0) (t := 81) rfl rfl hh
    have er := dgA_run hn (by decide) (by omega) px hr1
    subst er
    have hh : pm_run PT n fr lo 129 (62, [some (.ref 0), some (.int (nI (7 * ln + i))), some (.int (nI ln)), some (.int (nI (cc + ln))), some (.int (nI i)), x5], [.int (dgA f n0 (7 * ln + i) 41)], h, 198, sl) = some R := hh
    obtain ⟨n, hh⟩ := rn_i rfl rfl rfl rfl hh
    have hh : pm_run PT n fr lo 129 (64, [some (.ref 0), some (.int (nI (7 * ln + i))), some (.int (nI ln)), some (.int (nI (cc + ln))), some (.int (nI i)), some (.int (dgA f n0 (7 * ln + i) 41))], [], h, 198, sl) = some R := hh
    have no : ∀ n : Nat, pm_run PT n fr lo 129 (79, [some (.ref 0), some (.int (nI (7 * ln + i))), some (.int (nI ln)), some (.int (nI (cc + ln))), some (.int (nI i)), some (.int (dgA f n0 (7 * ln + i) 41))], [], h, 198, sl) = some R → vP g0 R n0 cc f A0 B0 := by
      intro n hh
      obtain ⟨n, hh⟩ := rn_i rfl rfl rfl rfl hh
      obtain ⟨n, hh⟩ := rn_i rfl rfl rfl rfl hh
      obtain ⟨n, hh⟩ := rn_i rfl rfl rfl rfl hh
      exact vP_no (p := 7 * ln + i) (x3 := none) (x4 := none) (x5 := none) (by omega) x v (rn_ret rfl (Or.inl rfl) hh).2
    obtain ⟨n, hh⟩ := rn_i rfl rfl rfl rfl hh
    obtain ⟨n, hh⟩ := rn_if (cc := .lt) (off := 13) (t := 79) rfl rfl hh
    cases z : dg f (7 * ln + i) (min n0 41) with
    | false =>
      rw [show pm_cmp .lt (dgA f n0 (7 * ln + i) 41) 0 = true by rw [dgA_no z]; decide] at hh
      exact Or.inl (no n hh)
    | true =>
      have ed : dgA f n0 (7 * ln + i) 41 = f (7 * ln + i) - nI 48 := dgA_yes z
      rw [show pm_cmp .lt (dgA f n0 (7 * ln + i) 41) 0 = false by rw [ed]; exact lt0_val (dg_val z).1] at hh
      have hh : pm_run PT n fr lo 129 (69, [some (.ref 0), some (.int (nI (7 * ln + i))), some (.int (nI ln)), some (.int (nI (cc + ln))), some (.int (nI i)), some (.int (dgA f n0 (7 * ln + i) 41))], [], h, 198, sl) = some R := hh
      have note : ∀ n : Nat, pm_run PT n fr lo 129 (83, [some (.ref 0), some (.int (nI (7 * ln + i))), some (.int (nI ln)), some (.int (nI (cc + ln))), some (.int (nI i)), some (.int (dgA f n0 (7 * ln + i) 41))], [], h, 198, sl) = some R → vP g0 R n0 cc f A0 B0 ∨ ∃ q h' A' B' y5, pm_run PT q fr lo 129 (104, [some (.ref 0), some (.int (nI (7 * ln + 6))), some (.int (nI ln)), some (.int (nI (cc + ln))), some (.int (nI 6)), y5], [], h', 198, sl) = some R ∧ svX g0 h' n0 cc f A' B' ∧ vI cc f A0 B0 A' B' ln 6 := by
        intro n hh
        obtain ⟨n, hh⟩ := rn_i rfl rfl rfl rfl hh
        obtain ⟨n, hh⟩ := rn_gfo (g := 2) rfl rfl (by decide) a1 a3 hh
        obtain ⟨n, hh⟩ := rn_i rfl rfl rfl rfl hh
        obtain ⟨n, hh⟩ := rn_i rfl rfl rfl rfl hh
        obtain ⟨n, hh⟩ := rn_i rfl rfl rfl rfl hh
        have hh : pm_run PT n fr lo 129 (92, [some (.ref 0), some (.int (nI (7 * ln + i))), some (.int (nI ln)), some (.int (nI (cc + ln))), some (.int (nI i)), some (.int (dgA f n0 (7 * ln + i) 41))], [.int (dgA f n0 (7 * ln + i) 41), .int (nI i), .int (nI (cc + ln)), .ref 5], h, 198, sl) = some R := hh
        obtain ⟨n, fr', lo', r1, hr1, hh⟩ := rn_call (w := 0) (t := 26) rfl rfl hh
        rw [ed] at hr1
        have hij : i = 0 ∨ ∃ j, i = j + 1 := by
          cases i with
          | zero => exact Or.inl rfl
          | succ j => exact Or.inr ⟨j, rfl⟩
        rcases hij with rfl | ⟨j, rfl⟩
        · have er := nc_0 (by omega) x hr1
          subst er
          have hh : pm_run PT n fr lo 129 (95, [some (.ref 0), some (.int (nI (7 * ln + 0))), some (.int (nI ln)), some (.int (nI (cc + ln))), some (.int (nI 0)), some (.int (dgA f n0 (7 * ln + 0) 41))], [], (aset h 6 6 (upd A (cc + ln) (f (7 * ln + 0) - nI 48))), 198, sl) = some R := hh
          obtain ⟨n, hh⟩ := rn_i rfl rfl rfl rfl hh
          obtain ⟨n, hh⟩ := rn_i rfl rfl rfl rfl hh
          obtain ⟨n, hh⟩ := rn_i rfl rfl rfl rfl hh
          have hh : pm_run PT n fr lo 129 (45, [some (.ref 0), some (.int ((nI (7 * ln + 0)) + Int32.ofInt 1)), some (.int (nI ln)), some (.int (nI (cc + ln))), some (.int ((nI 0) + Int32.ofInt 1)), some (.int (dgA f n0 (7 * ln + 0) 41))], [], (aset h 6 6 (upd A (cc + ln) (f (7 * ln + 0) - nI 48))), 198, sl) = some R := hh
          rw [show nI (7 * ln + 0) + Int32.ofInt 1 = nI (7 * ln + 1) from (Int32.ofNat_add (7 * ln + 0) 1).symm, show nI 0 + Int32.ofInt 1 = nI 1 from rfl] at hh
          exact ih 1 n _ _ B _ (by omega) (svX_6 x) (vI_rank v) hh
        · have er := nc_s (by omega) (by omega) x hr1
          subst er
          have hh : pm_run PT n fr lo 129 (95, [some (.ref 0), some (.int (nI (7 * ln + (j + 1)))), some (.int (nI ln)), some (.int (nI (cc + ln))), some (.int (nI (j + 1))), some (.int (dgA f n0 (7 * ln + (j + 1)) 41))], [], (aset h 7 30 (upd B (5 * (cc + ln) + j) (f (7 * ln + (j + 1)) - nI 48))), 198, sl) = some R := hh
          obtain ⟨n, hh⟩ := rn_i rfl rfl rfl rfl hh
          obtain ⟨n, hh⟩ := rn_i rfl rfl rfl rfl hh
          obtain ⟨n, hh⟩ := rn_i rfl rfl rfl rfl hh
          have hh : pm_run PT n fr lo 129 (45, [some (.ref 0), some (.int ((nI (7 * ln + (j + 1))) + Int32.ofInt 1)), some (.int (nI ln)), some (.int (nI (cc + ln))), some (.int ((nI (j + 1)) + Int32.ofInt 1)), some (.int (dgA f n0 (7 * ln + (j + 1)) 41))], [], (aset h 7 30 (upd B (5 * (cc + ln) + j) (f (7 * ln + (j + 1)) - nI 48))), 198, sl) = some R := hh
          rw [show nI (7 * ln + (j + 1)) + Int32.ofInt 1 = nI (7 * ln + (j + 1 + 1)) from (Int32.ofNat_add (7 * ln + (j + 1)) 1).symm, show nI (j + 1) + Int32.ofInt 1 = nI (j + 1 + 1) from (Int32.ofNat_add (j + 1) 1).symm] at hh
          rw [show 7 * ln + (j + 1) = 7 * ln + 1 + j by omega] at hh
          exact ih (j + 1 + 1) n _ A _ _ (by omega) (svX_7 x) (vI_taste (by omega) v) hh
      obtain ⟨n, hh⟩ := rn_i rfl rfl rfl rfl hh
      obtain ⟨n, hh⟩ := rn_if (cc := .ne) (off := 12) (t := 83) rfl rfl hh
      by_cases y : i = 0
      · have e0 : pm_cmp .ne (nI i) 0 = false := by rw [y]; decide
        rw [e0] at hh
        have hh : pm_run PT n fr lo 129 (74, [some (.ref 0), some (.int (nI (7 * ln + i))), some (.int (nI ln)), some (.int (nI (cc + ln))), some (.int (nI i)), some (.int (dgA f n0 (7 * ln + i) 41))], [], h, 198, sl) = some R := hh
        obtain ⟨n, hh⟩ := rn_i rfl rfl rfl rfl hh
        obtain ⟨n, hh⟩ := rn_if (cc := .ne) (off := 7) (t := 83) rfl rfl hh
        cases y2 : pm_cmp .ne (dgA f n0 (7 * ln + i) 41) 0 with
        | true =>
          rw [y2] at hh
          exact note n hh
        | false =>
          rw [y2] at hh
          exact Or.inl (no n hh)
      · have e0 : pm_cmp .ne (nI i) 0 = true := decide_eq_true (fun e => by
          have e := congrArg Int32.toInt e
          rw [nI_toInt (by omega), show (0 : Int32).toInt = 0 by decide] at e
          omega)
        rw [e0] at hh
        exact note n hh
theorem vx_lines (hn : n0 ≤ 80) (hc : cc ≤ 6) : ∀ (k ln n : Nat) (h : pm_H) (A B : Nat → Int32) (x3 x4 x5 : Option Value), ln + k = 6 → svX g0 h n0 cc f A B → vI cc f A0 B0 A B ln 0 → pm_run PT n fr lo 129 (16, [some (.ref 0), some (.int (nI (7 * ln))), some (.int (nI ln)), x3, x4, x5], [], h, 198, sl) = some R → vP g0 R n0 cc f A0 B0 := by
  intro k
  induction k with
  | zero =>
    intro ln n h A B x3 x4 x5 hk x v hh
    obtain ⟨n, hh⟩ := rn_i rfl rfl rfl rfl hh
    obtain ⟨n, hh⟩ := rn_i rfl rfl rfl rfl hh
    have hh : pm_run PT n fr lo 129 (19, [some (.ref 0), some (.int (nI (7 * ln))), some (.int (nI ln)), x3, x4, x5], [.int (nI 6), .int (nI ln)], h, 198, sl) = some R := hh
    obtain ⟨n, hh⟩ := rn_icmp (cc := .ge) (off := 128) (t := 147) rfl rfl hh
    rw [hI_ge (by omega) (by omega), decide_eq_true (by omega)] at hh
    have hh : pm_run PT n fr lo 129 (147, [some (.ref 0), some (.int (nI (7 * ln))), some (.int (nI ln)), x3, x4, x5], [], h, 198, sl) = some R := hh
    obtain ⟨n, hh⟩ := rn_i rfl rfl rfl rfl hh
    obtain ⟨n, hh⟩ := rn_i rfl rfl rfl rfl hh
    obtain ⟨n, hh⟩ := rn_i rfl rfl rfl rfl hh
    exact vP_no (p := 7 * ln) (x3 := none) (x4 := none) (x5 := none) (by omega) x v (rn_ret rfl (Or.inl rfl) hh).2
  | succ k ih =>
    intro ln n h A B x3 x4 x5 hk x v hh
    obtain ⟨px, -⟩ := id x
    obtain ⟨⟨fs, a1, a2, a3⟩, ⟨gs, b1, b2, b3⟩, c1, rs, d1, d2⟩ := id px
    obtain ⟨n, hh⟩ := rn_i rfl rfl rfl rfl hh
    obtain ⟨n, hh⟩ := rn_i rfl rfl rfl rfl hh
    have hh : pm_run PT n fr lo 129 (19, [some (.ref 0), some (.int (nI (7 * ln))), some (.int (nI ln)), x3, x4, x5], [.int (nI 6), .int (nI ln)], h, 198, sl) = some R := hh
    obtain ⟨n, hh⟩ := rn_icmp (cc := .ge) (off := 128) (t := 147) rfl rfl hh
    rw [hI_ge (by omega) (by omega), decide_eq_false (by omega)] at hh
    have hh : pm_run PT n fr lo 129 (22, [some (.ref 0), some (.int (nI (7 * ln))), some (.int (nI ln)), x3, x4, x5], [], h, 198, sl) = some R := hh
    obtain ⟨n, hh⟩ := rn_i rfl rfl rfl rfl hh
    obtain ⟨n, hh⟩ := rn_gfo (g := 2) rfl rfl (by decide) a1 a3 hh
    obtain ⟨n, hh⟩ := rn_gfo (g := 0) rfl rfl (by decide) d1 d2 hh
    obtain ⟨n, hh⟩ := rn_i rfl rfl rfl rfl hh
    obtain ⟨n, hh⟩ := rn_i rfl rfl rfl rfl hh
    have hh : pm_run PT n fr lo 129 (31, [some (.ref 0), some (.int (nI (7 * ln))), some (.int (nI ln)), x3, x4, x5], [.int ((nI cc) + (nI ln))], h, 198, sl) = some R := hh
    rw [nI_add] at hh
    obtain ⟨n, hh⟩ := rn_i rfl rfl rfl rfl hh
    obtain ⟨n, hh⟩ := rn_i rfl rfl rfl rfl hh
    obtain ⟨n, hh⟩ := rn_i rfl rfl rfl rfl hh
    have hh : pm_run PT n fr lo 129 (35, [some (.ref 0), some (.int (nI (7 * ln))), some (.int (nI ln)), some (.int (nI (cc + ln))), x4, x5], [.int (nI 6), .int (nI (cc + ln))], h, 198, sl) = some R := hh
    obtain ⟨n, hh⟩ := rn_icmp (cc := .lt) (off := 7) (t := 42) rfl rfl hh
    rw [hI_lt (by omega) (by omega)] at hh
    by_cases z : cc + ln < 6
    · rw [decide_eq_true z] at hh
      have hh : pm_run PT n fr lo 129 (42, [some (.ref 0), some (.int (nI (7 * ln))), some (.int (nI ln)), some (.int (nI (cc + ln))), x4, x5], [], h, 198, sl) = some R := hh
      obtain ⟨n, hh⟩ := rn_i rfl rfl rfl rfl hh
      obtain ⟨n, hh⟩ := rn_i rfl rfl rfl rfl hh
      have hh : pm_run PT n fr lo 129 (45, [some (.ref 0), some (.int (nI (7 * ln))), some (.int (nI ln)), some (.int (nI (cc + ln))), some (.int 0), x5], [], h, 198, sl) = some R := hh
      have hh : pm_run PT n fr lo 129 (45, [some (.ref 0), some (.int (nI (7 * ln + 0))), some (.int (nI ln)), some (.int (nI (cc + ln))), some (.int (nI 0)), x5], [], h, 198, sl) = some R := hh
      rcases vx_dig hn z 6 0 n h A B x5 (by omega) x v hh with w | ⟨n, h2, A2, B2, y5, hh, x2, v2⟩
      · exact w
      · obtain ⟨px, -⟩ := id x2
        obtain ⟨⟨fs, a1, a2, a3⟩, ⟨gs, b1, b2, b3⟩, c1, rs, d1, d2⟩ := id px
        obtain ⟨n, hh⟩ := rn_i rfl rfl rfl rfl hh
        obtain ⟨n, hh⟩ := rn_i rfl rfl rfl rfl hh
        obtain ⟨n, hh⟩ := rn_gfo (g := 0) rfl rfl (by decide) a1 a2 hh
        obtain ⟨n, hh⟩ := rn_gfo (g := 1) rfl rfl (by decide) b1 b3 hh
        have hh : pm_run PT n fr lo 129 (112, [some (.ref 0), some (.int (nI (7 * ln + 6))), some (.int (nI ln)), some (.int (nI (cc + ln))), some (.int (nI 6)), y5], [.int (nI n0), .int (nI (7 * ln + 6))], h2, 198, sl) = some R := hh
        obtain ⟨n, hh⟩ := rn_icmp (cc := .ne) (off := 7) (t := 119) rfl rfl hh
        rw [hI_ne (by omega) (by omega)] at hh
        by_cases y : 7 * ln + 6 = n0
        · rw [decide_eq_false (fun q => q y)] at hh
          have hh : pm_run PT n fr lo 129 (115, [some (.ref 0), some (.int (nI (7 * ln + 6))), some (.int (nI ln)), some (.int (nI (cc + ln))), some (.int (nI 6)), y5], [], h2, 198, sl) = some R := hh
          obtain ⟨n, hh⟩ := rn_i rfl rfl rfl rfl hh
          obtain ⟨n, hh⟩ := rn_i rfl rfl rfl rfl hh
          obtain ⟨n, hh⟩ := rn_i rfl rfl rfl rfl hh
          have hh : pm_run PT n fr lo 129 (118, [some (.ref 0), some (.int (nI (7 * ln + 6))), some (.int (nI ln)), some (.int (nI (cc + ln))), some (.int (nI 6)), y5], [.int ((nI ln) + 1)], h2, 198, sl) = some R := hh
          rw [show nI ln + 1 = nI (ln + 1) from (Int32.ofNat_add ln 1).symm] at hh
          have e := (rn_ret rfl (Or.inl rfl) hh).2
          rw [e]
          refine ⟨A2, B2, x2, vI_0 v2, fun N h1 h2 e2 => ?_⟩
          have e2 : nI (ln + 1) = nI N := Value.int.inj (Option.some.inj e2)
          have e3 : ln + 1 = N := nI_ij (by omega) (by omega) e2
          rw [← e3]
          exact vI_line v2
        · rw [decide_eq_true y] at hh
          have hh : pm_run PT n fr lo 129 (119, [some (.ref 0), some (.int (nI (7 * ln + 6))), some (.int (nI ln)), some (.int (nI (cc + ln))), some (.int (nI 6)), y5], [], h2, 198, sl) = some R := hh
          obtain ⟨n, hh⟩ := rn_i rfl rfl rfl rfl hh
          obtain ⟨n, hh⟩ := rn_gfo (g := 0) rfl rfl (by decide) a1 a2 hh
          obtain ⟨n, hh⟩ := rn_i rfl rfl rfl rfl hh
          obtain ⟨n, hh⟩ := rn_i rfl rfl rfl rfl hh
          have hh : pm_run PT n fr lo 129 (126, [some (.ref 0), some (.int (nI (7 * ln + 6))), some (.int (nI ln)), some (.int (nI (cc + ln))), some (.int (nI 6)), y5], [.int (nI 41), .int (nI (7 * ln + 6)), .ref 1], h2, 198, sl) = some R := hh
          obtain ⟨n, fr', lo', r1, hr1, hh⟩ := rn_call (w := 0) (t := 80) rfl rfl hh
          have er := sgA_run hn (by decide) (by omega) px hr1
          subst er
          obtain ⟨n, hh⟩ := rn_i rfl rfl rfl rfl hh
          have hh : pm_run PT n fr lo 129 (131, [some (.ref 0), some (.int (nI (7 * ln + 6))), some (.int (nI ln)), some (.int (nI (cc + ln))), some (.int (nI 6)), y5], [.int 59, .int (sgA f n0 (7 * ln + 6) 41)], h2, 198, sl) = some R := hh
          obtain ⟨n, hh⟩ := rn_icmp (cc := .eq) (off := 7) (t := 138) rfl rfl hh
          cases u : pm_cmp .eq (sgA f n0 (7 * ln + 6) 41) 59 with
          | false =>
            rw [u] at hh
            have hh : pm_run PT n fr lo 129 (134, [some (.ref 0), some (.int (nI (7 * ln + 6))), some (.int (nI ln)), some (.int (nI (cc + ln))), some (.int (nI 6)), y5], [], h2, 198, sl) = some R := hh
            obtain ⟨n, hh⟩ := rn_i rfl rfl rfl rfl hh
            obtain ⟨n, hh⟩ := rn_i rfl rfl rfl rfl hh
            obtain ⟨n, hh⟩ := rn_i rfl rfl rfl rfl hh
            exact vP_no (p := 7 * ln + 6) (x3 := none) (x4 := none) (x5 := none) (by omega) x2 v2 (rn_ret rfl (Or.inl rfl) hh).2
          | true =>
            rw [u] at hh
            have hh : pm_run PT n fr lo 129 (138, [some (.ref 0), some (.int (nI (7 * ln + 6))), some (.int (nI ln)), some (.int (nI (cc + ln))), some (.int (nI 6)), y5], [], h2, 198, sl) = some R := hh
            obtain ⟨n, hh⟩ := rn_i rfl rfl rfl rfl hh
            obtain ⟨n, hh⟩ := rn_i rfl rfl rfl rfl hh
            obtain ⟨n, hh⟩ := rn_i rfl rfl rfl rfl hh
            have hh : pm_run PT n fr lo 129 (16, [some (.ref 0), some (.int ((nI (7 * ln + 6)) + Int32.ofInt 1)), some (.int ((nI ln) + Int32.ofInt 1)), some (.int (nI (cc + ln))), some (.int (nI 6)), y5], [], h2, 198, sl) = some R := hh
            rw [show nI (7 * ln + 6) + Int32.ofInt 1 = nI (7 * (ln + 1)) from (Int32.ofNat_add (7 * ln + 6) 1).symm, show nI ln + Int32.ofInt 1 = nI (ln + 1) from (Int32.ofNat_add ln 1).symm] at hh
            exact ih (ln + 1) n h2 A2 B2 _ _ _ (by omega) x2 (vI_line v2) hh
    · rw [decide_eq_false z] at hh
      have hh : pm_run PT n fr lo 129 (38, [some (.ref 0), some (.int (nI (7 * ln))), some (.int (nI ln)), some (.int (nI (cc + ln))), x4, x5], [], h, 198, sl) = some R := hh
      obtain ⟨n, hh⟩ := rn_i rfl rfl rfl rfl hh
      obtain ⟨n, hh⟩ := rn_i rfl rfl rfl rfl hh
      obtain ⟨n, hh⟩ := rn_i rfl rfl rfl rfl hh
      exact vP_no (p := 7 * ln) (x3 := none) (x4 := none) (x5 := none) (by omega) x v (rn_ret rfl (Or.inl rfl) hh).2
theorem vx_run (hn : n0 ≤ 80) (hc : cc ≤ 6) (x : svX g0 h n0 cc f A B) (hh : pm_run PT n fr lo 129 (0, pm_l0 [.ref 0] 6, [], h, 198, sl) = some R) : vP g0 R n0 cc f A B := by
  obtain ⟨px, -⟩ := id x
  obtain ⟨⟨fs, a1, a2, a3⟩, ⟨gs, b1, b2, b3⟩, c1, rs, d1, d2⟩ := id px
  have v0 : vI cc f A B A B 0 0 := ⟨⟨fun _ _ => rfl, fun _ _ => rfl⟩, fun k hk => by omega, fun q => by omega, fun j hj => by omega⟩
  obtain ⟨n, hh⟩ := rn_i rfl rfl rfl rfl hh
  obtain ⟨n, hh⟩ := rn_gfo (g := 0) rfl rfl (by decide) a1 a2 hh
  obtain ⟨n, hh⟩ := rn_gfo (g := 1) rfl rfl (by decide) b1 b3 hh
  have hh : pm_run PT n fr lo 129 (7, [some (.ref 0), none, none, none, none, none], [.int (nI n0)], h, 198, sl) = some R := hh
  obtain ⟨n, hh⟩ := rn_if (cc := .ne) (off := 5) (t := 12) rfl rfl hh
  cases z : pm_cmp .ne (nI n0) 0 with
  | false =>
    rw [z] at hh
    obtain ⟨n, hh⟩ := rn_i rfl rfl rfl rfl hh
    have e := (rn_ret rfl (Or.inl rfl) hh).2
    rw [e]
    refine ⟨A, B, x, v0, fun N h1 h2 e2 => ?_⟩
    have e2 : nI 0 = nI N := Value.int.inj (Option.some.inj e2)
    have e3 : 0 = N := nI_ij (by omega) (by omega) e2
    omega
  | true =>
    rw [z] at hh
    have hh : pm_run PT n fr lo 129 (12, [some (.ref 0), none, none, none, none, none], [], h, 198, sl) = some R := hh
    obtain ⟨n, hh⟩ := rn_i rfl rfl rfl rfl hh
    obtain ⟨n, hh⟩ := rn_i rfl rfl rfl rfl hh
    obtain ⟨n, hh⟩ := rn_i rfl rfl rfl rfl hh
    obtain ⟨n, hh⟩ := rn_i rfl rfl rfl rfl hh
    have hh : pm_run PT n fr lo 129 (16, [some (.ref 0), some (.int 0), some (.int 0), none, none, none], [], h, 198, sl) = some R := hh
    have hh : pm_run PT n fr lo 129 (16, [some (.ref 0), some (.int (nI (7 * 0))), some (.int (nI 0)), none, none, none], [], h, 198, sl) = some R := hh
    exact vx_lines hn hc 6 0 n h A B _ _ _ (by omega) x v0 hh
end VAX
end MG95zzykx0
section MG95zzykx1
/-! readsCourt of the reference: what it reads -/
section VAM
variable {n fr lo sl t cc rm p : Nat} {h g0 : pm_H} {R : pm_Rs} {tp Rd : Nat → Int32}
def dgt (x : Int32) : Prop := ∃ d, d < 10 ∧ x = nI d
/-- a digit of THE TEXT's first t signs -/
def dgV (tp : Nat → Int32) (t a : Nat) : Prop := dgt (tp a - nI 48) ∧ a < t
theorem dgi_lt {tp : Nat → Int32} {t a : Nat} {l u : Int32} (z : dgi tp a t l u = true) : a < t := by
  unfold dgi at z
  rw [Bool.and_eq_true] at z
  exact of_decide_eq_true z.1
theorem dgt_of {x : Int32} (h : 0 ≤ x.toInt ∧ x.toInt ≤ 9) : dgt x := by
  obtain ⟨d, hd, e, hx⟩ := ab_nn h.1 (Int.le_refl 0)
  have h2 := h.2
  exact ⟨d, by omega, e⟩
def pV (g0 h : pm_H) (tp : Nat → Int32) (t cc p rm : Nat) (Rd : Nat → Int32) : Prop := (mF h 16 (.int (nI p)) ∧ mF h 17 (.int (nI t)) ∧ mF h 14 (.ref 172) ∧ h 172 = .inl (0, 80, .inl tp)) ∧ mF h 20 (.int (nI rm)) ∧ (mF h 3 (.int (nI cc)) ∧ WT h ∧ (∀ i, i ≠ 162 → i ≠ 173 → h i = g0 i) ∧ ∀ g, g ≠ 16 → g ≠ 20 → Fi h 162 g = Fi g0 162 g) ∧ mF h 19 (.ref 173) ∧ h 173 = .inl (0, 36, .inl Rd)
theorem mset_fs {g : Nat} {x v : Value} (q : mF h g x) : mset h g v = fset h 162 g v := by
  obtain ⟨fs, e, -⟩ := q
  rw [mset_of e]
  unfold fset
  rw [e]
theorem pV_16 {q : Nat} (x : pV g0 h tp t cc p rm Rd) : pV g0 (mset h 16 (.int (nI q))) tp t cc q rm Rd := by
  obtain ⟨⟨a1, a2, a3, a4⟩, a5, a6, a7, a8⟩ := x
  exact ⟨⟨mF_self a1, mF_ne (by decide) a2, mF_ne (by decide) a3, mset_arr (by decide) a4⟩, mF_ne (by decide) a5, ⟨mF_ne (by decide) a6.1, by rw [mset_fs a1]; exact wt_fs rfl (by decide) rfl a6.2.1, fun i h1 h2 => (mset_ne h1).trans (a6.2.2.1 i h1 h2), fun g h1 h2 => by rw [mset_fs a1]; exact (Fi_n (Or.inr h1)).trans (a6.2.2.2 g h1 h2)⟩, mF_ne (by decide) a7, mset_arr (by decide) a8⟩
theorem pV_20 {q : Nat} (x : pV g0 h tp t cc p rm Rd) : pV g0 (mset h 20 (.int (nI q))) tp t cc p q Rd := by
  obtain ⟨⟨a1, a2, a3, a4⟩, a5, a6, a7, a8⟩ := x
  exact ⟨⟨mF_ne (by decide) a1, mF_ne (by decide) a2, mF_ne (by decide) a3, mset_arr (by decide) a4⟩, mF_self a5, ⟨mF_ne (by decide) a6.1, by rw [mset_fs a5]; exact wt_fs rfl (by decide) rfl a6.2.1, fun i h1 h2 => (mset_ne h1).trans (a6.2.2.1 i h1 h2), fun g h1 h2 => by rw [mset_fs a5]; exact (Fi_n (Or.inr h2)).trans (a6.2.2.2 g h1 h2)⟩, mF_ne (by decide) a7, mset_arr (by decide) a8⟩
theorem pV_rd {Rd' : Nat → Int32} (x : pV g0 h tp t cc p rm Rd) : pV g0 (aset h 173 36 Rd') tp t cc p rm Rd' := by
  obtain ⟨⟨a1, a2, a3, a4⟩, a5, a6, a7, a8⟩ := x
  exact ⟨⟨aset_mF (by decide) a1, aset_mF (by decide) a2, aset_mF (by decide) a3, (asR_ne (by decide)).trans a4⟩, aset_mF (by decide) a5, ⟨aset_mF (by decide) a6.1, wt_as rfl a6.2.1, fun i h1 h2 => (asR_ne h2).trans (a6.2.2.1 i h1 h2), fun g h1 h2 => (Fi_a (by decide)).trans (a6.2.2.2 g h1 h2)⟩, aset_mF (by decide) a7, asR_self⟩
/-- number(1): one digit -/
theorem n1_run (ht : t ≤ 80) (hp : p < 900) (x : pV g0 h tp t cc p rm Rd) (hh : pm_run PT n fr lo 184 (0, pm_l0 [.ref 162, .int (nI 1)] 4, [], h, 198, sl) = some R) : R = cond (dg tp p t) (some (.int (tp p - nI 48)), mset h 16 (.int (nI (p + 1))), 198, sl) (some (.int (-1)), h, 198, sl) := by
  have e := rn_dt (F := 10) (Lo := 1000) (hd_number (fr := 10) (lo := 1000) (sl := sl) x.1.1 x.1.2.1 x.1.2.2.1 x.1.2.2.2 ht (by omega) (by omega) (by omega) (d := 1) (by omega)) hh
  cases z : dg tp p t with
  | false =>
    rw [z] at e
    exact e
  | true =>
    rw [z] at e
    have e : R = (some (.int (nbr tp t 1 p 0).2), mset h 16 (.int (nI (nbr tp t 1 p 0).1)), 198, sl) := e
    have e1 : nbr tp t 1 p 0 = (p + 1, 10 * 0 + tp p - 48) := by
      show cond (dg tp p t) (p + 1, 10 * 0 + tp p - 48) (p, 0) = _
      rw [z]
      rfl
    have e2 : (10 : Int32) * 0 + tp p - 48 = tp p - nI 48 := by
      rw [show (10 : Int32) * 0 = 0 by decide, Int32.zero_add]
      rfl
    rw [e1] at e
    dsimp only at e
    rw [e2] at e
    exact e
/-- what is read when it ends -/
def vR (g0 : pm_H) (R : pm_Rs) (tp : Nat → Int32) (t cc rm : Nat) (Rd : Nat → Int32) (sl : Nat) : Prop := ∃ (b : Bool) (p' : Nat) (Rd' : Nat → Int32), R.1 = some (.int (cond b 1 0)) ∧ pV g0 R.2.1 tp t cc p' (rm + 1) Rd' ∧ R.2.2 = (198, sl) ∧ p' < 80 ∧ (∀ j, j < 6 * rm → Rd' j = Rd j) ∧ (b = true → p' = 7 * rm + 6 ∧ ∀ j, j < 6 → Rd' (6 * rm + j) = tp (7 * rm + j) - nI 48 ∧ dgV tp t (7 * rm + j))
theorem vm_end {i : Nat} {b : Bool} {Rd' : Nat → Int32} (hp : p < 80) (hr : rm < 6) (x : pV g0 h tp t cc p rm Rd') (hb : ∀ j, j < 6 * rm → Rd' j = Rd j) (hv : b = true → p = 7 * rm + 6 ∧ ∀ j, j < 6 → Rd' (6 * rm + j) = tp (7 * rm + j) - nI 48 ∧ dgV tp t (7 * rm + j)) (hh : pm_run PT n fr lo 187 (103, [some (.ref 162), some (.int (nI (6 * rm))), some (.int (cond b 1 0)), some (.int (nI i))], [], h, 198, sl) = some R) : vR g0 R tp t cc rm Rd sl := by
  have a5 := x.2.1
  obtain ⟨n, hh⟩ := rn_i rfl rfl rfl rfl hh
  obtain ⟨n, hh⟩ := rn_i rfl rfl rfl rfl hh
  obtain ⟨n, hh⟩ := rn_gfm rfl rfl a5 hh
  obtain ⟨n, hh⟩ := rn_i rfl rfl rfl rfl hh
  obtain ⟨n, hh⟩ := rn_i rfl rfl rfl rfl hh
  have hh : pm_run PT n fr lo 187 (110, [some (.ref 162), some (.int (nI (6 * rm))), some (.int (cond b 1 0)), some (.int (nI i))], [.int ((nI rm) + 1), .ref 162], h, 198, sl) = some R := hh
  rw [show nI rm + 1 = nI (rm + 1) from (Int32.ofNat_add rm 1).symm] at hh
  obtain ⟨n, hh⟩ := rn_pfm (w := .int (nI rm)) rfl rfl rfl (by decide) a5 hh
  have hh : pm_run PT n fr lo 187 (113, [some (.ref 162), some (.int (nI (6 * rm))), some (.int (cond b 1 0)), some (.int (nI i))], [], (mset h 20 (.int (nI (rm + 1)))), 198, sl) = some R := hh
  obtain ⟨n, hh⟩ := rn_i rfl rfl rfl rfl hh
  have e := (rn_ret rfl (Or.inr rfl) hh).2
  rw [e]
  exact ⟨b, p, Rd', rfl, pV_20 x, rfl, hp, hb, hv⟩
theorem vm_no {i : Nat} {Rd' : Nat → Int32} (hp : p < 80) (hi : i < 1000) (hr : rm < 6) (x : pV g0 h tp t cc p rm Rd') (hb : ∀ j, j < 6 * rm → Rd' j = Rd j) (hh : pm_run PT n fr lo 187 (54, [some (.ref 162), some (.int (nI (6 * rm))), some (.int 0), some (.int (nI i))], [], h, 198, sl) = some R) : vR g0 R tp t cc rm Rd sl := by
  have go : ∀ n : Nat, pm_run PT n fr lo 187 (103, [some (.ref 162), some (.int (nI (6 * rm))), some (.int 0), some (.int (nI i))], [], h, 198, sl) = some R → vR g0 R tp t cc rm Rd sl := fun n hh => vm_end (b := false) hp hr x hb (fun e => by cases e) hh
  obtain ⟨n, hh⟩ := rn_i rfl rfl rfl rfl hh
  obtain ⟨n, hh⟩ := rn_i rfl rfl rfl rfl hh
  have hh : pm_run PT n fr lo 187 (56, [some (.ref 162), some (.int (nI (6 * rm))), some (.int 0), some (.int (nI i))], [.int (nI 5), .int (nI i)], h, 198, sl) = some R := hh
  obtain ⟨n, hh⟩ := rn_icmp (cc := .ge) (off := 47) (t := 103) rfl rfl hh
  rw [hI_ge (by omega) (by omega)] at hh
  by_cases z : 5 ≤ i
  · rw [decide_eq_true z] at hh
    exact go n hh
  · rw [decide_eq_false z] at hh
    have hh : pm_run PT n fr lo 187 (59, [some (.ref 162), some (.int (nI (6 * rm))), some (.int 0), some (.int (nI i))], [], h, 198, sl) = some R := hh
    obtain ⟨n, hh⟩ := rn_i rfl rfl rfl rfl hh
    obtain ⟨n, hh⟩ := rn_if (cc := .eq) (off := 43) (t := 103) rfl rfl hh
    exact go n hh
theorem vm_loop (ht : t ≤ 80) (hr : rm < 6) : ∀ (k i n : Nat) (h : pm_H) (Rd' : Nat → Int32), i + k = 5 → pV g0 h tp t cc (7 * rm + 1 + i) rm Rd' → (∀ j, j < 6 * rm → Rd' j = Rd j) → (∀ j, j < i + 1 → Rd' (6 * rm + j) = tp (7 * rm + j) - nI 48 ∧ dgV tp t (7 * rm + j)) → pm_run PT n fr lo 187 (54, [some (.ref 162), some (.int (nI (6 * rm))), some (.int 1), some (.int (nI i))], [], h, 198, sl) = some R → vR g0 R tp t cc rm Rd sl := by
  intro k
  induction k with
  | zero =>
    intro i n h Rd' hi x hb hv hh
    obtain ⟨n, hh⟩ := rn_i rfl rfl rfl rfl hh
    obtain ⟨n, hh⟩ := rn_i rfl rfl rfl rfl hh
    have hh : pm_run PT n fr lo 187 (56, [some (.ref 162), some (.int (nI (6 * rm))), some (.int 1), some (.int (nI i))], [.int (nI 5), .int (nI i)], h, 198, sl) = some R := hh
    obtain ⟨n, hh⟩ := rn_icmp (cc := .ge) (off := 47) (t := 103) rfl rfl hh
    rw [hI_ge (by omega) (by omega), decide_eq_true (by omega)] at hh
    exact vm_end (b := true) (by omega) hr x hb (fun _ => ⟨by omega, fun j hj => hv j (by omega)⟩) hh
  | succ k ih =>
    intro i n h Rd' hi x hb hv hh
    obtain ⟨-, -, -, a7, a8⟩ := id x
    obtain ⟨n, hh⟩ := rn_i rfl rfl rfl rfl hh
    obtain ⟨n, hh⟩ := rn_i rfl rfl rfl rfl hh
    have hh : pm_run PT n fr lo 187 (56, [some (.ref 162), some (.int (nI (6 * rm))), some (.int 1), some (.int (nI i))], [.int (nI 5), .int (nI i)], h, 198, sl) = some R := hh
    obtain ⟨n, hh⟩ := rn_icmp (cc := .ge) (off := 47) (t := 103) rfl rfl hh
    rw [hI_ge (by omega) (by omega), decide_eq_false (by omega)] at hh
    have hh : pm_run PT n fr lo 187 (59, [some (.ref 162), some (.int (nI (6 * rm))), some (.int 1), some (.int (nI i))], [], h, 198, sl) = some R := hh
    obtain ⟨n, hh⟩ := rn_i rfl rfl rfl rfl hh
    obtain ⟨n, hh⟩ := rn_if (cc := .eq) (off := 43) (t := 103) rfl rfl hh
    have hh : pm_run PT n fr lo 187 (63, [some (.ref 162), some (.int (nI (6 * rm))), some (.int 1), some (.int (nI i))], [], h, 198, sl) = some R := hh
    obtain ⟨n, hh⟩ := rn_i rfl rfl rfl rfl hh
    obtain ⟨n, hh⟩ := rn_gfm rfl rfl a7 hh
    obtain ⟨n, hh⟩ := rn_i rfl rfl rfl rfl hh
    obtain ⟨n, hh⟩ := rn_i rfl rfl rfl rfl hh
    obtain ⟨n, hh⟩ := rn_i rfl rfl rfl rfl hh
    obtain ⟨n, hh⟩ := rn_i rfl rfl rfl rfl hh
    obtain ⟨n, hh⟩ := rn_i rfl rfl rfl rfl hh
    have hh : pm_run PT n fr lo 187 (72, [some (.ref 162), some (.int (nI (6 * rm))), some (.int 1), some (.int (nI i))], [.int (((nI (6 * rm)) + 1) + (nI i)), .ref 173], h, 198, sl) = some R := hh
    have ei : nI (6 * rm) + 1 + nI i = nI (6 * rm + 1 + i) := by
      rw [show nI (6 * rm) + 1 = nI (6 * rm + 1) from (Int32.ofNat_add (6 * rm) 1).symm, nI_add]
    rw [ei] at hh
    have hh : pm_run PT n fr lo 187 (72, [some (.ref 162), some (.int (nI (6 * rm))), some (.int 1), some (.int (nI i))], [.int (nI (6 * rm + 1 + i)), .ref 173], h, 198, sl) = some R := hh
    obtain ⟨n, hh⟩ := rn_i rfl rfl rfl rfl hh
    obtain ⟨n, hh⟩ := rn_i rfl rfl rfl rfl hh
    have hh : pm_run PT n fr lo 187 (74, [some (.ref 162), some (.int (nI (6 * rm))), some (.int 1), some (.int (nI i))], [.int (nI 1), .ref 162, .int (nI (6 * rm + 1 + i)), .ref 173], h, 198, sl) = some R := hh
    obtain ⟨n, fr', lo', r1, hr1, hh⟩ := rn_call (w := 0) (t := 184) rfl rfl hh
    have er := n1_run ht (by omega) x hr1
    cases z : dg tp (7 * rm + 1 + i) t with
    | false =>
      rw [z] at er
      have er : r1 = (some (.int (-1)), h, 198, sl) := er
      subst er
      have hh : pm_run PT n fr lo 187 (77, [some (.ref 162), some (.int (nI (6 * rm))), some (.int 1), some (.int (nI i))], [.int (-1), .int (nI (6 * rm + 1 + i)), .ref 173], h, 198, sl) = some R := hh
      obtain ⟨n, hh⟩ := rn_ism rfl a8 (hI_in (by omega) (by omega)) (by decide) hh
      rw [nI_clamp (by omega)] at hh
      have hh : pm_run PT n fr lo 187 (78, [some (.ref 162), some (.int (nI (6 * rm))), some (.int 1), some (.int (nI i))], [], (aset h 173 36 (upd Rd' (6 * rm + 1 + i) (-1))), 198, sl) = some R := hh
      have x2 := pV_rd (Rd' := upd Rd' (6 * rm + 1 + i) (-1)) x
      obtain ⟨-, -, -, c7, c8⟩ := id x2
      obtain ⟨n, hh⟩ := rn_i rfl rfl rfl rfl hh
      obtain ⟨n, hh⟩ := rn_gfm rfl rfl c7 hh
      obtain ⟨n, hh⟩ := rn_i rfl rfl rfl rfl hh
      obtain ⟨n, hh⟩ := rn_i rfl rfl rfl rfl hh
      obtain ⟨n, hh⟩ := rn_i rfl rfl rfl rfl hh
      obtain ⟨n, hh⟩ := rn_i rfl rfl rfl rfl hh
      obtain ⟨n, hh⟩ := rn_i rfl rfl rfl rfl hh
      have hh : pm_run PT n fr lo 187 (87, [some (.ref 162), some (.int (nI (6 * rm))), some (.int 1), some (.int (nI i))], [.int (((nI (6 * rm)) + 1) + (nI i)), .ref 173], (aset h 173 36 (upd Rd' (6 * rm + 1 + i) (-1))), 198, sl) = some R := hh
      rw [ei] at hh
      obtain ⟨n, hh⟩ := rn_iam rfl c8 (hI_in (by omega) (by omega)) (by decide) hh
      rw [nI_clamp (by omega)] at hh
      rw [show upd Rd' (6 * rm + 1 + i) (-1) (6 * rm + 1 + i) = -1 by unfold upd; rw [if_pos rfl]] at hh
      have hh : pm_run PT n fr lo 187 (88, [some (.ref 162), some (.int (nI (6 * rm))), some (.int 1), some (.int (nI i))], [.int (-1)], (aset h 173 36 (upd Rd' (6 * rm + 1 + i) (-1))), 198, sl) = some R := hh
      obtain ⟨n, hh⟩ := rn_if (cc := .lt) (off := 7) (t := 95) rfl rfl hh
      have hh : pm_run PT n fr lo 187 (95, [some (.ref 162), some (.int (nI (6 * rm))), some (.int 1), some (.int (nI i))], [], (aset h 173 36 (upd Rd' (6 * rm + 1 + i) (-1))), 198, sl) = some R := hh
      obtain ⟨n, hh⟩ := rn_i rfl rfl rfl rfl hh
      obtain ⟨n, hh⟩ := rn_i rfl rfl rfl rfl hh
      obtain ⟨n, hh⟩ := rn_i rfl rfl rfl rfl hh
      obtain ⟨n, hh⟩ := rn_i rfl rfl rfl rfl hh
      have hh : pm_run PT n fr lo 187 (54, [some (.ref 162), some (.int (nI (6 * rm))), some (.int 0), some (.int ((nI i) + Int32.ofInt 1))], [], (aset h 173 36 (upd Rd' (6 * rm + 1 + i) (-1))), 198, sl) = some R := hh
      rw [show nI i + Int32.ofInt 1 = nI (i + 1) from (Int32.ofNat_add i 1).symm] at hh
      exact vm_no (by omega) (by omega) hr x2 (fun j hj => by unfold upd; rw [if_neg (by omega)]; exact hb j hj) hh
    | true =>
      rw [z] at er
      have er : r1 = (some (.int (tp (7 * rm + 1 + i) - nI 48)), mset h 16 (.int (nI (7 * rm + 1 + i + 1))), 198, sl) := er
      subst er
      have x1 := pV_16 (q := 7 * rm + 1 + i + 1) x
      have hh : pm_run PT n fr lo 187 (77, [some (.ref 162), some (.int (nI (6 * rm))), some (.int 1), some (.int (nI i))], [.int (tp (7 * rm + 1 + i) - nI 48), .int (nI (6 * rm + 1 + i)), .ref 173], (mset h 16 (.int (nI (7 * rm + 1 + i + 1)))), 198, sl) = some R := hh
      generalize mset h 16 (.int (nI (7 * rm + 1 + i + 1))) = h1 at hh x1
      have hh : pm_run PT n fr lo 187 (77, [some (.ref 162), some (.int (nI (6 * rm))), some (.int 1), some (.int (nI i))], [.int (tp (7 * rm + 1 + i) - nI 48), .int (nI (6 * rm + 1 + i)), .ref 173], h1, 198, sl) = some R := hh
      obtain ⟨-, -, -, b7, b8⟩ := id x1
      obtain ⟨n, hh⟩ := rn_ism rfl b8 (hI_in (by omega) (by omega)) (by decide) hh
      rw [nI_clamp (by omega)] at hh
      have hh : pm_run PT n fr lo 187 (78, [some (.ref 162), some (.int (nI (6 * rm))), some (.int 1), some (.int (nI i))], [], (aset h1 173 36 (upd Rd' (6 * rm + 1 + i) (tp (7 * rm + 1 + i) - nI 48))), 198, sl) = some R := hh
      have x2 := pV_rd (Rd' := upd Rd' (6 * rm + 1 + i) (tp (7 * rm + 1 + i) - nI 48)) x1
      obtain ⟨-, -, -, c7, c8⟩ := id x2
      obtain ⟨n, hh⟩ := rn_i rfl rfl rfl rfl hh
      obtain ⟨n, hh⟩ := rn_gfm rfl rfl c7 hh
      obtain ⟨n, hh⟩ := rn_i rfl rfl rfl rfl hh
      obtain ⟨n, hh⟩ := rn_i rfl rfl rfl rfl hh
      obtain ⟨n, hh⟩ := rn_i rfl rfl rfl rfl hh
      obtain ⟨n, hh⟩ := rn_i rfl rfl rfl rfl hh
      obtain ⟨n, hh⟩ := rn_i rfl rfl rfl rfl hh
      have hh : pm_run PT n fr lo 187 (87, [some (.ref 162), some (.int (nI (6 * rm))), some (.int 1), some (.int (nI i))], [.int (((nI (6 * rm)) + 1) + (nI i)), .ref 173], (aset h1 173 36 (upd Rd' (6 * rm + 1 + i) (tp (7 * rm + 1 + i) - nI 48))), 198, sl) = some R := hh
      rw [ei] at hh
      obtain ⟨n, hh⟩ := rn_iam rfl c8 (hI_in (by omega) (by omega)) (by decide) hh
      rw [nI_clamp (by omega)] at hh
      rw [show upd Rd' (6 * rm + 1 + i) (tp (7 * rm + 1 + i) - nI 48) (6 * rm + 1 + i) = tp (7 * rm + 1 + i) - nI 48 by unfold upd; rw [if_pos rfl]] at hh
      have hh : pm_run PT n fr lo 187 (88, [some (.ref 162), some (.int (nI (6 * rm))), some (.int 1), some (.int (nI i))], [.int (tp (7 * rm + 1 + i) - nI 48)], (aset h1 173 36 (upd Rd' (6 * rm + 1 + i) (tp (7 * rm + 1 + i) - nI 48))), 198, sl) = some R := hh
      obtain ⟨n, hh⟩ := rn_if (cc := .lt) (off := 7) (t := 95) rfl rfl hh
      rw [show pm_cmp .lt (tp (7 * rm + 1 + i) - nI 48) 0 = false from lt0_val (dg_val z).1] at hh
      have hh : pm_run PT n fr lo 187 (91, [some (.ref 162), some (.int (nI (6 * rm))), some (.int 1), some (.int (nI i))], [], (aset h1 173 36 (upd Rd' (6 * rm + 1 + i) (tp (7 * rm + 1 + i) - nI 48))), 198, sl) = some R := hh
      obtain ⟨n, hh⟩ := rn_i rfl rfl rfl rfl hh
      obtain ⟨n, hh⟩ := rn_i rfl rfl rfl rfl hh
      obtain ⟨n, hh⟩ := rn_i rfl rfl rfl rfl hh
      obtain ⟨n, hh⟩ := rn_i rfl rfl rfl rfl hh
      obtain ⟨n, hh⟩ := rn_i rfl rfl rfl rfl hh
      have hh : pm_run PT n fr lo 187 (54, [some (.ref 162), some (.int (nI (6 * rm))), some (.int 1), some (.int ((nI i) + Int32.ofInt 1))], [], (aset h1 173 36 (upd Rd' (6 * rm + 1 + i) (tp (7 * rm + 1 + i) - nI 48))), 198, sl) = some R := hh
      rw [show nI i + Int32.ofInt 1 = nI (i + 1) from (Int32.ofNat_add i 1).symm] at hh
      refine ih (i + 1) n _ _ (by omega) x2 (fun j hj => by unfold upd; rw [if_neg (by omega)]; exact hb j hj) (fun j hj => ?_) hh
      unfold upd
      by_cases y : 6 * rm + j = 6 * rm + 1 + i
      · rw [if_pos y, show 7 * rm + j = 7 * rm + 1 + i by omega]
        exact ⟨rfl, dgt_of (dg_val z), dg_lt z⟩
      · rw [if_neg y]
        exact hv j (by omega)
theorem dgi_19 {a : Nat} (z : dgi tp a t 1 9 = true) : dgt (tp a - nI 48) := by
  have h0 := (dgi_val z).2
  unfold dgi in_b at z
  rw [Bool.and_eq_true, Bool.and_eq_true] at z
  have e1 : ¬ (9 : Int32).toInt64 < (tp a - 48).toInt64 := by simpa using z.2.2
  rw [Int64.lt_iff_toInt_lt, Int32.toInt_toInt64, Int32.toInt_toInt64, show (9 : Int32).toInt = 9 by decide] at e1
  have e1 : ¬ 9 < (tp a - nI 48).toInt := e1
  exact dgt_of ⟨h0, by omega⟩
theorem vm_reads (ht : t ≤ 80) (hl : cc + rm < 6) (x : pV g0 h tp t cc (7 * rm) rm Rd) (hh : pm_run PT n fr lo 187 (0, pm_l0 [.ref 162] 4, [], h, 198, sl) = some R) : vR g0 R tp t cc rm Rd sl := by
  obtain ⟨⟨q1, q2, q3, q4⟩, q5, q6, q7, q8⟩ := id x
  have q6 := q6.1
  obtain ⟨n, hh⟩ := rn_i rfl rfl rfl rfl hh
  obtain ⟨n, hh⟩ := rn_gfm rfl rfl q6 hh
  obtain ⟨n, hh⟩ := rn_i rfl rfl rfl rfl hh
  obtain ⟨n, hh⟩ := rn_gfm rfl rfl q5 hh
  obtain ⟨n, hh⟩ := rn_i rfl rfl rfl rfl hh
  obtain ⟨n, hh⟩ := rn_i rfl rfl rfl rfl hh
  obtain ⟨n, hh⟩ := rn_icmp (cc := .ne) (off := 5) (t := 16) rfl rfl hh
  have ec : pm_cmp .ne ((fun x y => x + y) (nI cc) (nI rm)) (Int8.ofInt 6).toInt32 = decide (¬ (cc + rm = 6)) := by
    show pm_cmp .ne (nI cc + nI rm) (nI 6) = _
    rw [nI_add]
    exact hI_ne (by omega) (by omega)
  rw [ec, decide_eq_true (by omega)] at hh
  have hh : pm_run PT n fr lo 187 (16, [some (.ref 162), none, none, none], [], h, 198, sl) = some R := hh
  obtain ⟨n, hh⟩ := rn_i rfl rfl rfl rfl hh
  obtain ⟨n, hh⟩ := rn_i rfl rfl rfl rfl hh
  obtain ⟨n, hh⟩ := rn_gfm rfl rfl q5 hh
  obtain ⟨n, hh⟩ := rn_i rfl rfl rfl rfl hh
  obtain ⟨n, hh⟩ := rn_i rfl rfl rfl rfl hh
  have e6 : (Int8.ofInt 6).toInt32 * nI rm = nI (6 * rm) := hI_mul 6 rm
  have hh : pm_run PT n fr lo 187 (24, [some (.ref 162), some (.int ((Int8.ofInt 6).toInt32 * nI rm)), none, none], [], h, 198, sl) = some R := hh
  rw [e6] at hh
  obtain ⟨n, hh⟩ := rn_i rfl rfl rfl rfl hh
  obtain ⟨n, hh⟩ := rn_gfm rfl rfl q7 hh
  obtain ⟨n, hh⟩ := rn_i rfl rfl rfl rfl hh
  obtain ⟨n, hh⟩ := rn_i rfl rfl rfl rfl hh
  obtain ⟨n, hh⟩ := rn_i rfl rfl rfl rfl hh
  obtain ⟨n, hh⟩ := rn_i rfl rfl rfl rfl hh
  obtain ⟨n, fr', lo', r1, hr1, hh⟩ := rn_call (w := 0) (t := 185) rfl rfl hh
  have er := rn_dt (F := 10) (Lo := 1000) (hd_digitIn (fr := 10) (lo := 1000) (sl := sl) q1 q2 q3 q4 ht (by omega) (by decide) (by decide) 1 9) hr1
  have hin : pm_in (nI (6 * rm)) 36 = true := hI_in (by omega) (by decide)
  have ek : (nI (6 * rm)).toNatClampNeg = 6 * rm := nI_clamp (by omega)
  cases hd : dgi tp (7 * rm) t 1 9 with
  | false =>
    rw [hd] at er
    dsimp only [cond] at er
    subst er
    have hh : pm_run PT n fr lo 187 (36, [some (.ref 162), some (.int (nI (6 * rm))), none, none], [.int (-1), .int (nI (6 * rm)), .ref 173], h, 198, sl) = some R := hh
    obtain ⟨n, hh⟩ := rn_ism rfl q8 hin (by decide) hh
    rw [ek] at hh
    have x2 := pV_rd (Rd' := upd Rd (6 * rm) (-1)) x
    obtain ⟨n, hh⟩ := rn_i rfl rfl rfl rfl hh
    obtain ⟨n, hh⟩ := rn_gfm rfl rfl x2.2.2.2.1 hh
    obtain ⟨n, hh⟩ := rn_i rfl rfl rfl rfl hh
    obtain ⟨n, hh⟩ := rn_iam rfl asR_self hin (by decide) hh
    rw [ek, show upd Rd (6 * rm) (-1) (6 * rm) = (-1 : Int32) from if_pos rfl] at hh
    obtain ⟨n, hh⟩ := rn_if (cc := .lt) (off := 7) (t := 50) rfl rfl hh
    rw [lt0_m1] at hh
    obtain ⟨n, hh⟩ := rn_i rfl rfl rfl rfl hh
    obtain ⟨n, hh⟩ := rn_i rfl rfl rfl rfl hh
    obtain ⟨n, hh⟩ := rn_i rfl rfl rfl rfl hh
    obtain ⟨n, hh⟩ := rn_i rfl rfl rfl rfl hh
    have hh : pm_run PT n fr lo 187 (54, [some (.ref 162), some (.int (nI (6 * rm))), some (.int 0), some (.int (nI 0))], [], aset h 173 36 (upd Rd (6 * rm) (-1)), 198, sl) = some R := hh
    exact vm_no (by omega) (by omega) (by omega) x2 (fun j hj => if_neg (by omega)) hh
  | true =>
    rw [hd] at er
    dsimp only [cond] at er
    subst er
    obtain ⟨v0, v1⟩ := dgi_val hd
    have x1 := pV_16 (q := 7 * rm + 1) x
    have hh : pm_run PT n fr lo 187 (36, [some (.ref 162), some (.int (nI (6 * rm))), none, none], [.int (tp (7 * rm) - 48), .int (nI (6 * rm)), .ref 173], mset h 16 (.int (nI (7 * rm + 1))), 198, sl) = some R := hh
    obtain ⟨n, hh⟩ := rn_ism rfl x1.2.2.2.2 hin (by decide) hh
    rw [ek] at hh
    have x2 := pV_rd (Rd' := upd Rd (6 * rm) (tp (7 * rm) - 48)) x1
    obtain ⟨n, hh⟩ := rn_i rfl rfl rfl rfl hh
    obtain ⟨n, hh⟩ := rn_gfm rfl rfl x2.2.2.2.1 hh
    obtain ⟨n, hh⟩ := rn_i rfl rfl rfl rfl hh
    obtain ⟨n, hh⟩ := rn_iam rfl asR_self hin (by decide) hh
    rw [ek, show upd Rd (6 * rm) (tp (7 * rm) - 48) (6 * rm) = tp (7 * rm) - 48 from if_pos rfl] at hh
    obtain ⟨n, hh⟩ := rn_if (cc := .lt) (off := 7) (t := 50) rfl rfl hh
    rw [lt0_val v1] at hh
    obtain ⟨n, hh⟩ := rn_i rfl rfl rfl rfl hh
    obtain ⟨n, hh⟩ := rn_i rfl rfl rfl rfl hh
    obtain ⟨n, hh⟩ := rn_i rfl rfl rfl rfl hh
    obtain ⟨n, hh⟩ := rn_i rfl rfl rfl rfl hh
    obtain ⟨n, hh⟩ := rn_i rfl rfl rfl rfl hh
    have hh : pm_run PT n fr lo 187 (54, [some (.ref 162), some (.int (nI (6 * rm))), some (.int 1), some (.int (nI 0))], [], aset (mset h 16 (.int (nI (7 * rm + 1)))) 173 36 (upd Rd (6 * rm) (tp (7 * rm) - 48)), 198, sl) = some R := hh
    refine vm_loop ht (by omega) 5 0 n _ _ rfl x2 (fun j hj => if_neg (by omega)) (fun j hj => ?_) hh
    have e0 : j = 0 := by omega
    subst e0
    exact ⟨if_pos rfl, dgi_19 hd, dgi_lt hd⟩
/-- the LINES: at place 60; where the flag is 1 every LINE stands in cell 173 -/
theorem vm_lines (ht : t ≤ 80) {n0 : Int32} : ∀ (k rm n : Nat) (h : pm_H) (Rd : Nat → Int32), cc + rm + k = 7 → 0 < k → pV g0 h tp t cc (7 * rm) rm Rd → (∀ r, r < rm → ∀ j, j < 6 → Rd (6 * r + j) = tp (7 * r + j) - nI 48 ∧ dgV tp t (7 * r + j)) → pm_run PT n fr lo 188 (29, [some (.ref 162), some (.int n0), some (.int 1), some (.int 1), none, none, none], [], h, 198, sl) = some R → ∃ (m : Nat) (h' : pm_H) (b : Bool) (p' rm' : Nat) (Rd' : Nat → Int32), pm_run PT m fr lo 188 (60, [some (.ref 162), some (.int n0), some (.int (cond b 1 0)), some (.int 0), none, none, none], [], h', 198, sl) = some R ∧ pV g0 h' tp t cc p' rm' Rd' ∧ cc + rm' ≤ 6 ∧ p' < 80 ∧ (b = true → ∀ r, r < rm' → ∀ j, j < 6 → Rd' (6 * r + j) = tp (7 * r + j) - nI 48 ∧ dgV tp t (7 * r + j)) := by
  have out : ∀ (n : Nat) (b : Int32) (h : pm_H), pm_run PT n fr lo 188 (29, [some (.ref 162), some (.int n0), some (.int b), some (.int 0), none, none, none], [], h, 198, sl) = some R → ∃ m, pm_run PT m fr lo 188 (60, [some (.ref 162), some (.int n0), some (.int b), some (.int 0), none, none, none], [], h, 198, sl) = some R := by
    intro n b h hh
    obtain ⟨n, hh⟩ := rn_i rfl rfl rfl rfl hh
    obtain ⟨n, hh⟩ := rn_if (cc := .eq) (off := 30) (t := 60) rfl rfl hh
    exact ⟨n, hh⟩
  intro k
  induction k with
  | zero => intro rm n h Rd hk h0; exact absurd h0 (by omega)
  | succ k ih =>
    intro rm n h Rd hk h0 x hv hh
    obtain ⟨n, hh⟩ := rn_i rfl rfl rfl rfl hh
    obtain ⟨n, hh⟩ := rn_if (cc := .eq) (off := 30) (t := 60) rfl rfl hh
    have hh : pm_run PT n fr lo 188 (33, [some (.ref 162), some (.int n0), some (.int 1), some (.int 1), none, none, none], [], h, 198, sl) = some R := hh
    obtain ⟨n, hh⟩ := rn_i rfl rfl rfl rfl hh
    obtain ⟨n, fr', lo', r1, hr1, hh⟩ := rn_call (w := 0) (t := 187) rfl rfl hh
    by_cases z : cc + rm = 6
    · obtain ⟨q0, q5, q6, -⟩ := id x
      obtain ⟨n1, hr1⟩ := rn_i rfl rfl rfl rfl hr1
      obtain ⟨n1, hr1⟩ := rn_gfm rfl rfl q6.1 hr1
      obtain ⟨n1, hr1⟩ := rn_i rfl rfl rfl rfl hr1
      obtain ⟨n1, hr1⟩ := rn_gfm rfl rfl q5 hr1
      obtain ⟨n1, hr1⟩ := rn_i rfl rfl rfl rfl hr1
      obtain ⟨n1, hr1⟩ := rn_i rfl rfl rfl rfl hr1
      obtain ⟨n1, hr1⟩ := rn_icmp (cc := .ne) (off := 5) (t := 16) rfl rfl hr1
      have ec : pm_cmp .ne ((fun x y => x + y) (nI cc) (nI rm)) (Int8.ofInt 6).toInt32 = decide (¬ (cc + rm = 6)) := by
        show pm_cmp .ne (nI cc + nI rm) (nI 6) = _
        rw [nI_add]
        exact hI_ne (by omega) (by omega)
      rw [ec, decide_eq_false (fun q => q z)] at hr1
      obtain ⟨n1, hr1⟩ := rn_i rfl rfl rfl rfl hr1
      obtain ⟨-, rfl⟩ := rn_ret rfl (Or.inr rfl) hr1
      have hh : pm_run PT n fr lo 188 (37, [some (.ref 162), some (.int n0), some (.int 1), some (.int 1), none, none, none], [.int 0], h, 198, sl) = some R := hh
      obtain ⟨n, hh⟩ := rn_i rfl rfl rfl rfl hh
      obtain ⟨n, hh⟩ := rn_i rfl rfl rfl rfl hh
      obtain ⟨n, hh⟩ := rn_if (cc := .eq) (off := 16) (t := 55) rfl rfl hh
      have hh : pm_run PT n fr lo 188 (55, [some (.ref 162), some (.int n0), some (.int 0), some (.int 1), none, none, none], [], h, 198, sl) = some R := hh
      obtain ⟨n, hh⟩ := rn_i rfl rfl rfl rfl hh
      obtain ⟨n, hh⟩ := rn_i rfl rfl rfl rfl hh
      obtain ⟨n, hh⟩ := rn_i rfl rfl rfl rfl hh
      obtain ⟨m, hm⟩ := out n 0 h hh
      exact ⟨m, h, false, _, _, _, hm, x, by omega, by omega, fun e => Bool.noConfusion e⟩
    · obtain ⟨b, p', Rd', e1, x2, e3, f0, f1, f2⟩ := vm_reads ht (by omega) x hr1
      obtain ⟨rv, h1, s1⟩ := r1
      dsimp only at e1 x2 e3
      subst e1
      subst e3
      cases b with
      | false =>
        have hh : pm_run PT n fr lo 188 (37, [some (.ref 162), some (.int n0), some (.int 1), some (.int 1), none, none, none], [.int 0], h1, 198, sl) = some R := hh
        obtain ⟨n, hh⟩ := rn_i rfl rfl rfl rfl hh
        obtain ⟨n, hh⟩ := rn_i rfl rfl rfl rfl hh
        obtain ⟨n, hh⟩ := rn_if (cc := .eq) (off := 16) (t := 55) rfl rfl hh
        have hh : pm_run PT n fr lo 188 (55, [some (.ref 162), some (.int n0), some (.int 0), some (.int 1), none, none, none], [], h1, 198, sl) = some R := hh
        obtain ⟨n, hh⟩ := rn_i rfl rfl rfl rfl hh
        obtain ⟨n, hh⟩ := rn_i rfl rfl rfl rfl hh
        obtain ⟨n, hh⟩ := rn_i rfl rfl rfl rfl hh
        obtain ⟨m, hm⟩ := out n 0 h1 hh
        exact ⟨m, h1, false, _, _, _, hm, x2, by omega, f0, fun e => Bool.noConfusion e⟩
      | true =>
        obtain ⟨f3, f4⟩ := f2 rfl
        subst f3
        have hv2 : ∀ r, r < rm + 1 → ∀ j, j < 6 → Rd' (6 * r + j) = tp (7 * r + j) - nI 48 ∧ dgV tp t (7 * r + j) := fun r hr j hj => by
          by_cases y : r = rm
          · rw [y]
            exact f4 j hj
          · rw [f1 (6 * r + j) (by omega)]
            exact hv r (by omega) j hj
        have hh : pm_run PT n fr lo 188 (37, [some (.ref 162), some (.int n0), some (.int 1), some (.int 1), none, none, none], [.int 1], h1, 198, sl) = some R := hh
        obtain ⟨n, hh⟩ := rn_i rfl rfl rfl rfl hh
        obtain ⟨n, hh⟩ := rn_i rfl rfl rfl rfl hh
        obtain ⟨n, hh⟩ := rn_if (cc := .eq) (off := 16) (t := 55) rfl rfl hh
        have hh : pm_run PT n fr lo 188 (42, [some (.ref 162), some (.int n0), some (.int 1), some (.int 1), none, none, none], [], h1, 198, sl) = some R := hh
        obtain ⟨n, hh⟩ := rn_i rfl rfl rfl rfl hh
        obtain ⟨n, hh⟩ := rn_i rfl rfl rfl rfl hh
        obtain ⟨n, fr', lo', r1, hr1, hh⟩ := rn_call (w := 0) (t := 181) rfl rfl hh
        obtain ⟨⟨q1, q2, q3, q4⟩, -⟩ := id x2
        have er := rn_dt (F := 10) (Lo := 1000) (hd_takes (fr := 10) (lo := 1000) (sl := sl) q1 q2 q3 q4 ht (by omega) (by decide) (by decide) 59) hr1
        cases y : decide (7 * rm + 6 < t ∧ tp (7 * rm + 6) = 59) with
        | false =>
          rw [y] at er
          dsimp only [cond] at er
          subst er
          have hh : pm_run PT n fr lo 188 (48, [some (.ref 162), some (.int n0), some (.int 1), some (.int 1), none, none, none], [.int 0], mset h1 16 (.int (nI (7 * rm + 6 + 0))), 198, sl) = some R := hh
          obtain ⟨n, hh⟩ := rn_if (cc := .eq) (off := 7) (t := 55) rfl rfl hh
          have hh : pm_run PT n fr lo 188 (55, [some (.ref 162), some (.int n0), some (.int 1), some (.int 1), none, none, none], [], mset h1 16 (.int (nI (7 * rm + 6 + 0))), 198, sl) = some R := hh
          obtain ⟨n, hh⟩ := rn_i rfl rfl rfl rfl hh
          obtain ⟨n, hh⟩ := rn_i rfl rfl rfl rfl hh
          obtain ⟨n, hh⟩ := rn_i rfl rfl rfl rfl hh
          obtain ⟨m, hm⟩ := out n 1 _ hh
          exact ⟨m, _, true, 7 * rm + 6, _, _, hm, pV_16 (q := 7 * rm + 6) x2, by omega, by omega, fun _ => hv2⟩
        | true =>
          rw [y] at er
          dsimp only [cond] at er
          subst er
          have hh : pm_run PT n fr lo 188 (48, [some (.ref 162), some (.int n0), some (.int 1), some (.int 1), none, none, none], [.int 1], mset h1 16 (.int (nI (7 * rm + 6 + 1))), 198, sl) = some R := hh
          obtain ⟨n, hh⟩ := rn_if (cc := .eq) (off := 7) (t := 55) rfl rfl hh
          have hh : pm_run PT n fr lo 188 (51, [some (.ref 162), some (.int n0), some (.int 1), some (.int 1), none, none, none], [], mset h1 16 (.int (nI (7 * rm + 6 + 1))), 198, sl) = some R := hh
          obtain ⟨n, hh⟩ := rn_i rfl rfl rfl rfl hh
          obtain ⟨n, hh⟩ := rn_i rfl rfl rfl rfl hh
          obtain ⟨n, hh⟩ := rn_i rfl rfl rfl rfl hh
          obtain ⟨n, hh⟩ := rn_i rfl rfl rfl rfl hh
          exact ih (rm + 1) n _ _ (by omega) (by omega) (pV_16 (q := 7 * rm + 6 + 1) x2) hv2 hh
end VAM
end MG95zzykx1
section MG95zzykx2
/-! courts of both sides, told exactly behind what they read -/
section CRT
variable {n fr lo sl n0 c r p gc cq : Nat} {q : QT} {h g0 : pm_H} {R : pm_Rs} {tp Rd : Nat → Int32}
theorem mset_w {g : Nat} {v : Value} {as : List av} (hw : WT h) (hb : wd (bB 162) = .inr (11, as)) (hg : as[g]? = some ai_top) : mset h g v = fset h 162 g v := mset_fs (wt_i hw (by decide) hb (by decide) hg)
theorem Fi_m {g : Nat} {x : Int32} (z : mF h g (.int x)) : Fi h 162 g = x := by
  obtain ⟨fs, e, e1⟩ := z
  unfold Fi
  rw [e]
  dsimp only
  rw [e1]
/-- behind the LINES -/
theorem cv_sec {b : Bool} {x3 : Int32} (hn : n0 ≤ 80) (hr : c + r ≤ 6) (hp : p < 80) (x : pV g0 h tp (min n0 41) c p r Rd) (hh : pm_run PT n fr lo 188 (60, [some (.ref 162), some (.int (nI n0)), some (.int (cond b 1 0)), some (.int x3), none, none, none], [], h, 198, sl) = some R) : (∃ F : Int32, pm_cmp .ge F 0 = false ∧ R = (some (.int F), h, 198, sl)) ∨ (b = true ∧ ∃ F x1 x2 : Int32, R = (some (.int (nI r)), (w188 q cq gc h r c F x1 x2 x3).2, 198, sl) ∧ WT (w188 q cq gc h r c F x1 x2 x3).2 ∧ frm [162, 164, 165, 169, 170] [(162, 3), (162, 5), (162, 27)] h (w188 q cq gc h r c F x1 x2 x3).2) := by
  obtain ⟨n, hh⟩ := rn_i rfl rfl rfl rfl hh
  obtain ⟨n, hh⟩ := rn_i rfl rfl rfl rfl hh
  obtain ⟨n, hh⟩ := rn_i rfl rfl rfl rfl hh
  obtain ⟨n, hh⟩ := rn_i rfl rfl rfl rfl hh
  obtain ⟨n, fr', lo', r1, hr1, hh⟩ := rn_call (w := 0) (t := 186) rfl rfl hh
  have er := fo_run (m := 41) hn (by decide) (by omega) (by omega) x.1.1 x.1.2.1 hr1
  subst er
  have hge := fO_ge (n0 := n0) (m := 41) (t := min n0 41) (at_ := p) (is := b) (by decide) (by omega)
  generalize fO n0 41 (min n0 41) p b = F at *
  have hh : pm_run PT n fr lo 188 (68, [some (.ref 162), some (.int (nI n0)), some (.int (cond b 1 0)), some (.int x3), none, none, none], [.int F], h, 198, sl) = some R := hh
  obtain ⟨n, hh⟩ := rn_i rfl rfl rfl rfl hh
  obtain ⟨n, hh⟩ := rn_i rfl rfl rfl rfl hh
  obtain ⟨n, hh⟩ := rn_if (cc := .ge) (off := 6) (t := 78) rfl rfl hh
  cases z : pm_cmp .ge F 0 with
  | false =>
    rw [z] at hh
    obtain ⟨n, hh⟩ := rn_i rfl rfl rfl rfl hh
    exact Or.inl ⟨F, z, (rn_ret rfl (Or.inl rfl) hh).2⟩
  | true =>
    rw [z] at hh
    have hh : pm_run PT n fr lo 188 (78, [some (.ref 162), some (.int (nI n0)), some (.int (cond b 1 0)), some (.int x3), some (.int F), none, none], [], h, 198, sl) = some R := hh
    obtain ⟨a1, a2, a3⟩ := w188_ok (q := q) (cc := cq) (gc := gc) x.2.2.1.2.1 hr (Fi_m x.2.1) (Fi_m x.2.2.1.1) hh
    exact Or.inr ⟨hge z, F, _, _, a1, a2, a3⟩
/-- what courts of the reference does: h1 is the heap behind what it reads -/
theorem cv_run (hn : n0 ≤ 80) (hc : c ≤ 6) (hw : WT h) (h15 : Fi h 162 15 = nI n0) (h3 : Fi h 162 3 = nI c) (hh : pm_run PT n fr lo 188 (0, pm_l0 [.ref 162] 7, [], h, 198, sl) = some R) : ∃ (h1 : pm_H) (r : Nat), WT h1 ∧ (∀ i, i ≠ 162 → i ≠ 173 → h1 i = h i) ∧ (∀ g, g ≠ 0 → g ≠ 15 → g ≠ 16 → g ≠ 17 → g ≠ 18 → g ≠ 20 → Fi h1 162 g = Fi h 162 g) ∧ c + r ≤ 6 ∧ ((∃ F : Int32, pm_cmp .ge F 0 = false ∧ R = (some (.int F), h1, 198, sl)) ∨ ((∀ k, k < r → ∀ j, j < 6 → Ar h1 173 (6 * k + j) = Ar h 172 (7 * k + j) - nI 48 ∧ dgV (Ar h 172) (min n0 41) (7 * k + j)) ∧ ∃ F x1 x2 x3 : Int32, R = (some (.int (nI r)), (w188 q cq gc h1 r c F x1 x2 x3).2, 198, sl) ∧ WT (w188 q cq gc h1 r c F x1 x2 x3).2 ∧ frm [162, 164, 165, 169, 170] [(162, 3), (162, 5), (162, 27)] h1 (w188 q cq gc h1 r c F x1 x2 x3).2)) := by
  obtain ⟨n, hh⟩ := rn_i rfl rfl rfl rfl hh
  obtain ⟨n, hh⟩ := rn_i rfl rfl rfl rfl hh
  have m0 : mF h 0 (.int (Fi h 162 0)) := wt_i hw (by decide) rfl (by decide) rfl
  obtain ⟨n, hh⟩ := rn_pfm rfl rfl rfl (by decide) m0 hh
  rw [mset_w (g := 0) hw rfl rfl] at hh
  have w0 : WT (fset h 162 0 (.int (Int32.ofInt 0))) := wt_fs rfl (by decide) rfl hw
  have f0 : ∀ g, g ≠ 0 → Fi (fset h 162 0 (.int (Int32.ofInt 0))) 162 g = Fi h 162 g := fun g hg => Fi_n (Or.inr hg)
  have c0 : ∀ i, i ≠ 162 → fset h 162 0 (.int (Int32.ofInt 0)) i = h i := fun i hi => fs_ne hi
  obtain ⟨n, hh⟩ := rn_i rfl rfl rfl rfl hh
  obtain ⟨n, hh⟩ := rn_i rfl rfl rfl rfl hh
  have hh : pm_run PT n fr lo 188 (8, [some (.ref 162), none, none, none, none, none, none], [.int (nI 41), .ref 162], fset h 162 0 (.int (Int32.ofInt 0)), 198, sl) = some R := hh
  generalize fset h 162 0 (.int (Int32.ofInt 0)) = ha at *
  have hh : pm_run PT n fr lo 188 (8, [some (.ref 162), none, none, none, none, none, none], [.int (nI 41), .ref 162], ha, 198, sl) = some R := hh
  obtain ⟨n, fr', lo', r1, hr1, hh⟩ := rn_call (w := 0) (t := 180) rfl rfl hh
  have M : ∀ {g : Nat} {as : List av}, wd (bB 162) = .inr (11, as) → as[g]? = some ai_top → mF ha g (.int (Fi ha 162 g)) := fun hb hg => wt_i w0 (by decide) hb (by decide) hg
  have g15 : mF ha 15 (.int (nI n0)) := by
    have z := M (g := 15) rfl rfl
    rw [f0 15 (by decide), h15] at z
    exact z
  have er := rn_dt (F := 10) (Lo := 1000) (hd_begins (fr := 10) (lo := 1000) (sl := sl) (m := 41) g15 (M (g := 16) rfl rfl) (M (g := 17) rfl rfl) (M (g := 18) rfl rfl) hn (by decide) (by decide) (by decide)) hr1
  subst er
  have hh : pm_run PT n fr lo 188 (11, [some (.ref 162), none, none, none, none, none, none], [.int (nI n0)], hbeg ha n0 41, 198, sl) = some R := hh
  have eb : hbeg ha n0 41 = fset (fset (fset (fset ha 162 15 (.int 0)) 162 16 (.int 0)) 162 18 (.int 0)) 162 17 (.int (nI (min n0 41))) := by
    have a1 : WT (fset ha 162 15 (.int 0)) := wt_fs rfl (by decide) rfl w0
    have a2 : WT (fset (fset ha 162 15 (.int 0)) 162 16 (.int 0)) := wt_fs rfl (by decide) rfl a1
    have a3 : WT (fset (fset (fset ha 162 15 (.int 0)) 162 16 (.int 0)) 162 18 (.int 0)) := wt_fs rfl (by decide) rfl a2
    unfold hbeg
    rw [mset_w (g := 15) w0 rfl rfl, mset_w (g := 16) a1 rfl rfl, mset_w (g := 18) a2 rfl rfl, mset_w (g := 17) a3 rfl rfl]
  rw [eb] at hh
  have b1 : WT (fset (fset (fset (fset ha 162 15 (.int 0)) 162 16 (.int 0)) 162 18 (.int 0)) 162 17 (.int (nI (min n0 41)))) := wt_fs rfl (by decide) rfl (wt_fs rfl (by decide) rfl (wt_fs rfl (by decide) rfl (wt_fs rfl (by decide) rfl w0)))
  have b2 : ∀ i, i ≠ 162 → (fset (fset (fset (fset ha 162 15 (.int 0)) 162 16 (.int 0)) 162 18 (.int 0)) 162 17 (.int (nI (min n0 41)))) i = ha i := fun i hi => (fs_ne hi).trans ((fs_ne hi).trans ((fs_ne hi).trans (fs_ne hi)))
  have b3 : ∀ g, g ≠ 15 → g ≠ 16 → g ≠ 17 → g ≠ 18 → Fi (fset (fset (fset (fset ha 162 15 (.int 0)) 162 16 (.int 0)) 162 18 (.int 0)) 162 17 (.int (nI (min n0 41)))) 162 g = Fi ha 162 g := fun g h1 h2 h3 h4 => (Fi_n (Or.inr h3)).trans ((Fi_n (Or.inr h4)).trans ((Fi_n (Or.inr h2)).trans (Fi_n (Or.inr h1))))
  have b16 : Fi (fset (fset (fset (fset ha 162 15 (.int 0)) 162 16 (.int 0)) 162 18 (.int 0)) 162 17 (.int (nI (min n0 41)))) 162 16 = nI 0 := (Fi_n (Or.inr (by decide))).trans ((Fi_n (Or.inr (by decide))).trans (Fi_s (wt_fs rfl (by decide) rfl w0) (by decide) rfl (by decide) rfl))
  have b17 : Fi (fset (fset (fset (fset ha 162 15 (.int 0)) 162 16 (.int 0)) 162 18 (.int 0)) 162 17 (.int (nI (min n0 41)))) 162 17 = nI (min n0 41) := Fi_s (wt_fs rfl (by decide) rfl (wt_fs rfl (by decide) rfl (wt_fs rfl (by decide) rfl w0))) (by decide) rfl (by decide) rfl
  generalize fset (fset (fset (fset ha 162 15 (.int 0)) 162 16 (.int 0)) 162 18 (.int 0)) 162 17 (.int (nI (min n0 41))) = hb at *
  have hh : pm_run PT n fr lo 188 (11, [some (.ref 162), none, none, none, none, none, none], [.int (nI n0)], hb, 198, sl) = some R := hh
  obtain ⟨n, hh⟩ := rn_i rfl rfl rfl rfl hh
  obtain ⟨n, hh⟩ := rn_i rfl rfl rfl rfl hh
  obtain ⟨n, hh⟩ := rn_i rfl rfl rfl rfl hh
  have m20 : mF hb 20 (.int (Fi hb 162 20)) := wt_i b1 (by decide) rfl (by decide) rfl
  obtain ⟨n, hh⟩ := rn_pfm rfl rfl rfl (by decide) m20 hh
  rw [mset_w (g := 20) b1 rfl rfl] at hh
  have d1 : WT (fset hb 162 20 (.int (nI 0))) := wt_fs rfl (by decide) rfl b1
  have d2 : ∀ i, i ≠ 162 → fset hb 162 20 (.int (nI 0)) i = h i := fun i hi => (fs_ne hi).trans ((b2 i hi).trans (c0 i hi))
  have d3 : ∀ g, g ≠ 0 → g ≠ 15 → g ≠ 16 → g ≠ 17 → g ≠ 18 → g ≠ 20 → Fi (fset hb 162 20 (.int (nI 0))) 162 g = Fi h 162 g := fun g h1 h2 h3 h4 h5 h6 => (Fi_n (Or.inr h6)).trans ((b3 g h2 h3 h4 h5).trans (f0 g h1))
  have d16 : Fi (fset hb 162 20 (.int (nI 0))) 162 16 = nI 0 := (Fi_n (Or.inr (by decide))).trans b16
  have d17 : Fi (fset hb 162 20 (.int (nI 0))) 162 17 = nI (min n0 41) := (Fi_n (Or.inr (by decide))).trans b17
  have d20 : Fi (fset hb 162 20 (.int (nI 0))) 162 20 = nI 0 := Fi_s b1 (by decide) rfl (by decide) rfl
  have hh : pm_run PT n fr lo 188 (17, [some (.ref 162), some (.int (nI n0)), none, none, none, none, none], [], fset hb 162 20 (.int (nI 0)), 198, sl) = some R := hh
  generalize fset hb 162 20 (.int (nI 0)) = hd at *
  have hh : pm_run PT n fr lo 188 (17, [some (.ref 162), some (.int (nI n0)), none, none, none, none, none], [], hd, 198, sl) = some R := hh
  have pp : pV hd hd (Ar hd 172) (min n0 41) c (7 * 0) 0 (Ar hd 173) := by
    have D : ∀ {g : Nat} {as : List av}, wd (bB 162) = .inr (11, as) → as[g]? = some ai_top → mF hd g (.int (Fi hd 162 g)) := fun hb hg => wt_i d1 (by decide) hb (by decide) hg
    have D16 := D (g := 16) rfl rfl
    have D17 := D (g := 17) rfl rfl
    have D20 := D (g := 20) rfl rfl
    have D3 := D (g := 3) rfl rfl
    rw [d16] at D16
    rw [d17] at D17
    rw [d20] at D20
    rw [d3 3 (by decide) (by decide) (by decide) (by decide) (by decide) (by decide), h3] at D3
    exact ⟨⟨D16, D17, wt_r d1 (by decide) rfl (by decide) rfl rfl, wt_a d1 (by decide) rfl (by decide)⟩, D20, ⟨D3, d1, fun _ _ _ => rfl, fun _ _ _ => rfl⟩, wt_r d1 (by decide) rfl (by decide) rfl rfl, wt_a d1 (by decide) rfl (by decide)⟩
  have et : Ar hd 172 = Ar h 172 := Ar_e (d2 172 (by decide))
  have fin : ∀ (m : Nat) (h' : pm_H) (b : Bool) (p' r' : Nat) (Rd' : Nat → Int32) (x3 : Int32), pm_run PT m fr lo 188 (60, [some (.ref 162), some (.int (nI n0)), some (.int (cond b 1 0)), some (.int x3), none, none, none], [], h', 198, sl) = some R → pV hd h' (Ar hd 172) (min n0 41) c p' r' Rd' → c + r' ≤ 6 → p' < 80 → (b = true → ∀ k, k < r' → ∀ j, j < 6 → Rd' (6 * k + j) = Ar hd 172 (7 * k + j) - nI 48 ∧ dgV (Ar hd 172) (min n0 41) (7 * k + j)) → ∃ (h1 : pm_H) (r : Nat), WT h1 ∧ (∀ i, i ≠ 162 → i ≠ 173 → h1 i = h i) ∧ (∀ g, g ≠ 0 → g ≠ 15 → g ≠ 16 → g ≠ 17 → g ≠ 18 → g ≠ 20 → Fi h1 162 g = Fi h 162 g) ∧ c + r ≤ 6 ∧ ((∃ F : Int32, pm_cmp .ge F 0 = false ∧ R = (some (.int F), h1, 198, sl)) ∨ ((∀ k, k < r → ∀ j, j < 6 → Ar h1 173 (6 * k + j) = Ar h 172 (7 * k + j) - nI 48 ∧ dgV (Ar h 172) (min n0 41) (7 * k + j)) ∧ ∃ F x1 x2 x3 : Int32, R = (some (.int (nI r)), (w188 q cq gc h1 r c F x1 x2 x3).2, 198, sl) ∧ WT (w188 q cq gc h1 r c F x1 x2 x3).2 ∧ frm [162, 164, 165, 169, 170] [(162, 3), (162, 5), (162, 27)] h1 (w188 q cq gc h1 r c F x1 x2 x3).2)) := by
    intro m h' b p' r' Rd' x3 hh x hr hp hv
    have eR : Ar h' 173 = Rd' := by
      unfold Ar
      rw [x.2.2.2.2]
    refine ⟨h', r', x.2.2.1.2.1, fun i h1 h2 => (x.2.2.1.2.2.1 i h1 h2).trans (d2 i h1), fun g h1 h2 h3 h4 h5 h6 => (x.2.2.1.2.2.2 g h3 h6).trans (d3 g h1 h2 h3 h4 h5 h6), hr, ?_⟩
    rcases cv_sec (q := q) (cq := cq) (gc := gc) hn hr hp x hh with ⟨F, z1, z2⟩ | ⟨z1, F, x1, x2, z2, z3, z4⟩
    · exact Or.inl ⟨F, z1, z2⟩
    · refine Or.inr ⟨fun k hk j hj => ?_, F, x1, x2, x3, z2, z3, z4⟩
      rw [eR, ← et]
      exact hv z1 k hk j hj
  obtain ⟨n, hh⟩ := rn_i rfl rfl rfl rfl hh
  obtain ⟨n, hh⟩ := rn_i rfl rfl rfl rfl hh
  obtain ⟨n, hh⟩ := rn_i rfl rfl rfl rfl hh
  have hh : pm_run PT n fr lo 188 (20, [some (.ref 162), some (.int (nI n0)), some (.int 1), none, none, none, none], [.int (nI n0)], hd, 198, sl) = some R := hh
  obtain ⟨n, hh⟩ := rn_if (cc := .le) (off := 7) (t := 27) rfl rfl hh
  by_cases z : n0 = 0
  · have ec : pm_cmp .le (nI n0) 0 = true := by
      rw [z]
      decide
    rw [ec] at hh
    have hh : pm_run PT n fr lo 188 (27, [some (.ref 162), some (.int (nI n0)), some (.int 1), none, none, none, none], [], hd, 198, sl) = some R := hh
    obtain ⟨n, hh⟩ := rn_i rfl rfl rfl rfl hh
    obtain ⟨n, hh⟩ := rn_i rfl rfl rfl rfl hh
    have hh : pm_run PT n fr lo 188 (29, [some (.ref 162), some (.int (nI n0)), some (.int 1), some (.int 0), none, none, none], [], hd, 198, sl) = some R := hh
    obtain ⟨n, hh⟩ := rn_i rfl rfl rfl rfl hh
    obtain ⟨n, hh⟩ := rn_if (cc := .eq) (off := 30) (t := 60) rfl rfl hh
    exact fin n hd true _ _ _ 0 hh pp (by omega) (by omega) (fun _ k hk => absurd hk (Nat.not_lt_zero k))
  · have ec : pm_cmp .le (nI n0) 0 = false := by
      have := hI_le (a := n0) (b := 0) (by omega) (by omega)
      rw [decide_eq_false (by omega)] at this
      exact this
    rw [ec] at hh
    have hh : pm_run PT n fr lo 188 (23, [some (.ref 162), some (.int (nI n0)), some (.int 1), none, none, none, none], [], hd, 198, sl) = some R := hh
    obtain ⟨n, hh⟩ := rn_i rfl rfl rfl rfl hh
    obtain ⟨n, hh⟩ := rn_i rfl rfl rfl rfl hh
    obtain ⟨n, hh⟩ := rn_i rfl rfl rfl rfl hh
    obtain ⟨m, h', b, p', r', Rd', hm, x, hr, hp, hv⟩ := vm_lines (t := min n0 41) (by omega) (7 - c) 0 n _ _ (by omega) (by omega) pp (fun k hk => absurd hk (Nat.not_lt_zero k)) hh
    exact fin m h' b p' r' Rd' 0 hm x hr hp hv
end CRT
end MG95zzykx2
section MG95zzykx3
/-! courts of the class, told exactly behind what it reads -/
section CRX
variable {n fr lo sl n0 c N gc cq : Nat} {q : QT} {h g0 : pm_H} {R : pm_Rs}
theorem cx88 (hn : n0 ≤ 80) (hc : c ≤ 6) (hw : WT h) (h11 : Fi h 1 1 = nI n0) (h50 : Fi h 5 0 = nI c) (hh : pm_run PT n fr lo 88 (0, pm_l0 [.ref 0] 3, [], h, 198, sl) = some R) : ∃ h1 : pm_H, WT h1 ∧ (∀ i, i ≠ 6 → i ≠ 7 → h1 i = h i) ∧ vI c (Ar h 2) (Ar h 6) (Ar h 7) (Ar h1 6) (Ar h1 7) 0 0 ∧ ((∃ v : Int32, pm_cmp .le v 0 = true ∧ R = (some (.int v), fset h1 1 1 (.int (nI 0)), 198, sl)) ∨ ∃ N, 1 ≤ N ∧ c + N ≤ 6 ∧ vI c (Ar h 2) (Ar h 6) (Ar h 7) (Ar h1 6) (Ar h1 7) N 0 ∧ R = (some (.int (nI N)), (w88 q cq gc h1 N c).2, 198, sl) ∧ WT (w88 q cq gc h1 N c).2 ∧ frm [0, 1, 5, 14, 15, 25] [(0, 7), (1, 1), (5, 0), (25, 2)] h1 (w88 q cq gc h1 N c).2) := by
  have i5 : ∃ rs, h 5 = .inr (3, rs) ∧ rs[0]? = some (.int (nI c)) := by
    obtain ⟨rs, a, b⟩ := wt_i (c := 5) (g := 0) hw (by decide) rfl (by decide) rfl
    rw [h50] at b
    exact ⟨rs, a, b⟩
  have px : pX h n0 c (Ar h 2) := by
    obtain ⟨fs, a1, a2⟩ := wt_r (c := 0) (g := 0) (p := 1) hw (by decide) rfl (by decide) rfl rfl
    obtain ⟨fs', a3, a4⟩ := wt_r (c := 0) (g := 2) (p := 5) hw (by decide) rfl (by decide) rfl rfl
    obtain ⟨gs, b1, b2⟩ := wt_r (c := 1) (g := 0) (p := 2) hw (by decide) rfl (by decide) rfl rfl
    obtain ⟨gs', b3, b4⟩ := wt_i (c := 1) (g := 1) hw (by decide) rfl (by decide) rfl
    rw [h11] at b4
    rw [a1] at a3
    cases a3
    rw [b1] at b3
    cases b3
    exact ⟨⟨fs, a1, a2, a4⟩, ⟨gs, b1, b2, b4⟩, wt_a hw (by decide) rfl (by decide), i5⟩
  have sx : svX h h n0 c (Ar h 2) (Ar h 6) (Ar h 7) := by
    obtain ⟨rs, a1, a2⟩ := wt_r (c := 5) (g := 2) (p := 6) hw (by decide) rfl (by decide) rfl rfl
    obtain ⟨rs', a3, a4⟩ := wt_r (c := 5) (g := 3) (p := 7) hw (by decide) rfl (by decide) rfl rfl
    rw [a1] at a3
    cases a3
    exact ⟨px, ⟨rs, a1, a2, a4, hw, fun _ _ _ => rfl⟩, wt_a hw (by decide) rfl (by decide), wt_a hw (by decide) rfl (by decide)⟩
  obtain ⟨n, hh⟩ := rn_i rfl rfl rfl rfl hh
  obtain ⟨n, fr', lo', r1, hr1, hh⟩ := rn_call (w := 0) (t := 129) rfl rfl hh
  have hz := sz_run sQ_ok _ _ _ 129 _ r1 rfl hr1
  have hv := xr_run hn hc px hr1
  obtain ⟨A', B', x1, v0, vN⟩ := vx_run hn hc sx hr1
  obtain ⟨rv, h1, s1⟩ := r1
  dsimp only at hz hv x1 vN
  subst hz
  subst hv
  obtain ⟨-, ⟨rs, -, -, -, w1, f1⟩, k6, k7⟩ := x1
  have eA : Ar h1 6 = A' := by
    unfold Ar
    rw [k6]
  have eB : Ar h1 7 = B' := by
    unfold Ar
    rw [k7]
  rw [← eA, ← eB] at v0 vN
  obtain ⟨-, hN⟩ := cm_both (f := Ar h 2) (tp := Ar h 2) hn hc (fun _ _ => rfl)
  generalize xR n0 c (Ar h 2) = v at *
  have hh : pm_run PT n fr lo 88 (4, [some (.ref 0), none, none], [.int v], h1, 198, sl) = some R := hh
  obtain ⟨n, hh⟩ := rn_i rfl rfl rfl rfl hh
  have hh : pm_run PT n fr lo 88 (5, [some (.ref 0), some (.int v), none], [], h1, 198, sl) = some R := hh
  refine ⟨h1, w1, f1, v0, ?_⟩
  have no : pm_cmp .le v 0 = true → ∃ v : Int32, pm_cmp .le v 0 = true ∧ R = (some (.int v), fset h1 1 1 (.int (nI 0)), 198, sl) := fun hle => ⟨v, hle, (w88n_ok (q := q) (cc := cq) (gc := gc) w1 hle hh).1⟩
  rcases hN with ⟨e1, e2⟩ | ⟨e1, -⟩
  · generalize cmN (Ar h 2) n0 c = N at *
    by_cases z : N = 0
    · exact Or.inl (no (by rw [e1, z]; decide))
    · subst e1
      obtain ⟨a1, a2, a3⟩ := w88_ok (q := q) (cc := cq) (gc := gc) w1 (by omega) e2 ((Fi_e (f1 5 (by decide) (by decide))).trans h50) hh
      have en : (w88 q cq gc h1 N c).1 = nI N := by
        unfold w88
        cases decide (N ≤ 0) <;> rfl
      rw [en] at a1
      exact Or.inr ⟨N, by omega, e2, vN N (by omega) (by omega) rfl, a1, a2, a3⟩
  · exact Or.inl (no e1)
end CRX
end MG95zzykx3
end MH95zzyjx1
section MH95zzyjx2
section MG95zzyox0
/-! new COURTS on both sides -/
section CRL
variable {q : QT} {cq gc c N r : Nat} {h hx hm : pm_H}
/-- settled -/
def stI (c' : Nat) (h : pm_H) (i : Nat) (a : pm_H) : Prop := Ar a 14 = upd (Ar h 14) c' (nI 50) ∧ (∀ t, t < i → Ar a 15 (c' * 6 + t) = nI 10 ∧ Ar a 15 (t * 6 + c') = nI 10) ∧ ∀ k, (∀ t, t < i → k ≠ c' * 6 + t ∧ k ≠ t * 6 + c') → Ar a 15 k = Ar h 15 k
theorem st_step {c' k : Nat} {a : pm_H} (hc : c' < 6) (hk : k < c') (z : stI c' h k a) : stI c' h (k + 1) (w132_13b q cq gc a c' k) := by
  obtain ⟨z1, z2, z3⟩ := z
  unfold w132_13b
  refine ⟨(Ar_n (by decide)).trans z1, fun t ht => ?_, fun m hm => ?_⟩
  · rw [Ar_s]
    by_cases y : t = k
    · subst y
      exact ⟨by rw [up_n (by omega), up_e rfl], up_e rfl⟩
    · obtain ⟨e1, e2⟩ := z2 t (by omega)
      exact ⟨by rw [up_n (by omega), up_n (by omega)]; exact e1, by rw [up_n (by omega), up_n (by omega)]; exact e2⟩
  · rw [Ar_s, up_n (hm k (by omega)).2, up_n (hm k (by omega)).1]
    exact z3 m (fun t ht => hm t (by omega))
theorem w132_ar {c' : Nat} (hc : c' < 6) : stI c' h c' (w132 q cq gc h c') := by
  have z := lp_in (f := fun i a => w132_13b q cq gc a c' i) (P := stI c' h) c' 0 (aset h 14 6 (upd (Ar h 14) c' (nI 50))) ⟨Ar_s, fun t ht => absurd ht (Nat.not_lt_zero t), fun k _ => by rw [Ar_n (by decide)]⟩ (fun k a _ hk z => st_step hc (by omega) z)
  rw [Nat.zero_add] at z
  exact z
/-- so many new COURTS stand, on the class's side -/
def crJ (c : Nat) (h : pm_H) (i : Nat) (a : pm_H) : Prop := (∀ k, c ≤ k → k < c + i → Ar a 14 k = nI 50) ∧ (∀ k, (k < c ∨ c + i ≤ k) → Ar a 14 k = Ar h 14 k) ∧ (∀ x y, x < c + i → y < c + i → x ≠ y → (c ≤ x ∨ c ≤ y) → Ar a 15 (x * 6 + y) = nI 10) ∧ ∀ x y, x < c → y < c → Ar a 15 (x * 6 + y) = Ar h 15 (x * 6 + y)
theorem cr_step {i m : Nat} {a : pm_H} (hc : c + i < 6) (z : crJ c h i a) : crJ c h (i + 1) (w88_19b q cq gc a c m i) := by
  obtain ⟨z1, z2, z3, z4⟩ := z
  obtain ⟨s1, s2, s3⟩ := w132_ar (q := q) (cq := cq) (gc := gc) (h := a) hc
  unfold w88_19b
  refine ⟨fun k h1 h2 => ?_, fun k h1 => ?_, fun x y h1 h2 h3 h4 => ?_, fun x y h1 h2 => ?_⟩
  · rw [Ar_f, s1]
    by_cases y : k = c + i
    · exact up_e y
    · rw [up_n y]
      exact z1 k h1 (by omega)
  · rw [Ar_f, s1, up_n (by omega)]
    exact z2 k (by omega)
  · rw [Ar_f]
    by_cases y1 : x = c + i
    · rw [y1]
      exact (s2 y (by omega)).1
    · by_cases y2 : y = c + i
      · rw [y2]
        exact (s2 x (by omega)).2
      · rw [s3 (x * 6 + y) (fun t ht => ⟨by omega, by omega⟩)]
        exact z3 x y (by omega) (by omega) h3 h4
  · rw [Ar_f, s3 (x * 6 + y) (fun t ht => ⟨by omega, by omega⟩)]
    exact z4 x y h1 h2
theorem w88_ar (h1 : 1 ≤ N) (h6 : c + N ≤ 6) : crJ c h N (w88 q cq gc h N c).2 := by
  have z := lp_in (f := fun i a => w88_19b q cq gc a c N i) (P := crJ c h) N 0 (fset h 1 1 (.int (nI 0))) ⟨fun k h1 h2 => by omega, fun k _ => by rw [Ar_f], fun x y h1 h2 h3 h4 => by omega, fun x y _ _ => by rw [Ar_f]⟩ (fun k a _ hk z => cr_step (by omega) z)
  rw [Nat.zero_add] at z
  obtain ⟨z1, z2, z3, z4⟩ := z
  unfold w88
  rw [decide_eq_false (show ¬ N ≤ 0 by omega)]
  exact ⟨fun k a b => (congrFun (Ar_f.trans Ar_f) _).trans (z1 k a b), fun k a => (congrFun (Ar_f.trans Ar_f) _).trans (z2 k a), fun x y a b d e => (congrFun (Ar_f.trans Ar_f) _).trans (z3 x y a b d e), fun x y a b => (congrFun (Ar_f.trans Ar_f) _).trans (z4 x y a b)⟩
/-- the reference: one new COURT comes -/
def cmI (c' : Nat) (h : pm_H) (i : Nat) (a : pm_H) : Prop := (Ar a 164 = Ar h 164 ∧ Ar a 165 = Ar h 165 ∧ Ar a 173 = Ar h 173) ∧ (∀ t, t < i → (Ar a 170 (6 + 6 * c' + t) = nI 10 ∧ Ar a 170 (6 + 6 * t + c') = nI 10) ∧ Ar a 170 (42 + 6 * c' + t) = nI 0 ∧ Ar a 170 (42 + 6 * t + c') = nI 0) ∧ ∀ k, (∀ t, t < 6 → (k ≠ 6 + 6 * c' + t ∧ k ≠ 6 + 6 * t + c') ∧ k ≠ 42 + 6 * c' + t ∧ k ≠ 42 + 6 * t + c') → Ar a 170 k = Ar h 170 k
theorem w189_ar {x y : Nat} : (Ar (w189 q cq gc h x y) 164 = Ar h 164 ∧ Ar (w189 q cq gc h x y) 165 = Ar h 165 ∧ Ar (w189 q cq gc h x y) 173 = Ar h 173) ∧ Ar (w189 q cq gc h x y) 170 = upd (upd (Ar h 170) (6 + 6 * x + y) (nI 10)) (42 + 6 * x + y) (nI 0) := by
  unfold w189
  exact ⟨⟨(Ar_n (by decide)).trans (Ar_n (by decide)), (Ar_n (by decide)).trans (Ar_n (by decide)), (Ar_n (by decide)).trans (Ar_n (by decide))⟩, (Ar_n (by decide)).trans Ar_s⟩
theorem cm_step {c' k z1 z2 m : Nat} {t1 t2 t3 t4 : Int32} {a : pm_H} (hc : c' < 6) (hk : k < 6) (z : cmI c' h k a) : cmI c' h (k + 1) (w188_167b q cq gc a z1 c' t1 t2 t3 t4 m k) := by
  obtain ⟨⟨a1, a2, a3⟩, a4, a5⟩ := z
  unfold w188_167b
  obtain ⟨⟨b1, b2, b3⟩, b4⟩ := w189_ar (q := q) (cq := cq) (gc := gc) (h := a) (x := c') (y := k)
  obtain ⟨⟨d1, d2, d3⟩, d4⟩ := w189_ar (q := q) (cq := cq) (gc := gc) (h := w189 q cq gc a c' k) (x := k) (y := c')
  refine ⟨⟨d1.trans (b1.trans a1), d2.trans (b2.trans a2), d3.trans (b3.trans a3)⟩, fun t ht => ?_, fun j hj => ?_⟩
  · rw [d4, b4]
    by_cases y : t = k
    · subst y
      refine ⟨⟨?_, ?_⟩, ?_, ?_⟩
      · rw [up_n (by omega)]
        by_cases y : 6 + 6 * c' + t = 6 + 6 * t + c'
        · exact up_e y
        · rw [up_n y, up_n (by omega), up_e rfl]
      · rw [up_n (by omega), up_e rfl]
      · by_cases y : 42 + 6 * c' + t = 42 + 6 * t + c'
        · exact up_e y
        · rw [up_n y, up_n (by omega), up_e rfl]
      · exact up_e rfl
    · obtain ⟨⟨e1, e2⟩, e3, e4⟩ := a4 t (by omega)
      refine ⟨⟨?_, ?_⟩, ?_, ?_⟩
      · rw [up_n (by omega)]
        by_cases y : 6 + 6 * c' + t = 6 + 6 * k + c'
        · exact up_e y
        · rw [up_n y, up_n (by omega), up_n (by omega)]
          exact e1
      · rw [up_n (by omega), up_n (by omega), up_n (by omega)]
        by_cases y : 6 + 6 * t + c' = 6 + 6 * c' + k
        · exact up_e y
        · rw [up_n y]
          exact e2
      · by_cases y : 42 + 6 * c' + t = 42 + 6 * k + c'
        · exact up_e y
        · rw [up_n y, up_n (by omega), up_n (by omega), up_n (by omega)]
          exact e3
      · rw [up_n (by omega), up_n (by omega)]
        by_cases y : 42 + 6 * t + c' = 42 + 6 * c' + k
        · exact up_e y
        · rw [up_n y, up_n (by omega)]
          exact e4
  · obtain ⟨⟨e1, e2⟩, e3, e4⟩ := hj k hk
    rw [d4, b4, up_n e4, up_n e2, up_n e3, up_n e1]
    exact a5 j hj
def tsI (c' m : Nat) (h : pm_H) (i : Nat) (a : pm_H) : Prop := (Ar a 164 = Ar h 164 ∧ Ar a 170 = Ar h 170 ∧ Ar a 173 = Ar h 173) ∧ (∀ t, t < i → Ar a 165 (5 * c' + t) = Ar h 173 (6 * m + 1 + t)) ∧ ∀ k, (k < 5 * c' ∨ 5 * c' + i ≤ k) → Ar a 165 k = Ar h 165 k
theorem ts_step {c' k z1 m : Nat} {t1 t2 t3 t4 : Int32} {a : pm_H} (z : tsI c' m h k a) : tsI c' m h (k + 1) (w188_112b q cq gc a z1 c' t1 t2 t3 t4 m k) := by
  obtain ⟨⟨a1, a2, a3⟩, a4, a5⟩ := z
  unfold w188_112b
  refine ⟨⟨(Ar_n (by decide)).trans a1, (Ar_n (by decide)).trans a2, (Ar_n (by decide)).trans a3⟩, fun t ht => ?_, fun j hj => ?_⟩
  · rw [Ar_s]
    by_cases y : t = k
    · rw [y, up_e rfl, a3]
    · rw [up_n (by omega)]
      exact a4 t (by omega)
  · rw [Ar_s, up_n (by omega)]
    exact a5 j (by omega)
/-- so many new COURTS stand, on the reference's side -/
def crM (c : Nat) (h : pm_H) (i : Nat) (a : pm_H) : Prop := (Ar a 173 = Ar h 173 ∧ (∀ k, k < i → Ar a 164 (c + k) = Ar h 173 (6 * k) ∧ ∀ t, t < 5 → Ar a 165 (5 * (c + k) + t) = Ar h 173 (6 * k + 1 + t)) ∧ (∀ k, k < c → Ar a 164 k = Ar h 164 k) ∧ ∀ k, k < 5 * c → Ar a 165 k = Ar h 165 k) ∧ (∀ k, c ≤ k → k < c + i → Ar a 170 k = nI 50) ∧ (∀ k, (k < c ∨ c + i ≤ k ∧ k < 6) → Ar a 170 k = Ar h 170 k) ∧ (∀ x y, x < c + i → y < c + i → (c ≤ x ∨ c ≤ y) → Ar a 170 (6 + 6 * x + y) = nI 10) ∧ (∀ x y, x < c → y < c → Ar a 170 (6 + 6 * x + y) = Ar h 170 (6 + 6 * x + y)) ∧ (∀ x y, x < 6 → y < 6 → Ar a 170 (42 + 6 * x + y) = nI 0 ∨ Ar a 170 (42 + 6 * x + y) = Ar h 170 (42 + 6 * x + y)) ∧ (∀ x y, x < c → y < c → Ar a 170 (42 + 6 * x + y) = Ar h 170 (42 + 6 * x + y)) ∧ ∀ k, 78 ≤ k → Ar a 170 k = Ar h 170 k
theorem crM_step {i z1 : Nat} {t1 t2 t3 t4 : Int32} {a : pm_H} (hc : c + i < 6) (z : crM c h i a) : crM c h (i + 1) (w188_81b q cq gc a z1 c t1 t2 t3 t4 i) := by
  obtain ⟨⟨a1, a2, a3, a4⟩, b1, b2, b3, b4, b5, b6, b7⟩ := z
  have y1 := lp_in (f := fun j b => w188_112b q cq gc b z1 (c + i) t1 t2 t3 t4 i j) (P := tsI (c + i) i (aset a 164 6 (upd (Ar a 164) (c + i) (Ar a 173 (6 * i))))) 5 0 _ ⟨⟨rfl, rfl, rfl⟩, fun t ht => absurd ht (Nat.not_lt_zero t), fun k _ => rfl⟩ (fun k b _ hk z => ts_step z)
  have y1 : tsI (c + i) i (aset a 164 6 (upd (Ar a 164) (c + i) (Ar a 173 (6 * i)))) (0 + 5) (w188_112 q cq gc z1 (c + i) t1 t2 t3 t4 i 5 0 (aset a 164 6 (upd (Ar a 164) (c + i) (Ar a 173 (6 * i))))) := y1
  unfold w188_81b
  generalize w188_112 q cq gc z1 (c + i) t1 t2 t3 t4 i 5 0 (aset a 164 6 (upd (Ar a 164) (c + i) (Ar a 173 (6 * i)))) = u at y1 ⊢
  obtain ⟨⟨u1, u2, u3⟩, u4, u5⟩ := y1
  rw [Ar_s] at u1
  rw [Ar_n (by decide)] at u2 u3
  have y2 := lp_in (f := fun j b => w188_167b q cq gc b z1 (c + i) t1 t2 t3 t4 i j) (P := cmI (c + i) (aset u 170 96 (upd (Ar a 170) (c + i) (nI 50)))) 6 0 _ ⟨⟨rfl, rfl, rfl⟩, fun t ht => absurd ht (Nat.not_lt_zero t), fun k _ => rfl⟩ (fun k b _ hk z => cm_step (z2 := z1) hc (by omega) z)
  have y2 : cmI (c + i) (aset u 170 96 (upd (Ar a 170) (c + i) (nI 50))) (0 + 6) (w188_167 q cq gc z1 (c + i) t1 t2 t3 t4 i 6 0 (aset u 170 96 (upd (Ar a 170) (c + i) (nI 50)))) := y2
  generalize w188_167 q cq gc z1 (c + i) t1 t2 t3 t4 i 6 0 (aset u 170 96 (upd (Ar a 170) (c + i) (nI 50))) = w at y2 ⊢
  obtain ⟨⟨w1, w2, w3⟩, w4, w5⟩ := y2
  rw [Ar_n (by decide)] at w1 w2 w3
  rw [Ar_s] at w5
  have V4 : Ar w 164 = upd (Ar a 164) (c + i) (Ar a 173 (6 * i)) := w1.trans u1
  have V3 : Ar w 173 = Ar h 173 := w3.trans (u3.trans a1)
  have V5 : ∀ k, k < 5 * (c + i) → Ar w 165 k = Ar a 165 k := fun k hk => by rw [w2, u5 k (by omega), Ar_n (by decide)]
  have V6 : ∀ t, t < 5 → Ar w 165 (5 * (c + i) + t) = Ar h 173 (6 * i + 1 + t) := fun t ht => by rw [w2, u4 t (by omega), Ar_n (by decide), a1]
  refine ⟨⟨Ar_f.trans V3, fun k hk => ?_, fun k hk => ?_, fun k hk => ?_⟩, fun k h1 h2 => ?_, fun k h1 => ?_, fun x y h1 h2 h3 => ?_, fun x y h1 h2 => ?_, fun x y h1 h2 => ?_, fun x y h1 h2 => ?_, fun k h1 => ?_⟩
  · rw [Ar_f, Ar_f, V4]
    by_cases y : k = i
    · rw [y, up_e rfl, a1]
      exact ⟨rfl, V6⟩
    · rw [up_n (by omega)]
      obtain ⟨e1, e2⟩ := a2 k (by omega)
      exact ⟨e1, fun t ht => by rw [V5 _ (by omega)]; exact e2 t ht⟩
  · rw [Ar_f, V4, up_n (by omega)]
    exact a3 k hk
  · rw [Ar_f, V5 k (by omega)]
    exact a4 k hk
  · rw [Ar_f, w5 k (fun t ht => ⟨⟨by omega, by omega⟩, by omega, by omega⟩)]
    by_cases y : k = c + i
    · exact up_e y
    · rw [up_n y]
      exact b1 k h1 (by omega)
  · rw [Ar_f, w5 k (fun t ht => ⟨⟨by omega, by omega⟩, by omega, by omega⟩), up_n (by omega)]
    exact b2 k (by omega)
  · rw [Ar_f]
    by_cases y1 : x = c + i
    · rw [y1]
      exact (w4 y (by omega)).1.1
    · by_cases y2 : y = c + i
      · rw [y2]
        exact (w4 x (by omega)).1.2
      · rw [w5 _ (fun t ht => ⟨⟨by omega, by omega⟩, by omega, by omega⟩), up_n (by omega)]
        exact b3 x y (by omega) (by omega) h3
  · rw [Ar_f, w5 _ (fun t ht => ⟨⟨by omega, by omega⟩, by omega, by omega⟩), up_n (by omega)]
    exact b4 x y h1 h2
  · rw [Ar_f]
    by_cases y1 : x = c + i
    · rw [y1]
      exact Or.inl (w4 y (by omega)).2.1
    · by_cases y2 : y = c + i
      · rw [y2]
        exact Or.inl (w4 x (by omega)).2.2
      · rw [w5 _ (fun t ht => ⟨⟨by omega, by omega⟩, by omega, by omega⟩), up_n (by omega)]
        exact b5 x y h1 h2
  · rw [Ar_f, w5 _ (fun t ht => ⟨⟨by omega, by omega⟩, by omega, by omega⟩), up_n (by omega)]
    exact b6 x y h1 h2
  · rw [Ar_f, w5 _ (fun t ht => ⟨⟨by omega, by omega⟩, by omega, by omega⟩), up_n (by omega)]
    exact b7 k h1
theorem w188_ar {F x1 x2 x3 : Int32} (h6 : c + r ≤ 6) : crM c h r (w188 q cq gc h r c F x1 x2 x3).2 := by
  have z := lp_in (f := fun i a => w188_81b q cq gc a r c x1 x2 x3 F i) (P := crM c h) r 0 h ⟨⟨rfl, fun k hk => absurd hk (Nat.not_lt_zero k), fun _ _ => rfl, fun _ _ => rfl⟩, fun k h1 h2 => by omega, fun _ _ => rfl, fun x y h1 h2 h3 => by omega, fun _ _ _ _ => rfl, fun _ _ _ _ => Or.inr rfl, fun _ _ _ _ => rfl, fun _ _ => rfl⟩ (fun k a _ hk z => crM_step (by omega) z)
  rw [Nat.zero_add] at z
  have z : crM c h r (w188_81 q cq gc r c x1 x2 x3 F r 0 h) := z
  have e : ∀ b, Ar (w188 q cq gc h r c F x1 x2 x3).2 b = Ar (w188_81 q cq gc r c x1 x2 x3 F r 0 h) b := fun b => by
    unfold w188 w190
    exact Ar_f.trans Ar_f
  unfold crM at z ⊢
  rw [e 164, e 165, e 170, e 173]
  exact z
/-- both sides are alike behind new COURTS -/
theorem crt_rel (h6 : c + N ≤ 6) {X M X' M' : pm_H} {f : Nat → Int32} (hx : crJ c X N X') (hm : crM c M N M') (hv : ∀ k, k < N → Ar X 6 (c + k) = f (7 * k) - nI 48 ∧ ∀ j, j < 5 → Ar X 7 (5 * (c + k) + j) = f (7 * k + 1 + j) - nI 48) (hw : ∀ k, k < N → ∀ j, j < 6 → Ar M 173 (6 * k + j) = f (7 * k + j) - nI 48 ∧ dgt (f (7 * k + j) - nI 48)) {d hd ha : Nat → Int32} {x m : Int32} (s : RS c gc (Ar X 14) (Ar X 15) d hd ha x m (Ar M 170)) (ri : RI c gc (Ar M 170)) : RS (c + N) gc (Ar X' 14) (Ar X' 15) d hd ha x m (Ar M' 170) ∧ RI (c + N) gc (Ar M' 170) ∧ ∀ k, k < N → (Ar X 6 (c + k) = Ar M' 164 (c + k) ∧ dgt (Ar M' 164 (c + k))) ∧ ∀ j, j < 5 → Ar X 7 ((c + k) * 5 + j) = Ar M' 165 (5 * (c + k) + j) := by
  obtain ⟨x1, x2, x3, x4⟩ := hx
  obtain ⟨⟨m1, m2, m3, m4⟩, b1, b2, b3, b4, b5, b6, b7⟩ := hm
  obtain ⟨s1, s2, s3, s4, s5, s6, s7⟩ := s
  obtain ⟨r1, r2, r3, r4, r5⟩ := ri
  have ten : 0 ≤ (nI 10).toInt ∧ (nI 10).toInt ≤ 20 := by decide
  have z42 : ∀ a b, a < 6 → b < 6 → Ar M' 170 (42 + 6 * a + b) = Ar M 170 (42 + 6 * a + b) := fun a b h1 h2 => by
    rcases b5 a b h1 h2 with e | e
    · by_cases y : c ≤ a ∨ c ≤ b
      · rw [e, (r3 a b h1 h2).2 (by omega)]
        rfl
      · exact b6 a b (by omega) (by omega)
    · exact e
  refine ⟨⟨fun k hk => ?_, fun a b h1 h2 h3 => ?_, fun a b h1 h2 => ?_, fun j hj => ?_, fun j hj => ?_, ?_, ?_⟩, ⟨fun k hk => ?_, fun a b h1 h2 h3 => ?_, fun a b h1 h2 => ?_, fun j hj => ?_, fun k h1 h2 => ?_⟩, fun k hk => ?_⟩
  · by_cases y : c ≤ k ∧ k < c + N
    · rw [x1 k y.1 y.2, b1 k y.1 y.2]
    · rw [x2 k (by omega), b2 k (by omega)]
      exact s1 k hk
  · by_cases y : c ≤ a ∨ c ≤ b
    · rw [x3 a b h1 h2 h3 y, b3 a b h1 h2 y]
    · rw [x4 a b (by omega) (by omega), b4 a b (by omega) (by omega)]
      exact s2 a b (by omega) (by omega) h3
  · rw [z42 a b h1 h2]
    exact s3 a b h1 h2
  · rw [b7 _ (by omega)]
    exact s4 j hj
  · rw [b7 _ (by omega)]
    exact s5 j hj
  · rw [b7 _ (by omega)]
    exact s6
  · rw [b7 _ (by omega)]
    exact s7
  · by_cases y : c ≤ k ∧ k < c + N
    · rw [b1 k y.1 y.2]
      decide
    · rw [b2 k (by omega)]
      exact r1 k hk
  · by_cases y : c ≤ a ∨ c ≤ b
    · rw [b3 a b h1 h2 y]
      exact ten
    · rw [b4 a b (by omega) (by omega)]
      exact r2 a b (by omega) (by omega) h3
  · rw [z42 a b h1 h2]
    exact ⟨(r3 a b h1 h2).1, fun y => (r3 a b h1 h2).2 (by omega)⟩
  · obtain ⟨w, hw, e⟩ := r4 j hj
    exact ⟨w, by omega, (b7 _ (by omega)).trans e⟩
  · rw [b7 _ (by omega)]
    exact r5 k h1 h2
  · obtain ⟨e1, e2⟩ := m2 k hk
    obtain ⟨f1, f2⟩ := hv k hk
    have g0 := hw k hk 0 (by omega)
    refine ⟨⟨?_, ?_⟩, fun j hj => ?_⟩
    · rw [f1, e1]
      exact g0.1.symm
    · rw [e1, show Ar M 173 (6 * k) = f (7 * k) - nI 48 from g0.1]
      exact g0.2
    · rw [e2 j hj, show (c + k) * 5 + j = 5 * (c + k) + j by omega, f2 j hj]
      have g1 := (hw k hk (1 + j) (by omega)).1
      rw [show 6 * k + 1 + j = 6 * k + (1 + j) by omega, g1, show 7 * k + 1 + j = 7 * k + (1 + j) by omega]
end CRL
end MG95zzyox0
section MG95zzyox1
/-! the class's LINES of GIFTS, with their values -/
section GVX
variable {n fr lo sl n0 cc gc p t a g ln : Nat} {h g0 : pm_H} {R : pm_Rs} {f : Nat → Int32} {L1 L2 L3 L5 L6 k w e d : Int32}
def gW (h : pm_H) (g : Nat) (k w e d : Int32) : pm_H := aset (aset (aset (aset (aset h 9 8 (upd (Ar h 9) g k)) 10 8 (upd (Ar h 10) g w)) 11 8 (upd (Ar h 11) g e)) 17 8 (upd (Ar h 17) g d)) 18 8 (upd (Ar h 18) g (shl (nI 1) d))
def gR (R : pm_Rs) (h : pm_H) (sl : Nat) (s : Bool × Nat) (g : Nat) (k w e d : Int32) : Prop := R = (some (.int (xgA s)), cond s.1 (gW h g k w e d) h, 198, sl)
theorem xv_no {a : Nat} {pc : Nat} {L1 L2 L3 : Int32} {x5 x6 x7 x8 : Option Value} (hi : pm_ins PT 131 pc = some (.iconst (-1), 1)) (hi2 : pm_ins PT 131 (pc + 1) = some (.iload 4, 2)) (hi3 : pm_ins PT 131 (pc + 1 + 2) = some (.isub, 1)) (hi4 : pm_ins PT 131 (pc + 1 + 2 + 1) = some (.ireturn, 1)) (hh : pm_run PT n fr lo 131 (pc, [some (.ref 0), some (.int L1), some (.int L2), some (.int L3), some (.int (nI a)), x5, x6, x7, x8], [], h, 198, sl) = some R) : R = (some (.int (Int32.ofInt (-1) - nI a)), h, 198, sl) := by
  obtain ⟨n, hh⟩ := rn_i hi rfl rfl rfl hh
  obtain ⟨n, hh⟩ := rn_i hi2 rfl rfl rfl hh
  obtain ⟨n, hh⟩ := rn_i hi3 rfl rfl rfl hh
  exact (rn_ret hi4 (Or.inl rfl) hh).2
theorem xv_145 {a : Nat} (hn : n0 ≤ 80) (hc : cc ≤ 6) (ha : a < 900) (x : pX h n0 cc f) {L1 L2 L3 L5 L6 L7 : Int32} (hw : WT h) (hg : g < 8) (hh : pm_run PT n fr lo 131 (145, [some (.ref 0), some (.int (nI g)), some (.int L2), some (.int L3), some (.int (nI a)), some (.int L5), some (.int L6), some (.int L7), none], [], h, 198, sl) = some R) : gR R h sl (cond (dgi f (a + 1) (min n0 55) (Int32.ofInt 0) (nI cc - Int32.ofInt 1)) (true, a + 2) (false, a + 1)) g L3 L5 L7 (f (a + 1) - 48) := by
  obtain ⟨⟨fs, a1, a2, a3⟩, ⟨gs, g1, g2, g3⟩, c1, rs, d1, d2⟩ := id x
  obtain ⟨n, hh⟩ := rn_i rfl rfl rfl rfl hh
  obtain ⟨n, hh⟩ := rn_i rfl rfl rfl rfl hh
  obtain ⟨n, hh⟩ := rn_gfo (g := 0) rfl rfl (by decide) a1 a2 hh
  obtain ⟨n, hh⟩ := rn_i rfl rfl rfl rfl hh
  obtain ⟨n, hh⟩ := rn_i rfl rfl rfl rfl hh
  have e1 : nI a + Int32.ofInt 1 = nI (a + 1) := (Int32.ofNat_add a 1).symm
  have hh : pm_run PT n fr lo 131 (156, [some (.ref 0), some (.int (nI g)), some (.int L2), some (.int L3), some (.int (nI a + Int32.ofInt 1)), some (.int L5), some (.int L6), some (.int L7), none], [.int (nI 55), .int (nI a + Int32.ofInt 1), .ref 1], h, 198, sl) = some R := hh
  rw [e1] at hh
  obtain ⟨n, fr', lo', r1, hr1, hh⟩ := rn_call (w := 0) (t := 81) rfl rfl hh
  have er := dgA_run (l := 55) hn (by decide) (by omega) x hr1
  subst er
  have hh : pm_run PT n fr lo 131 (159, [some (.ref 0), some (.int (nI g)), some (.int L2), some (.int L3), some (.int (nI (a + 1))), some (.int L5), some (.int L6), some (.int L7), none], [.int (dgA f n0 (a + 1) 55)], h, 198, sl) = some R := hh
  obtain ⟨n, hh⟩ := rn_i rfl rfl rfl rfl hh
  obtain ⟨n, hh⟩ := rn_i rfl rfl rfl rfl hh
  obtain ⟨n, hh⟩ := rn_gfo (g := 2) rfl rfl (by decide) a1 a3 hh
  obtain ⟨n, hh⟩ := rn_i rfl rfl rfl rfl hh
  obtain ⟨n, fr', lo', r1, hr1, hh⟩ := rn_call (w := 0) (t := 23) rfl rfl hh
  have er := ic_run hc d1 d2 hr1
  subst er
  have hh : pm_run PT n fr lo 131 (170, [some (.ref 0), some (.int (nI g)), some (.int L2), some (.int L3), some (.int (nI (a + 1))), some (.int L5), some (.int L6), some (.int L7), some (.int (dgA f n0 (a + 1) 55))], [.int (cond (decide (0 ≤ (dgA f n0 (a + 1) 55).toInt ∧ (dgA f n0 (a + 1) 55).toInt < (cc : Int))) 1 0)], h, 198, sl) = some R := hh
  have ed : decide (0 ≤ (dgA f n0 (a + 1) 55).toInt ∧ (dgA f n0 (a + 1) 55).toInt < (cc : Int)) = dgi f (a + 1) (min n0 55) (Int32.ofInt 0) (nI cc - Int32.ofInt 1) := by
    rw [dgi_rng (by omega) (cc_m1 hc)]
    cases hd : dg f (a + 1) (min n0 55) with
    | false =>
      rw [dgA_no hd, show (Int32.ofInt (-1)).toInt = -1 by decide, decide_eq_false (by omega)]
      rfl
    | true =>
      obtain ⟨v1, v2⟩ := dg_val hd
      rw [dgA_yes hd, Bool.true_and, Bool.eq_iff_iff, decide_eq_true_iff, decide_eq_true_iff]
      omega
  rw [ed] at hh
  obtain ⟨n, hh⟩ := rn_if (cc := .ne) (off := 8) (t := 178) rfl rfl hh
  cases hi : dgi f (a + 1) (min n0 55) (Int32.ofInt 0) (nI cc - Int32.ofInt 1) with
  | false =>
    rw [hi] at hh
    have hh : pm_run PT n fr lo 131 (173, [some (.ref 0), some (.int (nI g)), some (.int L2), some (.int L3), some (.int (nI (a + 1))), some (.int L5), some (.int L6), some (.int L7), some (.int (dgA f n0 (a + 1) 55))], [], h, 198, sl) = some R := hh
    exact xv_no rfl rfl rfl rfl hh
  | true =>
    rw [hi] at hh
    have hh : pm_run PT n fr lo 131 (178, [some (.ref 0), some (.int (nI g)), some (.int L2), some (.int L3), some (.int (nI (a + 1))), some (.int L5), some (.int L6), some (.int L7), some (.int (dgA f n0 (a + 1) 55))], [], h, 198, sl) = some R := hh
    have hd : dg f (a + 1) (min n0 55) = true := by
      rw [dgi_rng (by omega) (cc_m1 hc), Bool.and_eq_true] at hi
      exact hi.1
    rw [dgA_yes hd] at hh
    obtain ⟨e, -, -⟩ := w131_ok (q := (0, 0, 0)) (cc := 0) (gc := 0) hw hg (by omega) hh
    exact e
theorem xv_119 (hn : n0 ≤ 80) (hc : cc ≤ 6) (ha : a < 800) (x : pX h n0 cc f) (hw : WT h) (hg : g < 8) (hh : pm_run PT n fr lo 131 (119, [some (.ref 0), some (.int (nI g)), some (.int L2), some (.int L3), some (.int (nI a)), some (.int (L5)), some (.int (L6)), none, none], [], h, 198, sl) = some R) : gR R h sl (rgE f (min n0 55) cc (a + 1)) g L3 L5 (f (a + 1) - 48) (f (a + 2) - 48) := by
  obtain ⟨⟨fs, a1, a2, a3⟩, -⟩ := id x
  obtain ⟨n, hh⟩ := rn_i rfl rfl rfl rfl hh
  obtain ⟨n, hh⟩ := rn_i rfl rfl rfl rfl hh
  obtain ⟨n, hh⟩ := rn_gfo (g := 0) rfl rfl (by decide) a1 a2 hh
  obtain ⟨n, hh⟩ := rn_i rfl rfl rfl rfl hh
  obtain ⟨n, hh⟩ := rn_i rfl rfl rfl rfl hh
  have e1 : nI a + Int32.ofInt 1 = nI (a + 1) := (Int32.ofNat_add a 1).symm
  have hh : pm_run PT n fr lo 131 (130, [some (.ref 0), some (.int (nI g)), some (.int L2), some (.int L3), some (.int (nI a + Int32.ofInt 1)), some (.int (L5)), some (.int (L6)), none, none], [.int (nI 55), .int (nI a + Int32.ofInt 1), .ref 1], h, 198, sl) = some R := hh
  rw [e1] at hh
  obtain ⟨n, fr', lo', r1, hr1, hh⟩ := rn_call (w := 0) (t := 81) rfl rfl hh
  have er := dgA_run (l := 55) hn (by decide) (by omega) x hr1
  subst er
  have hh : pm_run PT n fr lo 131 (133, [some (.ref 0), some (.int (nI g)), some (.int L2), some (.int L3), some (.int (nI (a + 1))), some (.int (L5)), some (.int (L6)), none, none], [.int (dgA f n0 (a + 1) 55)], h, 198, sl) = some R := hh
  obtain ⟨n, hh⟩ := rn_i rfl rfl rfl rfl hh
  obtain ⟨n, hh⟩ := rn_i rfl rfl rfl rfl hh
  obtain ⟨n, hh⟩ := rn_if (cc := .ge) (off := 8) (t := 145) rfl rfl hh
  unfold rgE
  cases hd : dg f (a + 1) (min n0 55) with
  | false =>
    rw [dgA_no hd, show pm_cmp .ge (Int32.ofInt (-1)) 0 = false by decide] at hh
    have hh : pm_run PT n fr lo 131 (140, [some (.ref 0), some (.int (nI g)), some (.int L2), some (.int L3), some (.int (nI (a + 1))), some (.int (L5)), some (.int (L6)), some (.int (Int32.ofInt (-1))), none], [], h, 198, sl) = some R := hh
    exact xv_no rfl rfl rfl rfl hh
  | true =>
    obtain ⟨v1, v2⟩ := dg_val hd
    rw [dgA_yes hd, ge0_val v1] at hh
    simp only [cond_true]
    have hh : pm_run PT n fr lo 131 (145, [some (.ref 0), some (.int (nI g)), some (.int L2), some (.int L3), some (.int (nI (a + 1))), some (.int (L5)), some (.int (L6)), some (.int (f (a + 1) - 48)), none], [], h, 198, sl) = some R := hh
    exact xv_145 (L1 := L2) hn hc (by omega) x hw hg hh
theorem xv_95 (hn : n0 ≤ 80) (hc : cc ≤ 6) (ha : a < 700) (x : pX h n0 cc f) (hw : WT h) (hg : g < 8) (hh : pm_run PT n fr lo 131 (95, [some (.ref 0), some (.int (nI g)), some (.int L2), some (.int L3), some (.int (nI a)), some (.int (L5)), some (.int (L6)), none, none], [], h, 198, sl) = some R) : gR R h sl (rgC f (min n0 55) cc (a + 1)) g L3 L5 (f (a + 2) - 48) (f (a + 3) - 48) := by
  obtain ⟨⟨fs, a1, a2, a3⟩, -⟩ := id x
  obtain ⟨n, hh⟩ := rn_i rfl rfl rfl rfl hh
  obtain ⟨n, hh⟩ := rn_i rfl rfl rfl rfl hh
  obtain ⟨n, hh⟩ := rn_gfo (g := 0) rfl rfl (by decide) a1 a2 hh
  obtain ⟨n, hh⟩ := rn_i rfl rfl rfl rfl hh
  obtain ⟨n, hh⟩ := rn_i rfl rfl rfl rfl hh
  have e1 : nI a + Int32.ofInt 1 = nI (a + 1) := (Int32.ofNat_add a 1).symm
  have hh : pm_run PT n fr lo 131 (106, [some (.ref 0), some (.int (nI g)), some (.int L2), some (.int L3), some (.int (nI a + Int32.ofInt 1)), some (.int (L5)), some (.int (L6)), none, none], [.int (nI 55), .int (nI a + Int32.ofInt 1), .ref 1], h, 198, sl) = some R := hh
  rw [e1] at hh
  obtain ⟨n, fr', lo', r1, hr1, hh⟩ := rn_call (w := 0) (t := 80) rfl rfl hh
  have er := sgA_run (l := 55) hn (by decide) (by omega) x hr1
  subst er
  have hh : pm_run PT n fr lo 131 (109, [some (.ref 0), some (.int (nI g)), some (.int L2), some (.int L3), some (.int (nI (a + 1))), some (.int (L5)), some (.int (L6)), none, none], [.int (sgA f n0 (a + 1) 55)], h, 198, sl) = some R := hh
  obtain ⟨n, hh⟩ := rn_i rfl rfl rfl rfl hh
  obtain ⟨n, hh⟩ := rn_icmp (cc := .eq) (off := 8) (t := 119) rfl rfl hh
  have hh : pm_run PT n fr lo 131 (cond (pm_cmp .eq (sgA f n0 (a + 1) 55) 44) 119 114, [some (.ref 0), some (.int (nI g)), some (.int L2), some (.int L3), some (.int (nI (a + 1))), some (.int (L5)), some (.int (L6)), none, none], [], h, 198, sl) = some R := hh
  have es : pm_cmp .eq (sgA f n0 (a + 1) 55) 44 = decide (a + 1 < min n0 55 ∧ f (a + 1) = 44) := by
    unfold sgA
    by_cases q : a + 1 < min n0 55
    · rw [decide_eq_true q]
      show decide (f (a + 1) = 44) = _
      rw [Bool.eq_iff_iff, decide_eq_true_iff, decide_eq_true_iff]
      exact ⟨fun e => ⟨q, e⟩, fun e => e.2⟩
    · rw [decide_eq_false q, decide_eq_false (fun e => q e.1)]
      show pm_cmp .eq (Int32.ofInt (-1)) 44 = false
      decide
  rw [es] at hh
  unfold rgC
  cases v : decide (a + 1 < min n0 55 ∧ f (a + 1) = 44) with
  | false =>
    rw [v] at hh
    exact xv_no rfl rfl rfl rfl hh
  | true =>
    rw [v] at hh
    simp only [cond_true]
    exact xv_119 hn hc (by omega) x hw hg hh
theorem xv_85 {v : Int32} (hn : n0 ≤ 80) (hc : cc ≤ 6) (ha : a < 700) (x : pX h n0 cc f) (hw : WT h) (hg : g < 8) (hh : pm_run PT n fr lo 131 (85, [some (.ref 0), some (.int (nI g)), some (.int L2), some (.int L3), some (.int (nI a)), some (.int (v)), some (.int (L6)), none, none], [], h, 198, sl) = some R) : gR R h sl (rgW f (min n0 55) cc (a + 1, v)) g L3 v (f (a + 2) - 48) (f (a + 3) - 48) := by
  obtain ⟨n, hh⟩ := rn_i rfl rfl rfl rfl hh
  obtain ⟨n, hh⟩ := rn_if (cc := .ne) (off := 8) (t := 95) rfl rfl hh
  unfold rgW
  dsimp only
  by_cases z : v = 0
  · rw [show pm_cmp .ne v 0 = false from decide_eq_false (fun q => q z)] at hh
    rw [decide_eq_true z]
    simp only [cond_true]
    have hh : pm_run PT n fr lo 131 (90, [some (.ref 0), some (.int (nI g)), some (.int L2), some (.int L3), some (.int (nI a)), some (.int (v)), some (.int (L6)), none, none], [], h, 198, sl) = some R := hh
    exact xv_no rfl rfl rfl rfl hh
  · rw [show pm_cmp .ne v 0 = true from decide_eq_true z] at hh
    rw [decide_eq_false z]
    simp only [cond_false]
    exact xv_95 hn hc ha x hw hg hh
theorem xv_24 (hn : n0 ≤ 80) (hc : cc ≤ 6) (hp : p < 600) (x : pX h n0 cc f) (hw : WT h) (hg : g < 8) (hh : pm_run PT n fr lo 131 (24, [some (.ref 0), some (.int (nI g)), some (.int (nI p)), some (.int L3), none, none, none, none, none], [], h, 198, sl) = some R) : gR R h sl (cond (dg f (p + 1) (min n0 55)) (rgW f (min n0 55) cc (nbr f (min n0 55) 2 (p + 1) 0)) (false, p + 1)) g L3 (nbr f (min n0 55) 2 (p + 1) 0).2 (f ((nbr f (min n0 55) 2 (p + 1) 0).1 + 1) - 48) (f ((nbr f (min n0 55) 2 (p + 1) 0).1 + 2) - 48) := by
  obtain ⟨⟨fs, a1, a2, a3⟩, -⟩ := id x
  obtain ⟨n, hh⟩ := rn_i rfl rfl rfl rfl hh
  obtain ⟨n, hh⟩ := rn_i rfl rfl rfl rfl hh
  obtain ⟨n, hh⟩ := rn_i rfl rfl rfl rfl hh
  obtain ⟨n, hh⟩ := rn_i rfl rfl rfl rfl hh
  obtain ⟨n, hh⟩ := rn_i rfl rfl rfl rfl hh
  obtain ⟨n, hh⟩ := rn_gfo (g := 0) rfl rfl (by decide) a1 a2 hh
  obtain ⟨n, hh⟩ := rn_i rfl rfl rfl rfl hh
  obtain ⟨n, hh⟩ := rn_i rfl rfl rfl rfl hh
  have e1 : nI p + Int32.ofInt 1 = nI (p + 1) := (Int32.ofNat_add p 1).symm
  have hh : pm_run PT n fr lo 131 (37, [some (.ref 0), some (.int (nI g)), some (.int (nI p)), some (.int L3), some (.int (nI p + Int32.ofInt 1)), none, none, none, none], [.int (nI 55), .int (nI p + Int32.ofInt 1), .ref 1], h, 198, sl) = some R := hh
  rw [e1] at hh
  obtain ⟨n, fr', lo', r1, hr1, hh⟩ := rn_call (w := 0) (t := 81) rfl rfl hh
  have er := dgA_run (l := 55) hn (by decide) (by omega) x hr1
  subst er
  have hh : pm_run PT n fr lo 131 (40, [some (.ref 0), some (.int (nI g)), some (.int (nI p)), some (.int L3), some (.int (nI (p + 1))), none, none, none, none], [.int (dgA f n0 (p + 1) 55)], h, 198, sl) = some R := hh
  obtain ⟨n, hh⟩ := rn_i rfl rfl rfl rfl hh
  obtain ⟨n, hh⟩ := rn_i rfl rfl rfl rfl hh
  obtain ⟨n, hh⟩ := rn_if (cc := .ge) (off := 8) (t := 52) rfl rfl hh
  cases hd : dg f (p + 1) (min n0 55) with
  | false =>
    rw [dgA_no hd, show pm_cmp .ge (Int32.ofInt (-1)) 0 = false by decide] at hh
    have hh : pm_run PT n fr lo 131 (47, [some (.ref 0), some (.int (nI g)), some (.int (nI p)), some (.int L3), some (.int (nI (p + 1))), some (.int (Int32.ofInt (-1))), none, none, none], [], h, 198, sl) = some R := hh
    exact xv_no rfl rfl rfl rfl hh
  | true =>
    obtain ⟨v1, v2⟩ := dg_val hd
    rw [dgA_yes hd, ge0_val v1] at hh
    simp only [cond_true]
    have en : nbr f (min n0 55) 2 (p + 1) 0 = nbr f (min n0 55) 1 (p + 2) (f (p + 1) - 48) := by
      rw [show nbr f (min n0 55) 2 (p + 1) 0 = nbr f (min n0 55) (1 + 1) (p + 1) 0 from rfl, nbr_gt _ hd]
      have ez : (10 * 0 + f (p + 1) - 48 : Int32) = f (p + 1) - 48 := by simp
      rw [ez]
    rw [en]
    have hh : pm_run PT n fr lo 131 (52, [some (.ref 0), some (.int (nI g)), some (.int (nI p)), some (.int L3), some (.int (nI (p + 1))), some (.int (f (p + 1) - 48)), none, none, none], [], h, 198, sl) = some R := hh
    obtain ⟨n, hh⟩ := rn_i rfl rfl rfl rfl hh
    obtain ⟨n, hh⟩ := rn_gfo (g := 0) rfl rfl (by decide) a1 a2 hh
    obtain ⟨n, hh⟩ := rn_i rfl rfl rfl rfl hh
    obtain ⟨n, hh⟩ := rn_i rfl rfl rfl rfl hh
    obtain ⟨n, hh⟩ := rn_i rfl rfl rfl rfl hh
    obtain ⟨n, hh⟩ := rn_i rfl rfl rfl rfl hh
    have e2 : nI (p + 1) + Int32.ofInt 1 = nI (p + 2) := (Int32.ofNat_add (p + 1) 1).symm
    have hh : pm_run PT n fr lo 131 (62, [some (.ref 0), some (.int (nI g)), some (.int (nI p)), some (.int L3), some (.int (nI (p + 1))), some (.int (f (p + 1) - 48)), none, none, none], [.int (nI 55), .int (nI (p + 1) + Int32.ofInt 1), .ref 1], h, 198, sl) = some R := hh
    rw [e2] at hh
    obtain ⟨n, fr', lo', r1, hr1, hh⟩ := rn_call (w := 0) (t := 81) rfl rfl hh
    have er := dgA_run (l := 55) hn (by decide) (by omega) x hr1
    subst er
    have hh : pm_run PT n fr lo 131 (65, [some (.ref 0), some (.int (nI g)), some (.int (nI p)), some (.int L3), some (.int (nI (p + 1))), some (.int (f (p + 1) - 48)), none, none, none], [.int (dgA f n0 (p + 2) 55)], h, 198, sl) = some R := hh
    obtain ⟨n, hh⟩ := rn_i rfl rfl rfl rfl hh
    obtain ⟨n, hh⟩ := rn_i rfl rfl rfl rfl hh
    obtain ⟨n, hh⟩ := rn_if (cc := .lt) (off := 16) (t := 85) rfl rfl hh
    show gR R h sl (rgW f (min n0 55) cc (nbr f (min n0 55) (0 + 1) (p + 2) (f (p + 1) - 48))) g L3 (nbr f (min n0 55) (0 + 1) (p + 2) (f (p + 1) - 48)).2 (f ((nbr f (min n0 55) (0 + 1) (p + 2) (f (p + 1) - 48)).1 + 1) - 48) (f ((nbr f (min n0 55) (0 + 1) (p + 2) (f (p + 1) - 48)).1 + 2) - 48)
    cases he : dg f (p + 2) (min n0 55) with
    | false =>
      rw [dgA_no he, show pm_cmp .lt (Int32.ofInt (-1)) 0 = true by decide] at hh
      have eb : nbr f (min n0 55) (0 + 1) (p + 2) (f (p + 1) - 48) = (p + 1 + 1, f (p + 1) - 48) := by
        unfold nbr
        rw [he]
        rfl
      rw [eb]
      exact xv_85 hn hc (by omega) x hw hg hh
    | true =>
      obtain ⟨w1, w2⟩ := dg_val he
      rw [dgA_yes he, lt0_val w1] at hh
      have eb : nbr f (min n0 55) (0 + 1) (p + 2) (f (p + 1) - 48) = (p + 2 + 1, nI 10 * (f (p + 1) - 48) + (f (p + 2) - 48)) := by
        rw [nbr_gt _ he]
        show (p + 2 + 1, 10 * (f (p + 1) - 48) + f (p + 2) - 48) = _
        rw [Int32.sub_eq_add_neg (10 * (f (p + 1) - 48) + f (p + 2)), Int32.sub_eq_add_neg (f (p + 2)), Int32.add_assoc]
        rfl
      rw [eb]
      obtain ⟨n, hh⟩ := rn_i rfl rfl rfl rfl hh
      obtain ⟨n, hh⟩ := rn_i rfl rfl rfl rfl hh
      obtain ⟨n, hh⟩ := rn_i rfl rfl rfl rfl hh
      obtain ⟨n, hh⟩ := rn_i rfl rfl rfl rfl hh
      obtain ⟨n, hh⟩ := rn_i rfl rfl rfl rfl hh
      obtain ⟨n, hh⟩ := rn_i rfl rfl rfl rfl hh
      obtain ⟨n, hh⟩ := rn_i rfl rfl rfl rfl hh
      have e3 : nI (p + 1) + Int32.ofInt 1 = nI (p + 2) := (Int32.ofNat_add (p + 1) 1).symm
      have hh : pm_run PT n fr lo 131 (85, [some (.ref 0), some (.int (nI g)), some (.int (nI p)), some (.int L3), some (.int (nI (p + 1) + Int32.ofInt 1)), some (.int (nI 10 * (f (p + 1) - 48) + (f (p + 2) - 48))), some (.int (f (p + 2) - 48)), none, none], [], h, 198, sl) = some R := hh
      rw [e3] at hh
      exact xv_85 hn hc (by omega) x hw hg hh
theorem xv_run (hn : n0 ≤ 80) (hc : cc ≤ 6) (hp : p < 600) (x : pX h n0 cc f) (hw : WT h) (hg : g < 8) (hh : pm_run PT n fr lo 131 (0, pm_l0 [.ref 0, .int (nI g), .int (nI p)] 9, [], h, 198, sl) = some R) : gR R h sl (rgL f (min n0 55) cc p) g (f p - 48) (nbr f (min n0 55) 2 (p + 1) 0).2 (f ((nbr f (min n0 55) 2 (p + 1) 0).1 + 1) - 48) (f ((nbr f (min n0 55) 2 (p + 1) 0).1 + 2) - 48) := by
  obtain ⟨⟨fs, a1, a2, a3⟩, -⟩ := id x
  obtain ⟨n, hh⟩ := rn_i rfl rfl rfl rfl hh
  obtain ⟨n, hh⟩ := rn_gfo (g := 0) rfl rfl (by decide) a1 a2 hh
  obtain ⟨n, hh⟩ := rn_i rfl rfl rfl rfl hh
  obtain ⟨n, hh⟩ := rn_i rfl rfl rfl rfl hh
  obtain ⟨n, fr', lo', r1, hr1, hh⟩ := rn_call (w := 0) (t := 81) rfl rfl hh
  have er := dgA_run (l := 55) hn (by decide) (by omega) x hr1
  subst er
  have hh : pm_run PT n fr lo 131 (10, [some (.ref 0), some (.int (nI g)), some (.int (nI p)), none, none, none, none, none, none], [.int (dgA f n0 p 55)], h, 198, sl) = some R := hh
  have no : ∀ (n : Nat) (y : Int32), pm_run PT n fr lo 131 (20, [some (.ref 0), some (.int (nI g)), some (.int (nI p)), some (.int y), none, none, none, none, none], [], h, 198, sl) = some R → R = (some (.int (Int32.ofInt (-1) - nI p)), h, 198, sl) := by
    intro n y hh
    obtain ⟨n, hh⟩ := rn_i rfl rfl rfl rfl hh
    obtain ⟨n, hh⟩ := rn_i rfl rfl rfl rfl hh
    obtain ⟨n, hh⟩ := rn_i rfl rfl rfl rfl hh
    exact (rn_ret rfl (Or.inl rfl) hh).2
  obtain ⟨n, hh⟩ := rn_i rfl rfl rfl rfl hh
  obtain ⟨n, hh⟩ := rn_i rfl rfl rfl rfl hh
  obtain ⟨n, hh⟩ := rn_if (cc := .lt) (off := 8) (t := 20) rfl rfl hh
  unfold rgL
  rw [dgi_rng (c := 5) (by decide) (by decide)]
  cases hd : dg f p (min n0 55) with
  | false =>
    rw [dgA_no hd, show pm_cmp .lt (Int32.ofInt (-1)) 0 = true by decide] at hh
    show gR R h sl (cond (false && _) _ (false, p)) g _ _ _ _
    exact no n _ hh
  | true =>
    obtain ⟨v1, v2⟩ := dg_val hd
    rw [dgA_yes hd, lt0_val v1] at hh
    have hh : pm_run PT n fr lo 131 (15, [some (.ref 0), some (.int (nI g)), some (.int (nI p)), some (.int (f p - 48)), none, none, none, none, none], [], h, 198, sl) = some R := hh
    obtain ⟨n, hh⟩ := rn_i rfl rfl rfl rfl hh
    obtain ⟨n, hh⟩ := rn_i rfl rfl rfl rfl hh
    obtain ⟨n, hh⟩ := rn_icmp (cc := .lt) (off := 7) (t := 24) rfl rfl hh
    have el : pm_cmp .lt (f p - 48) (Int32.ofInt 5) = decide ((f p - 48).toInt < ((5 : Nat) : Int)) := by
      simp only [pm_cmp]
      rw [Bool.eq_iff_iff, decide_eq_true_iff, decide_eq_true_iff, Int32.lt_iff_toInt_lt, show (Int32.ofInt 5).toInt = ((5 : Nat) : Int) by decide]
    rw [el] at hh
    rw [Bool.true_and]
    cases y : decide ((f p - 48).toInt < ((5 : Nat) : Int)) with
    | false =>
      rw [y] at hh
      simp only [cond_false]
      exact no n _ hh
    | true =>
      rw [y] at hh
      simp only [cond_true]
      exact xv_24 hn hc hp x hw hg hh
theorem gW_ar : Ar (gW h g k w e d) 9 = upd (Ar h 9) g k ∧ Ar (gW h g k w e d) 10 = upd (Ar h 10) g w ∧ Ar (gW h g k w e d) 11 = upd (Ar h 11) g e ∧ Ar (gW h g k w e d) 17 = upd (Ar h 17) g d ∧ Ar (gW h g k w e d) 18 = upd (Ar h 18) g (shl (nI 1) d) := by
  unfold gW
  refine ⟨?_, ?_, ?_, ?_, Ar_s⟩
  · rw [Ar_n (by decide), Ar_n (by decide), Ar_n (by decide), Ar_n (by decide), Ar_s]
  · rw [Ar_n (by decide), Ar_n (by decide), Ar_n (by decide), Ar_s]
  · rw [Ar_n (by decide), Ar_n (by decide), Ar_s]
  · rw [Ar_n (by decide), Ar_s]
theorem gW_ne {i : Nat} (h1 : i ≠ 9) (h2 : i ≠ 10) (h3 : i ≠ 11) (h4 : i ≠ 17) (h5 : i ≠ 18) : gW h g k w e d i = h i := by
  unfold gW
  rw [asR_ne h5, asR_ne h4, asR_ne h3, asR_ne h2, asR_ne h1]
theorem gW_wt (hw : WT h) : WT (gW h g k w e d) := wt_as rfl (wt_as rfl (wt_as rfl (wt_as rfl (wt_as rfl hw))))
theorem pX_e {h' : pm_H} (h0 : h' 0 = h 0) (h1 : h' 1 = h 1) (h2 : h' 2 = h 2) (h5 : h' 5 = h 5) (x : pX h n0 cc f) : pX h' n0 cc f := by
  obtain ⟨⟨fs, a1, a2⟩, ⟨gs, b1, b2⟩, c1, rs, d1, d2⟩ := x
  exact ⟨⟨fs, h0.trans a1, a2⟩, ⟨gs, h1.trans b1, b2⟩, h2.trans c1, rs, h5.trans d1, d2⟩
/-- what a LINE that begins at p tells of the gift g -/
def gvL (f : Nat → Int32) (t p : Nat) (h : pm_H) (g : Nat) : Prop := Ar h 9 g = f p - 48 ∧ Ar h 10 g = (nbr f t 2 (p + 1) 0).2 ∧ Ar h 11 g = f ((nbr f t 2 (p + 1) 0).1 + 1) - 48 ∧ Ar h 17 g = f ((nbr f t 2 (p + 1) 0).1 + 2) - 48 ∧ Ar h 18 g = shl (nI 1) (f ((nbr f t 2 (p + 1) 0).1 + 2) - 48)
/-- where the LINES begin -/
def gps (f : Nat → Int32) (t cc : Nat) : Nat → Nat
  | 0 => 0
  | r + 1 => (rgL f t cc (gps f t cc r)).2 + 1
def gvX (g0 h : pm_H) (n0 cc gc : Nat) (f : Nat → Int32) (ln : Nat) : Prop := (pX h n0 cc f ∧ rG h (.int (nI gc)) ∧ WT h) ∧ (∀ i, i ≠ 9 → i ≠ 10 → i ≠ 11 → i ≠ 17 → i ≠ 18 → h i = g0 i) ∧ (∀ j, j < gc → Ar h 9 j = Ar g0 9 j ∧ Ar h 10 j = Ar g0 10 j ∧ Ar h 11 j = Ar g0 11 j ∧ Ar h 17 j = Ar g0 17 j ∧ Ar h 18 j = Ar g0 18 j) ∧ ∀ r, r < ln → (rgL f (min n0 55) cc (gps f (min n0 55) cc r)).1 = true ∧ gvL f (min n0 55) (gps f (min n0 55) cc r) h (gc + r)
theorem gvX_0 (x : gvX g0 h n0 cc gc f ln) : gvX g0 h n0 cc gc f 0 := ⟨x.1, x.2.1, x.2.2.1, fun r hr => by omega⟩
theorem gvX_s (x : gvX g0 h n0 cc gc f ln) (hy : (rgL f (min n0 55) cc (gps f (min n0 55) cc ln)).1 = true) : gvX g0 (gW h (gc + ln) (f (gps f (min n0 55) cc ln) - 48) (nbr f (min n0 55) 2 (gps f (min n0 55) cc ln + 1) 0).2 (f ((nbr f (min n0 55) 2 (gps f (min n0 55) cc ln + 1) 0).1 + 1) - 48) (f ((nbr f (min n0 55) 2 (gps f (min n0 55) cc ln + 1) 0).1 + 2) - 48)) n0 cc gc f (ln + 1) := by
  obtain ⟨⟨x1, ⟨rs, x2, x3⟩, x4⟩, x5, x6, x7⟩ := x
  obtain ⟨p, hp⟩ : ∃ p, p = gps f (min n0 55) cc ln := ⟨_, rfl⟩
  rw [← hp]
  have hA := gW_ar (h := h) (g := gc + ln) (k := f p - 48) (w := (nbr f (min n0 55) 2 (p + 1) 0).2) (e := f ((nbr f (min n0 55) 2 (p + 1) 0).1 + 1) - 48) (d := f ((nbr f (min n0 55) 2 (p + 1) 0).1 + 2) - 48)
  have hN := fun i h1 h2 h3 h4 h5 => gW_ne (h := h) (g := gc + ln) (k := f p - 48) (w := (nbr f (min n0 55) 2 (p + 1) 0).2) (e := f ((nbr f (min n0 55) 2 (p + 1) 0).1 + 1) - 48) (d := f ((nbr f (min n0 55) 2 (p + 1) 0).1 + 2) - 48) (i := i) h1 h2 h3 h4 h5
  have hW := gW_wt (g := gc + ln) (k := f p - 48) (w := (nbr f (min n0 55) 2 (p + 1) 0).2) (e := f ((nbr f (min n0 55) 2 (p + 1) 0).1 + 1) - 48) (d := f ((nbr f (min n0 55) 2 (p + 1) 0).1 + 2) - 48) x4
  generalize gW h (gc + ln) (f p - 48) (nbr f (min n0 55) 2 (p + 1) 0).2 (f ((nbr f (min n0 55) 2 (p + 1) 0).1 + 1) - 48) (f ((nbr f (min n0 55) 2 (p + 1) 0).1 + 2) - 48) = h' at *
  obtain ⟨a9, a10, a11, a17, a18⟩ := hA
  refine ⟨⟨pX_e (hN 0 (by decide) (by decide) (by decide) (by decide) (by decide)) (hN 1 (by decide) (by decide) (by decide) (by decide) (by decide)) (hN 2 (by decide) (by decide) (by decide) (by decide) (by decide)) (hN 5 (by decide) (by decide) (by decide) (by decide) (by decide)) x1, ⟨rs, (hN 5 (by decide) (by decide) (by decide) (by decide) (by decide)).trans x2, x3⟩, hW⟩, fun i h1 h2 h3 h4 h5 => (hN i h1 h2 h3 h4 h5).trans (x5 i h1 h2 h3 h4 h5), fun j hj => ?_, fun r hr => ?_⟩
  · have nj : j ≠ gc + ln := by omega
    rw [a9, a10, a11, a17, a18]
    unfold upd
    rw [if_neg nj, if_neg nj, if_neg nj, if_neg nj, if_neg nj]
    exact x6 j hj
  · by_cases z : r = ln
    · rw [z]
      refine ⟨hy, ?_⟩
      unfold gvL
      rw [a9, a10, a11, a17, a18, ← hp]
      unfold upd
      rw [if_pos rfl, if_pos rfl, if_pos rfl, if_pos rfl, if_pos rfl]
      exact ⟨rfl, rfl, rfl, rfl, rfl⟩
    · obtain ⟨y1, y2⟩ := x7 r (by omega)
      refine ⟨y1, ?_⟩
      unfold gvL at y2 ⊢
      rw [a9, a10, a11, a17, a18]
      unfold upd
      have nj : gc + r ≠ gc + ln := by omega
      rw [if_neg nj, if_neg nj, if_neg nj, if_neg nj, if_neg nj]
      exact y2
/-- what stands when the reader ends: nothing of the gifts that there are is changed; all LINES, if they are so many -/
def gP (g0 : pm_H) (R : pm_Rs) (n0 cc gc : Nat) (f : Nat → Int32) (sl : Nat) : Prop := R.2.2 = (198, sl) ∧ gvX g0 R.2.1 n0 cc gc f 0 ∧ ∀ N, 1 ≤ N → N < 10 → R.1 = some (.int (nI N)) → gvX g0 R.2.1 n0 cc gc f N
theorem gP_no {b : Nat} (hb : b < 100) (x : gvX g0 h n0 cc gc f ln) (e : R = (some (.int (Int32.ofInt (-1) - nI b)), h, 198, sl)) : gP g0 R n0 cc gc f sl := by
  rw [e]
  refine ⟨rfl, gvX_0 x, fun N h1 h2 e2 => ?_⟩
  have e2 : Int32.ofInt (-1) - nI b = nI N := Value.int.inj (Option.some.inj e2)
  exact absurd e2 (m1_nN b hb N h2)
theorem gxs_loop (hn : n0 ≤ 80) (hc : cc ≤ 6) : ∀ (k ln n : Nat) (h : pm_H) (x3 : Option Value), gc + ln + k = 9 → 0 < k → gps f (min n0 55) cc ln ≤ min n0 55 → gvX g0 h n0 cc gc f ln → pm_run PT n fr lo 130 (16, [some (.ref 0), some (.int (nI (gps f (min n0 55) cc ln))), some (.int (nI ln)), x3], [], h, 198, sl) = some R → gP g0 R n0 cc gc f sl := by
  intro k
  induction k with
  | zero => intro ln n h x3 hk h0; exact absurd h0 (by omega)
  | succ k ih =>
    intro ln n h x3 hk h0 hp X hh
    obtain ⟨x, xg, xw⟩ := X.1
    obtain ⟨⟨fs, a1, a2, a3⟩, ⟨gs, g1, g2, g3⟩, c1, -⟩ := id x
    obtain ⟨rs, d1, d2⟩ := id xg
    have hs : gps f (min n0 55) cc (ln + 1) = (rgL f (min n0 55) cc (gps f (min n0 55) cc ln)).2 + 1 := rfl
    have hX := fun hy => gvX_s X hy
    have hle := rgL_le (tp := f) (cc := cc) hp
    obtain ⟨p, ep⟩ : ∃ p, p = gps f (min n0 55) cc ln := ⟨_, rfl⟩
    rw [← ep] at hp hh hs hX hle
    obtain ⟨n, hh⟩ := rn_i rfl rfl rfl rfl hh
    obtain ⟨n, hh⟩ := rn_i rfl rfl rfl rfl hh
    obtain ⟨n, hh⟩ := rn_icmp (cc := .ge) (off := 79) (t := 98) rfl rfl hh
    have ec : pm_cmp .ge (nI ln) (Int8.ofInt 8).toInt32 = decide (8 ≤ ln) := hI_ge (a := ln) (b := 8) (by omega) (by omega)
    rw [ec] at hh
    by_cases z6 : 8 ≤ ln
    · rw [decide_eq_true z6] at hh
      obtain ⟨n, hh⟩ := rn_i rfl rfl rfl rfl hh
      obtain ⟨n, hh⟩ := rn_i rfl rfl rfl rfl hh
      obtain ⟨n, hh⟩ := rn_i rfl rfl rfl rfl hh
      exact gP_no (b := p) (by omega) X (rn_ret rfl (Or.inl rfl) hh).2
    · rw [decide_eq_false z6] at hh
      obtain ⟨n, hh⟩ := rn_i rfl rfl rfl rfl hh
      obtain ⟨n, hh⟩ := rn_gfo (g := 2) rfl rfl (by decide) a1 a3 hh
      obtain ⟨n, hh⟩ := rn_gfo (g := 1) rfl rfl (by decide) d1 d2 hh
      obtain ⟨n, hh⟩ := rn_i rfl rfl rfl rfl hh
      obtain ⟨n, hh⟩ := rn_i rfl rfl rfl rfl hh
      obtain ⟨n, hh⟩ := rn_i rfl rfl rfl rfl hh
      obtain ⟨n, hh⟩ := rn_i rfl rfl rfl rfl hh
      obtain ⟨n, hh⟩ := rn_i rfl rfl rfl rfl hh
      obtain ⟨n, hh⟩ := rn_icmp (cc := .lt) (off := 7) (t := 42) rfl rfl hh
      have ea : nI gc + nI ln = nI (gc + ln) := nI_add gc ln
      have hh : pm_run PT n fr lo 130 (cond (pm_cmp .lt (nI gc + nI ln) (nI 8)) 42 38, [some (.ref 0), some (.int (nI p)), some (.int (nI ln)), some (.int (nI gc + nI ln))], [], h, 198, sl) = some R := hh
      rw [ea, hI_lt (by omega) (by omega)] at hh
      by_cases z : gc + ln = 8
      · rw [decide_eq_false (by omega)] at hh
        obtain ⟨n, hh⟩ := rn_i rfl rfl rfl rfl hh
        obtain ⟨n, hh⟩ := rn_i rfl rfl rfl rfl hh
        obtain ⟨n, hh⟩ := rn_i rfl rfl rfl rfl hh
        exact gP_no (b := p) (by omega) X (rn_ret rfl (Or.inl rfl) hh).2
      · rw [decide_eq_true (by omega)] at hh
        have hh : pm_run PT n fr lo 130 (42, [some (.ref 0), some (.int (nI p)), some (.int (nI ln)), some (.int (nI (gc + ln)))], [], h, 198, sl) = some R := hh
        obtain ⟨n, hh⟩ := rn_i rfl rfl rfl rfl hh
        obtain ⟨n, hh⟩ := rn_i rfl rfl rfl rfl hh
        obtain ⟨n, hh⟩ := rn_i rfl rfl rfl rfl hh
        obtain ⟨n, fr', lo', r1, hr1, hh⟩ := rn_call (w := 0) (t := 131) rfl rfl hh
        have hv : gR r1 h sl (rgL f (min n0 55) cc p) (gc + ln) (f p - 48) (nbr f (min n0 55) 2 (p + 1) 0).2 (f ((nbr f (min n0 55) 2 (p + 1) 0).1 + 1) - 48) (f ((nbr f (min n0 55) 2 (p + 1) 0).1 + 2) - 48) := xv_run hn hc (by omega) x xw (by omega) hr1
        unfold gR at hv
        generalize gW h (gc + ln) (f p - 48) (nbr f (min n0 55) 2 (p + 1) 0).2 (f ((nbr f (min n0 55) 2 (p + 1) 0).1 + 1) - 48) (f ((nbr f (min n0 55) 2 (p + 1) 0).1 + 2) - 48) = h' at hX hv
        have hv : r1 = (some (.int (xgA (rgL f (min n0 55) cc p))), cond (rgL f (min n0 55) cc p).1 h' h, 198, sl) := hv
        rw [hv] at hh
        have hh : pm_run PT n fr lo 130 (48, [some (.ref 0), some (.int (nI p)), some (.int (nI ln)), some (.int (nI (gc + ln)))], [.int (xgA (rgL f (min n0 55) cc p))], cond (rgL f (min n0 55) cc p).1 h' h, 198, sl) = some R := hh
        generalize rgL f (min n0 55) cc p = w at *
        have y1 := neg_ge (a := w.2) (by omega)
        unfold xgA at hh
        cases y : w.1 with
        | false =>
          rw [y, cond_false, cond_false] at hh
          obtain ⟨n, hh⟩ := rn_i rfl rfl rfl rfl hh
          obtain ⟨n, hh⟩ := rn_i rfl rfl rfl rfl hh
          obtain ⟨n, hh⟩ := rn_if (cc := .ge) (off := 5) (t := 55) rfl rfl hh
          rw [y1] at hh
          obtain ⟨n, hh⟩ := rn_i rfl rfl rfl rfl hh
          exact gP_no (b := w.2) (by omega) X (rn_ret rfl (Or.inl rfl) hh).2
        | true =>
          rw [y, cond_true, cond_true] at hh
          have hX := hX y
          generalize w.2 = b at *
          obtain ⟨x', -⟩ := id hX.1
          obtain ⟨⟨fs, a1, a2, a3⟩, ⟨gs, g1, g2, g3⟩, -⟩ := id x'
          obtain ⟨n, hh⟩ := rn_i rfl rfl rfl rfl hh
          obtain ⟨n, hh⟩ := rn_i rfl rfl rfl rfl hh
          obtain ⟨n, hh⟩ := rn_if (cc := .ge) (off := 5) (t := 55) rfl rfl hh
          have eg : pm_cmp .ge (nI b) 0 = true := by
            have := hI_ge (a := b) (b := 0) (by omega) (by omega)
            rw [decide_eq_true (Nat.zero_le b)] at this
            exact this
          rw [eg] at hh
          obtain ⟨n, hh⟩ := rn_i rfl rfl rfl rfl hh
          obtain ⟨n, hh⟩ := rn_i rfl rfl rfl rfl hh
          obtain ⟨n, hh⟩ := rn_gfo (g := 0) rfl rfl (by decide) a1 a2 hh
          obtain ⟨n, hh⟩ := rn_gfo (g := 1) rfl rfl (by decide) g1 g3 hh
          obtain ⟨n, hh⟩ := rn_icmp (cc := .ne) (off := 7) (t := 70) rfl rfl hh
          rw [hI_ne (by omega) (by omega)] at hh
          by_cases u : b = n0
          · rw [decide_eq_false (fun q => q u)] at hh
            obtain ⟨n, hh⟩ := rn_i rfl rfl rfl rfl hh
            obtain ⟨n, hh⟩ := rn_i rfl rfl rfl rfl hh
            obtain ⟨n, hh⟩ := rn_i rfl rfl rfl rfl hh
            have e1 : nI ln + Int32.ofInt 1 = nI (ln + 1) := (Int32.ofNat_add ln 1).symm
            have e := (rn_ret rfl (Or.inl rfl) hh).2
            rw [e]
            refine ⟨rfl, gvX_0 hX, fun N h1 h2 e2 => ?_⟩
            have e2 : nI ln + Int32.ofInt 1 = nI N := Value.int.inj (Option.some.inj e2)
            rw [e1] at e2
            have e3 : ln + 1 = N := nI_ij (by omega) (by omega) e2
            rw [← e3]
            exact hX
          · rw [decide_eq_true u] at hh
            have hh : pm_run PT n fr lo 130 (70, [some (.ref 0), some (.int (nI b)), some (.int (nI ln)), some (.int (nI (gc + ln)))], [], h', 198, sl) = some R := hh
            obtain ⟨n, hh⟩ := rn_i rfl rfl rfl rfl hh
            obtain ⟨n, hh⟩ := rn_gfo (g := 0) rfl rfl (by decide) a1 a2 hh
            obtain ⟨n, hh⟩ := rn_i rfl rfl rfl rfl hh
            obtain ⟨n, hh⟩ := rn_i rfl rfl rfl rfl hh
            obtain ⟨n, fr', lo', r1, hr1, hh⟩ := rn_call (w := 0) (t := 80) rfl rfl hh
            have er := sgA_run (l := 55) hn (by decide) (by omega) x' hr1
            subst er
            have hh : pm_run PT n fr lo 130 (80, [some (.ref 0), some (.int (nI b)), some (.int (nI ln)), some (.int (nI (gc + ln)))], [.int (sgA f n0 b 55)], h', 198, sl) = some R := hh
            obtain ⟨n, hh⟩ := rn_i rfl rfl rfl rfl hh
            obtain ⟨n, hh⟩ := rn_icmp (cc := .eq) (off := 7) (t := 89) rfl rfl hh
            have hh : pm_run PT n fr lo 130 (cond (pm_cmp .eq (sgA f n0 b 55) 59) 89 85, [some (.ref 0), some (.int (nI b)), some (.int (nI ln)), some (.int (nI (gc + ln)))], [], h', 198, sl) = some R := hh
            have es : pm_cmp .eq (sgA f n0 b 55) 59 = decide (b < min n0 55 ∧ f b = 59) := by
              unfold sgA
              by_cases q : b < min n0 55
              · rw [decide_eq_true q]
                show decide (f b = 59) = _
                rw [Bool.eq_iff_iff, decide_eq_true_iff, decide_eq_true_iff]
                exact ⟨fun e => ⟨q, e⟩, fun e => e.2⟩
              · rw [decide_eq_false q, decide_eq_false (fun e => q e.1)]
                show pm_cmp .eq (Int32.ofInt (-1)) 59 = false
                decide
            rw [es] at hh
            cases v : decide (b < min n0 55 ∧ f b = 59) with
            | false =>
              rw [v] at hh
              obtain ⟨n, hh⟩ := rn_i rfl rfl rfl rfl hh
              obtain ⟨n, hh⟩ := rn_i rfl rfl rfl rfl hh
              obtain ⟨n, hh⟩ := rn_i rfl rfl rfl rfl hh
              exact gP_no (b := b) (by omega) hX (rn_ret rfl (Or.inl rfl) hh).2
            | true =>
              rw [v] at hh
              have vv := of_decide_eq_true v
              obtain ⟨n, hh⟩ := rn_i rfl rfl rfl rfl hh
              obtain ⟨n, hh⟩ := rn_i rfl rfl rfl rfl hh
              obtain ⟨n, hh⟩ := rn_i rfl rfl rfl rfl hh
              have hh : pm_run PT n fr lo 130 (16, [some (.ref 0), some (.int (nI b + Int32.ofInt 1)), some (.int (nI ln + Int32.ofInt 1)), some (.int (nI (gc + ln)))], [], h', 198, sl) = some R := hh
              rw [show nI b + Int32.ofInt 1 = nI (b + 1) from (Int32.ofNat_add b 1).symm, show nI ln + Int32.ofInt 1 = nI (ln + 1) from (Int32.ofNat_add ln 1).symm, ← hs] at hh
              exact ih (ln + 1) n h' _ (by omega) (by omega) (by omega) hX hh
theorem gxs_run (hn : n0 ≤ 80) (hc : cc ≤ 6) (hg : gc ≤ 8) (X : gvX g0 h n0 cc gc f 0) (hh : pm_run PT n fr lo 130 (0, pm_l0 [.ref 0] 4, [], h, 198, sl) = some R) : gP g0 R n0 cc gc f sl := by
  obtain ⟨x, -⟩ := id X.1
  obtain ⟨⟨fs, a1, a2, a3⟩, ⟨gs, g1, g2, g3⟩, -⟩ := id x
  obtain ⟨n, hh⟩ := rn_i rfl rfl rfl rfl hh
  obtain ⟨n, hh⟩ := rn_gfo (g := 0) rfl rfl (by decide) a1 a2 hh
  obtain ⟨n, hh⟩ := rn_gfo (g := 1) rfl rfl (by decide) g1 g3 hh
  obtain ⟨n, hh⟩ := rn_if (cc := .ne) (off := 5) (t := 12) rfl rfl hh
  cases z : pm_cmp .ne (nI n0) 0 with
  | false =>
    rw [z] at hh
    obtain ⟨n, hh⟩ := rn_i rfl rfl rfl rfl hh
    have e := (rn_ret rfl (Or.inl rfl) hh).2
    rw [e]
    refine ⟨rfl, X, fun N h1 h2 e2 => ?_⟩
    have e2 : nI 0 = nI N := Value.int.inj (Option.some.inj e2)
    have e3 : 0 = N := nI_ij (by omega) (by omega) e2
    omega
  | true =>
    rw [z] at hh
    have hh : pm_run PT n fr lo 130 (12, [some (.ref 0), none, none, none], [], h, 198, sl) = some R := hh
    obtain ⟨n, hh⟩ := rn_i rfl rfl rfl rfl hh
    obtain ⟨n, hh⟩ := rn_i rfl rfl rfl rfl hh
    obtain ⟨n, hh⟩ := rn_i rfl rfl rfl rfl hh
    obtain ⟨n, hh⟩ := rn_i rfl rfl rfl rfl hh
    have hh : pm_run PT n fr lo 130 (16, [some (.ref 0), some (.int (nI (gps f (min n0 55) cc 0))), some (.int (nI 0)), none], [], h, 198, sl) = some R := hh
    exact gxs_loop hn hc (9 - gc) 0 n h none (by omega) (by omega) (Nat.zero_le _) X hh
end GVX
end MG95zzyox1
section MG95zzyox2
/-! the reference's LINES of GIFTS, with their values -/
section GWM
variable {n fr lo sl t cc gc a rm j0 j1 : Nat} {h g0 : pm_H} {tp Rd Rd1 : Nat → Int32} {R : pm_Rs} {V : (Nat → Int32) → Prop} {s : Bool × Nat}
def pW (g0 h : pm_H) (tp : Nat → Int32) (t cc gc a rm : Nat) (Rd : Nat → Int32) : Prop := pG h tp t cc gc a rm ∧ h 173 = .inl (0, 36, .inl Rd) ∧ WT h ∧ (∀ i, i ≠ 162 → i ≠ 173 → h i = g0 i) ∧ ∀ g, g ≠ 16 → g ≠ 20 → Fi h 162 g = Fi g0 162 g
theorem pW_16 {b : Nat} (p : pW g0 h tp t cc gc a rm Rd) : pW g0 (mset h 16 (.int (nI b))) tp t cc gc b rm Rd := by
  obtain ⟨p1, p2, p3, p4, p5⟩ := p
  have e := mset_fs (v := .int (nI b)) p1.1.1.1
  refine ⟨pG_16 p1, mset_arr (by decide) p2, ?_, fun i h1 h2 => (mset_ne h1).trans (p4 i h1 h2), fun g h1 h2 => ?_⟩
  · rw [e]
    exact wt_fs rfl (by decide) rfl p3
  · rw [e]
    exact (Fi_n (Or.inr h1)).trans (p5 g h1 h2)
theorem pW_20 {b : Nat} (p : pW g0 h tp t cc gc a rm Rd) : pW g0 (mset h 20 (.int (nI b))) tp t cc gc a b Rd := by
  obtain ⟨p1, p2, p3, p4, p5⟩ := p
  have e := mset_fs (v := .int (nI b)) p1.1.2.1
  refine ⟨pG_20 p1, mset_arr (by decide) p2, ?_, fun i h1 h2 => (mset_ne h1).trans (p4 i h1 h2), fun g h1 h2 => ?_⟩
  · rw [e]
    exact wt_fs rfl (by decide) rfl p3
  · rw [e]
    exact (Fi_n (Or.inr h2)).trans (p5 g h1 h2)
theorem pW_rd {Rd' : Nat → Int32} (p : pW g0 h tp t cc gc a rm Rd) : pW g0 (aset h 173 36 Rd') tp t cc gc a rm Rd' := by
  obtain ⟨p1, p2, p3, p4, p5⟩ := p
  exact ⟨pG_rd p1, asR_self, wt_as rfl p3, fun i h1 h2 => (asR_ne h2).trans (p4 i h1 h2), fun g h1 h2 => (Fi_a (by decide)).trans (p5 g h1 h2)⟩
def gwR (g0 : pm_H) (R : pm_Rs) (tp : Nat → Int32) (t cc gc rm : Nat) (Rd : Nat → Int32) (j0 : Nat) (s : Bool × Nat) (V : (Nat → Int32) → Prop) (sl : Nat) : Prop := R.1 = some (.int (cond s.1 1 0)) ∧ R.2.2 = (198, sl) ∧ ∃ rm' Rd', pW g0 R.2.1 tp t cc gc s.2 rm' Rd' ∧ (∀ j, j < 4 * rm + j0 → Rd' j = Rd j) ∧ (s.1 = true → rm' = rm + 1 ∧ V Rd')
theorem gwR_mono (h : gwR g0 R tp t cc gc rm Rd1 j1 s V sl) (hj : j0 ≤ j1) (he : ∀ j, j < 4 * rm + j0 → Rd1 j = Rd j) : gwR g0 R tp t cc gc rm Rd j0 s V sl := by
  obtain ⟨h1, h2, rm', Rd', h3, h4, h5⟩ := h
  exact ⟨h1, h2, rm', Rd', h3, fun j hj' => (h4 j (by omega)).trans (he j hj'), h5⟩
/-- LINE r as it was read -/
def gvM (tp : Nat → Int32) (t cc r : Nat) (Rd : Nat → Int32) : Prop := Rd (4 * r) = tp (gps tp t cc r) - 48 ∧ Rd (4 * r + 1) = (nbr tp t 2 (gps tp t cc r + 1) 0).2 ∧ Rd (4 * r + 2) = tp ((nbr tp t 2 (gps tp t cc r + 1) 0).1 + 1) - 48 ∧ Rd (4 * r + 3) = tp ((nbr tp t 2 (gps tp t cc r + 1) 0).1 + 2) - 48
theorem rv_0 (p : pW g0 h tp t cc gc a rm Rd) {k1 : Int32} {j0 : Nat} (hh : pm_run PT n fr lo 191 (44, [some (.ref 162), some (.int k1)], [], h, 198, sl) = some R) : gwR g0 R tp t cc gc rm Rd j0 ((false, a)) V sl := by
  obtain ⟨n, hh⟩ := rn_i rfl rfl rfl rfl hh
  have e := (rn_ret rfl (Or.inr rfl) hh).2
  subst e
  exact ⟨rfl, rfl, rm, Rd, p, fun _ _ => rfl, fun q => by cases q⟩
theorem rv_102 (p : pW g0 h tp t cc gc a rm Rd) {k1 : Int32} {j0 : Nat} (hh : pm_run PT n fr lo 191 (102, [some (.ref 162), some (.int k1)], [], h, 198, sl) = some R) : gwR g0 R tp t cc gc rm Rd j0 ((false, a)) V sl := by
  obtain ⟨n, hh⟩ := rn_i rfl rfl rfl rfl hh
  have e := (rn_ret rfl (Or.inr rfl) hh).2
  subst e
  exact ⟨rfl, rfl, rm, Rd, p, fun _ _ => rfl, fun q => by cases q⟩
/-- from 151 on: the LINE is counted; does its court stand -/
theorem rv_151 {v : Int32} {b : Bool} (hb : pm_cmp .lt v 0 = !b) (hrm : rm < 8) (p : pW g0 h tp t cc gc a rm Rd) {j0 : Nat} (ev : Rd (4 * rm + 3) = v) (hV : b = true → V Rd) (hh : pm_run PT n fr lo 191 (151, [some (.ref 162), some (.int (nI (4 * rm)))], [], h, 198, sl) = some R) : gwR g0 R tp t cc gc rm Rd j0 ((b, a)) V sl := by
  obtain ⟨n, hh⟩ := rn_i rfl rfl rfl rfl hh
  obtain ⟨n, hh⟩ := rn_i rfl rfl rfl rfl hh
  obtain ⟨n, hh⟩ := rn_gfm rfl rfl p.1.1.2.1 hh
  obtain ⟨n, hh⟩ := rn_i rfl rfl rfl rfl hh
  obtain ⟨n, hh⟩ := rn_i rfl rfl rfl rfl hh
  obtain ⟨n, hh⟩ := rn_pfm (w := .int (nI rm)) rfl rfl rfl (by decide) p.1.1.2.1 hh
  have e1 : nI rm + Int32.ofInt 1 = nI (rm + 1) := (Int32.ofNat_add rm 1).symm
  have hh : pm_run PT n fr lo 191 (161, [some (.ref 162), some (.int (nI (4 * rm)))], [], mset h 20 (.int (nI rm + Int32.ofInt 1)), 198, sl) = some R := hh
  rw [e1] at hh
  have p' := pW_20 (b := rm + 1) p
  obtain ⟨n, hh⟩ := rn_i rfl rfl rfl rfl hh
  obtain ⟨n, hh⟩ := rn_gfm rfl rfl p'.1.1.2.2.2.1 hh
  obtain ⟨n, hh⟩ := rn_i rfl rfl rfl rfl hh
  obtain ⟨n, hh⟩ := rn_i rfl rfl rfl rfl hh
  obtain ⟨n, hh⟩ := rn_i rfl rfl rfl rfl hh
  have e3 : nI (4 * rm) + Int32.ofInt 3 = nI (4 * rm + 3) := (Int32.ofNat_add (4 * rm) 3).symm
  have hh : pm_run PT n fr lo 191 (168, [some (.ref 162), some (.int (nI (4 * rm)))], [.int (nI (4 * rm) + Int32.ofInt 3), .ref 173], mset h 20 (.int (nI (rm + 1))), 198, sl) = some R := hh
  rw [e3] at hh
  obtain ⟨n, hh⟩ := rn_iam rfl (mset_arr (by decide) p.2.1) (hI_in (by omega) (by decide)) (by decide) hh
  rw [nI_clamp (by omega), ev] at hh
  obtain ⟨n, hh⟩ := rn_if (cc := .lt) (off := 7) (t := 176) rfl rfl hh
  rw [hb] at hh
  cases b with
  | true =>
    obtain ⟨n, hh⟩ := rn_i rfl rfl rfl rfl hh
    obtain ⟨n, hh⟩ := rn_i rfl rfl rfl rfl hh
    have e := (rn_ret rfl (Or.inr rfl) hh).2
    subst e
    exact ⟨rfl, rfl, rm + 1, Rd, p', fun _ _ => rfl, fun q => ⟨rfl, hV q⟩⟩
  | false =>
    obtain ⟨n, hh⟩ := rn_i rfl rfl rfl rfl hh
    have e := (rn_ret rfl (Or.inr rfl) hh).2
    subst e
    exact ⟨rfl, rfl, rm + 1, Rd, p', fun _ _ => rfl, fun q => ⟨rfl, hV q⟩⟩
theorem rv_150 {v : Int32} {b : Bool} (hb : pm_cmp .lt v 0 = !b) (hrm : rm < 8) (p : pW g0 h tp t cc gc a rm Rd) (hV : b = true → V (upd Rd (4 * rm + 3) v)) (hh : pm_run PT n fr lo 191 (150, [some (.ref 162), some (.int (nI (4 * rm)))], [.int v, .int (nI (4 * rm + 3)), .ref 173], h, 198, sl) = some R) : gwR g0 R tp t cc gc rm Rd 3 ((b, a)) V sl := by
  have hA := p.2.1
  obtain ⟨n, hh⟩ := rn_ism rfl hA (hI_in (by omega) (by decide)) (by decide) hh
  rw [nI_clamp (by omega)] at hh
  exact gwR_mono (j1 := 3) (rv_151 hb hrm (pW_rd p) (by simp [upd]) hV hh) (Nat.le_refl _) (fun j hj => if_neg (by omega))
/-- from 104 on: what it eats, and its court -/
theorem rv_104 (ht : t ≤ 80) (ha : a < 98) (hrm : rm < 8) (p : pW g0 h tp t cc gc a rm Rd) (hV : ∀ Rd', (∀ j, j < 4 * rm + 2 → Rd' j = Rd j) → Rd' (4 * rm + 2) = tp a - 48 → Rd' (4 * rm + 3) = tp (a + 1) - 48 → V Rd') (hh : pm_run PT n fr lo 191 (104, [some (.ref 162), some (.int (nI (4 * rm)))], [], h, 198, sl) = some R) : gwR g0 R tp t cc gc rm Rd 2 (rgE tp t cc a) V sl := by
  obtain ⟨⟨⟨⟨q1, q2, q3, q4⟩, q5, q6, q7, -⟩, q9⟩, q8, -⟩ := id p
  obtain ⟨n, hh⟩ := rn_i rfl rfl rfl rfl hh
  obtain ⟨n, hh⟩ := rn_gfm rfl rfl q7 hh
  obtain ⟨n, hh⟩ := rn_i rfl rfl rfl rfl hh
  obtain ⟨n, hh⟩ := rn_i rfl rfl rfl rfl hh
  obtain ⟨n, hh⟩ := rn_i rfl rfl rfl rfl hh
  obtain ⟨n, hh⟩ := rn_i rfl rfl rfl rfl hh
  obtain ⟨n, hh⟩ := rn_i rfl rfl rfl rfl hh
  obtain ⟨n, fr', lo', r1, hr1, hh⟩ := rn_call (w := 0) (t := 184) rfl rfl hh
  have er := rn_dt (F := 10) (Lo := 1000) (hd_number (fr := 10) (lo := 1000) (sl := sl) q1 q2 q3 q4 ht (by omega) (by decide) (by decide) (d := 1) (by decide)) hr1
  have e2 : nI (4 * rm) + Int32.ofInt 2 = nI (4 * rm + 2) := (Int32.ofNat_add (4 * rm) 2).symm
  have e3 : nI (4 * rm) + Int32.ofInt 3 = nI (4 * rm + 3) := (Int32.ofNat_add (4 * rm) 3).symm
  have hin : pm_in (nI (4 * rm + 2)) 36 = true := hI_in (by omega) (by decide)
  unfold rgE
  cases hd : dg tp a t with
  | false =>
    rw [hd] at er
    dsimp only [cond] at er
    subst er
    have hh : pm_run PT n fr lo 191 (116, [some (.ref 162), some (.int (nI (4 * rm)))], [.int (-1), .int (nI (4 * rm) + Int32.ofInt 2), .ref 173], h, 198, sl) = some R := hh
    rw [e2] at hh
    obtain ⟨n, hh⟩ := rn_ism rfl q8 hin (by decide) hh
    have p' := pW_rd (Rd' := upd Rd (nI (4 * rm + 2)).toNatClampNeg (-1)) p
    obtain ⟨n, hh⟩ := rn_i rfl rfl rfl rfl hh
    obtain ⟨n, hh⟩ := rn_gfm rfl rfl p'.1.1.2.2.2.1 hh
    obtain ⟨n, hh⟩ := rn_i rfl rfl rfl rfl hh
    obtain ⟨n, hh⟩ := rn_i rfl rfl rfl rfl hh
    obtain ⟨n, hh⟩ := rn_i rfl rfl rfl rfl hh
    obtain ⟨n, hh⟩ := rn_i rfl rfl rfl rfl hh
    obtain ⟨n, hh⟩ := rn_gfm rfl rfl p'.1.1.2.2.2.1 hh
    obtain ⟨n, hh⟩ := rn_i rfl rfl rfl rfl hh
    obtain ⟨n, hh⟩ := rn_i rfl rfl rfl rfl hh
    obtain ⟨n, hh⟩ := rn_i rfl rfl rfl rfl hh
    have hh : pm_run PT n fr lo 191 (131, [some (.ref 162), some (.int (nI (4 * rm)))], [.int (nI (4 * rm) + Int32.ofInt 2), .ref 173, .int (nI (4 * rm) + Int32.ofInt 3), .ref 173], _, 198, sl) = some R := hh
    rw [e2, e3] at hh
    obtain ⟨n, hh⟩ := rn_iam rfl asR_self hin (by decide) hh
    have eu : upd Rd (nI (4 * rm + 2)).toNatClampNeg (-1) (nI (4 * rm + 2)).toNatClampNeg = (-1 : Int32) := by simp [upd]
    rw [eu] at hh
    obtain ⟨n, hh⟩ := rn_if (cc := .ge) (off := 7) (t := 139) rfl rfl hh
    rw [show pm_cmp .ge (-1 : Int32) 0 = false by decide] at hh
    obtain ⟨n, hh⟩ := rn_i rfl rfl rfl rfl hh
    obtain ⟨n, hh⟩ := rn_i rfl rfl rfl rfl hh
    exact gwR_mono (rv_150 (v := Int32.ofInt (-1)) (b := false) (by decide) hrm p' (fun q => by cases q) hh) (by omega) (fun j hj => by rw [nI_clamp (by omega)]; exact if_neg (by omega))
  | true =>
    rw [hd] at er
    dsimp only [cond] at er
    subst er
    have en : nbr tp t 1 a 0 = (a + 1, 10 * 0 + tp a - 48) := by
      show nbr tp t (0 + 1) a 0 = _
      rw [nbr_gt t hd]
      rfl
    have ev : (10 * 0 + tp a - 48 : Int32) = tp a - 48 := by simp
    rw [en, ev] at hh
    obtain ⟨v1, v2⟩ := dg_val hd
    have hat := dg_lt hd
    have p0 : pW g0 (mset h 16 (.int (nI (a + 1)))) tp t cc gc (a + 1) rm Rd := pW_16 p
    have hh : pm_run PT n fr lo 191 (116, [some (.ref 162), some (.int (nI (4 * rm)))], [.int (tp a - 48), .int (nI (4 * rm) + Int32.ofInt 2), .ref 173], mset h 16 (.int (nI (a + 1))), 198, sl) = some R := hh
    rw [e2] at hh
    have q80 := p0.2.1
    obtain ⟨n, hh⟩ := rn_ism rfl q80 hin (by decide) hh
    have p' := pW_rd (Rd' := upd Rd (nI (4 * rm + 2)).toNatClampNeg (tp a - 48)) p0
    obtain ⟨n, hh⟩ := rn_i rfl rfl rfl rfl hh
    obtain ⟨n, hh⟩ := rn_gfm rfl rfl p'.1.1.2.2.2.1 hh
    obtain ⟨n, hh⟩ := rn_i rfl rfl rfl rfl hh
    obtain ⟨n, hh⟩ := rn_i rfl rfl rfl rfl hh
    obtain ⟨n, hh⟩ := rn_i rfl rfl rfl rfl hh
    obtain ⟨n, hh⟩ := rn_i rfl rfl rfl rfl hh
    obtain ⟨n, hh⟩ := rn_gfm rfl rfl p'.1.1.2.2.2.1 hh
    obtain ⟨n, hh⟩ := rn_i rfl rfl rfl rfl hh
    obtain ⟨n, hh⟩ := rn_i rfl rfl rfl rfl hh
    obtain ⟨n, hh⟩ := rn_i rfl rfl rfl rfl hh
    have hh : pm_run PT n fr lo 191 (131, [some (.ref 162), some (.int (nI (4 * rm)))], [.int (nI (4 * rm) + Int32.ofInt 2), .ref 173, .int (nI (4 * rm) + Int32.ofInt 3), .ref 173], _, 198, sl) = some R := hh
    rw [e2, e3] at hh
    obtain ⟨n, hh⟩ := rn_iam rfl asR_self hin (by decide) hh
    have eu : upd Rd (nI (4 * rm + 2)).toNatClampNeg (tp a - 48) (nI (4 * rm + 2)).toNatClampNeg = tp a - 48 := by simp [upd]
    rw [eu] at hh
    obtain ⟨n, hh⟩ := rn_if (cc := .ge) (off := 7) (t := 139) rfl rfl hh
    rw [ge0_val v1] at hh
    obtain ⟨⟨⟨⟨u1, u2, u3, u4⟩, u5, u6, -⟩, -⟩, -⟩ := id p'
    have hh : pm_run PT n fr lo 191 (139, [some (.ref 162), some (.int (nI (4 * rm)))], [.int (nI (4 * rm + 3)), .ref 173], aset (mset h 16 (.int (nI (a + 1)))) 173 36 (upd Rd (nI (4 * rm + 2)).toNatClampNeg (tp a - 48)), 198, sl) = some R := hh
    generalize aset (mset h 16 (.int (nI (a + 1)))) 173 36 (upd Rd (nI (4 * rm + 2)).toNatClampNeg (tp a - 48)) = hq at *
    obtain ⟨n, hh⟩ := rn_i rfl rfl rfl rfl hh
    obtain ⟨n, hh⟩ := rn_i rfl rfl rfl rfl hh
    obtain ⟨n, hh⟩ := rn_i rfl rfl rfl rfl hh
    obtain ⟨n, hh⟩ := rn_gfm rfl rfl u6 hh
    obtain ⟨n, hh⟩ := rn_i rfl rfl rfl rfl hh
    obtain ⟨n, hh⟩ := rn_i rfl rfl rfl rfl hh
    obtain ⟨n, fr', lo', r1, hr1, hh⟩ := rn_call (w := 0) (t := 185) rfl rfl hh
    have er := rn_dt (F := 10) (Lo := 1000) (hd_digitIn (fr := 10) (lo := 1000) (sl := sl) u1 u2 u3 u4 ht (by omega) (by decide) (by decide) (Int32.ofInt 0) (nI cc - Int32.ofInt 1)) hr1
    dsimp only [cond]
    cases hi : dgi tp (a + 1) t (Int32.ofInt 0) (nI cc - Int32.ofInt 1) with
    | false =>
      rw [hi] at er
      dsimp only [cond] at er
      subst er
      exact gwR_mono (rv_150 (v := -1) (b := false) (by decide) hrm p' (fun q => by cases q) hh) (by omega) (fun j hj => by rw [nI_clamp (by omega)]; exact if_neg (by omega))
    | true =>
      rw [hi] at er
      dsimp only [cond] at er
      subst er
      obtain ⟨w0, w1⟩ := dgi_g0 hi
      refine gwR_mono (rv_150 (v := tp (a + 1) - 48) (b := true) (lt0_val w1) hrm (pW_16 p') (fun _ => ?_) hh) (by omega) (fun j hj => by rw [nI_clamp (by omega)]; exact if_neg (by omega))
      refine hV _ (fun j hj => ?_) ?_ ?_
      · rw [nI_clamp (by omega)]
        exact (if_neg (by omega)).trans (if_neg (by omega))
      · rw [nI_clamp (by omega)]
        exact (if_neg (by omega)).trans (if_pos rfl)
      · exact if_pos rfl
theorem rv_82 {w : Int32} (ht : t ≤ 80) (ha : a < 97) (hrm : rm < 8) (p : pW g0 h tp t cc gc a rm Rd) (ev : Rd (4 * rm + 1) = w) (hV : ∀ Rd', (∀ j, j < 4 * rm + 2 → Rd' j = Rd j) → Rd' (4 * rm + 2) = tp (a + 1) - 48 → Rd' (4 * rm + 3) = tp (a + 2) - 48 → V Rd') (hw : 0 ≤ w.toInt) (hh : pm_run PT n fr lo 191 (82, [some (.ref 162), some (.int (nI (4 * rm)))], [], h, 198, sl) = some R) : gwR g0 R tp t cc gc rm Rd 2 (rgC tp t cc a) V sl := by
  obtain ⟨⟨⟨⟨q1, q2, q3, q4⟩, q5, q6, q7, -⟩, q9⟩, q8, -⟩ := id p
  obtain ⟨n, hh⟩ := rn_i rfl rfl rfl rfl hh
  obtain ⟨n, hh⟩ := rn_gfm rfl rfl q7 hh
  obtain ⟨n, hh⟩ := rn_i rfl rfl rfl rfl hh
  obtain ⟨n, hh⟩ := rn_i rfl rfl rfl rfl hh
  obtain ⟨n, hh⟩ := rn_i rfl rfl rfl rfl hh
  have e1 : nI (4 * rm) + Int32.ofInt 1 = nI (4 * rm + 1) := (Int32.ofNat_add (4 * rm) 1).symm
  have hh : pm_run PT n fr lo 191 (89, [some (.ref 162), some (.int (nI (4 * rm)))], [.int (nI (4 * rm) + Int32.ofInt 1), .ref 173], h, 198, sl) = some R := hh
  rw [e1] at hh
  obtain ⟨n, hh⟩ := rn_iam rfl q8 (hI_in (by omega) (by decide)) (by decide) hh
  rw [nI_clamp (by omega), ev] at hh
  obtain ⟨n, hh⟩ := rn_if (cc := .lt) (off := 12) (t := 102) rfl rfl hh
  rw [lt0_val hw] at hh
  obtain ⟨n, hh⟩ := rn_i rfl rfl rfl rfl hh
  obtain ⟨n, hh⟩ := rn_i rfl rfl rfl rfl hh
  obtain ⟨n, fr', lo', r1, hr1, hh⟩ := rn_call (w := 0) (t := 181) rfl rfl hh
  have er := rn_dt (F := 10) (Lo := 1000) (hd_takes (fr := 10) (lo := 1000) (sl := sl) q1 q2 q3 q4 ht (by omega) (by decide) (by decide) 44) hr1
  unfold rgC
  cases x : decide (a < t ∧ tp a = 44) with
  | false =>
    rw [x] at er
    dsimp only [cond] at er
    subst er
    have hh : pm_run PT n fr lo 191 (99, [some (.ref 162), some (.int (nI (4 * rm)))], [.int 0], mset h 16 (.int (nI (a + 0))), 198, sl) = some R := hh
    obtain ⟨n, hh⟩ := rn_if (cc := .ne) (off := 5) (t := 104) rfl rfl hh
    have hh : pm_run PT n fr lo 191 (102, [some (.ref 162), some (.int (nI (4 * rm)))], [], mset h 16 (.int (nI (a + 0))), 198, sl) = some R := hh
    exact rv_102 (pW_16 p) hh
  | true =>
    rw [x] at er
    dsimp only [cond] at er
    subst er
    have xx := of_decide_eq_true x
    have hh : pm_run PT n fr lo 191 (99, [some (.ref 162), some (.int (nI (4 * rm)))], [.int 1], mset h 16 (.int (nI (a + 1))), 198, sl) = some R := hh
    obtain ⟨n, hh⟩ := rn_if (cc := .ne) (off := 5) (t := 104) rfl rfl hh
    have hh : pm_run PT n fr lo 191 (104, [some (.ref 162), some (.int (nI (4 * rm)))], [], mset h 16 (.int (nI (a + 1))), 198, sl) = some R := hh
    exact rv_104 ht (by omega) hrm (pW_16 p) hV hh
theorem rv_46 (ht : t ≤ 80) (ha : a < 90) (hrm : rm < 8) (p : pW g0 h tp t cc gc a rm Rd) (hV : ∀ Rd', (∀ j, j < 4 * rm + 1 → Rd' j = Rd j) → Rd' (4 * rm + 1) = (nbr tp t 2 a 0).2 → Rd' (4 * rm + 2) = tp ((nbr tp t 2 a 0).1 + 1) - 48 → Rd' (4 * rm + 3) = tp ((nbr tp t 2 a 0).1 + 2) - 48 → V Rd') (hh : pm_run PT n fr lo 191 (46, [some (.ref 162), some (.int (nI (4 * rm)))], [], h, 198, sl) = some R) : gwR g0 R tp t cc gc rm Rd 1 (cond (dg tp a t) (rgW tp t cc (nbr tp t 2 a 0)) (false, a)) V sl := by
  obtain ⟨⟨⟨⟨q1, q2, q3, q4⟩, q5, q6, q7, -⟩, q9⟩, q8, -⟩ := id p
  obtain ⟨n, hh⟩ := rn_i rfl rfl rfl rfl hh
  obtain ⟨n, hh⟩ := rn_gfm rfl rfl q7 hh
  obtain ⟨n, hh⟩ := rn_i rfl rfl rfl rfl hh
  obtain ⟨n, hh⟩ := rn_i rfl rfl rfl rfl hh
  obtain ⟨n, hh⟩ := rn_i rfl rfl rfl rfl hh
  obtain ⟨n, hh⟩ := rn_i rfl rfl rfl rfl hh
  obtain ⟨n, hh⟩ := rn_i rfl rfl rfl rfl hh
  obtain ⟨n, fr', lo', r1, hr1, hh⟩ := rn_call (w := 0) (t := 184) rfl rfl hh
  have er := rn_dt (F := 10) (Lo := 1000) (hd_number (fr := 10) (lo := 1000) (sl := sl) q1 q2 q3 q4 ht (by omega) (by decide) (by decide) (d := 2) (by decide)) hr1
  have e1 : nI (4 * rm) + Int32.ofInt 1 = nI (4 * rm + 1) := (Int32.ofNat_add (4 * rm) 1).symm
  have hin : pm_in (nI (4 * rm + 1)) 36 = true := hI_in (by omega) (by decide)
  cases hd : dg tp a t with
  | false =>
    rw [hd] at er
    dsimp only [cond] at er
    subst er
    have hh : pm_run PT n fr lo 191 (58, [some (.ref 162), some (.int (nI (4 * rm)))], [.int (-1), .int (nI (4 * rm) + Int32.ofInt 1), .ref 173], h, 198, sl) = some R := hh
    rw [e1] at hh
    obtain ⟨n, hh⟩ := rn_ism rfl q8 hin (by decide) hh
    have p' := pW_rd (Rd' := upd Rd (nI (4 * rm + 1)).toNatClampNeg (-1)) p
    have eu : upd Rd (nI (4 * rm + 1)).toNatClampNeg (-1) (nI (4 * rm + 1)).toNatClampNeg = (-1 : Int32) := by simp [upd]
    obtain ⟨n, hh⟩ := rn_i rfl rfl rfl rfl hh
    obtain ⟨n, hh⟩ := rn_gfm rfl rfl p'.1.1.2.2.2.1 hh
    obtain ⟨n, hh⟩ := rn_i rfl rfl rfl rfl hh
    obtain ⟨n, hh⟩ := rn_i rfl rfl rfl rfl hh
    obtain ⟨n, hh⟩ := rn_i rfl rfl rfl rfl hh
    have hh : pm_run PT n fr lo 191 (66, [some (.ref 162), some (.int (nI (4 * rm)))], [.int (nI (4 * rm) + Int32.ofInt 1), .ref 173], _, 198, sl) = some R := hh
    rw [e1] at hh
    obtain ⟨n, hh⟩ := rn_iam rfl asR_self hin (by decide) hh
    rw [eu] at hh
    obtain ⟨n, hh⟩ := rn_if (cc := .ne) (off := 15) (t := 82) rfl rfl hh
    rw [show pm_cmp .ne (-1 : Int32) 0 = true by decide] at hh
    have hh : pm_run PT n fr lo 191 (82, [some (.ref 162), some (.int (nI (4 * rm)))], [], aset h 173 36 (upd Rd (nI (4 * rm + 1)).toNatClampNeg (-1)), 198, sl) = some R := hh
    obtain ⟨n, hh⟩ := rn_i rfl rfl rfl rfl hh
    obtain ⟨n, hh⟩ := rn_gfm rfl rfl p'.1.1.2.2.2.1 hh
    obtain ⟨n, hh⟩ := rn_i rfl rfl rfl rfl hh
    obtain ⟨n, hh⟩ := rn_i rfl rfl rfl rfl hh
    obtain ⟨n, hh⟩ := rn_i rfl rfl rfl rfl hh
    have hh : pm_run PT n fr lo 191 (89, [some (.ref 162), some (.int (nI (4 * rm)))], [.int (nI (4 * rm) + Int32.ofInt 1), .ref 173], aset h 173 36 (upd Rd (nI (4 * rm + 1)).toNatClampNeg (-1)), 198, sl) = some R := hh
    rw [e1] at hh
    obtain ⟨n, hh⟩ := rn_iam rfl asR_self hin (by decide) hh
    rw [eu] at hh
    obtain ⟨n, hh⟩ := rn_if (cc := .lt) (off := 12) (t := 102) rfl rfl hh
    rw [lt0_m1] at hh
    exact gwR_mono (j1 := 1) (rv_102 p' hh) (Nat.le_refl _) (fun j hj => by rw [nI_clamp (by omega)]; exact if_neg (by omega))
  | true =>
    rw [hd] at er
    dsimp only [cond] at er
    subst er
    obtain ⟨b1, b2, b3, b4, -⟩ := nbr_bd (tp := tp) t 2 a 0 0 (by decide) (by decide) (by decide) (by decide)
    have b0 : a + 1 ≤ (nbr tp t 2 a 0).1 := by
      rw [show nbr tp t 2 a 0 = nbr tp t (1 + 1) a 0 from rfl, nbr_gt t hd]
      have hv := dg_val hd
      have ez : (10 * 0 + tp a - 48 : Int32) = tp a - 48 := by simp
      rw [ez]
      exact (nbr_bd (tp := tp) t 1 (a + 1) (tp a - 48) 9 hv.1 hv.2 (by decide) (by decide)).1
    have p0 : pW g0 (mset h 16 (.int (nI (nbr tp t 2 a 0).1))) tp t cc gc (nbr tp t 2 a 0).1 rm Rd := pW_16 p
    have hh : pm_run PT n fr lo 191 (58, [some (.ref 162), some (.int (nI (4 * rm)))], [.int (nbr tp t 2 a 0).2, .int (nI (4 * rm) + Int32.ofInt 1), .ref 173], mset h 16 (.int (nI (nbr tp t 2 a 0).1)), 198, sl) = some R := hh
    rw [e1] at hh
    show gwR g0 R tp t cc gc rm Rd 1 (rgW tp t cc (nbr tp t 2 a 0)) V sl
    generalize nbr tp t 2 a 0 = w at *
    have q80 := p0.2.1
    obtain ⟨n, hh⟩ := rn_ism rfl q80 hin (by decide) hh
    have p' := pW_rd (Rd' := upd Rd (nI (4 * rm + 1)).toNatClampNeg w.2) p0
    have eu : upd Rd (nI (4 * rm + 1)).toNatClampNeg w.2 (nI (4 * rm + 1)).toNatClampNeg = w.2 := by simp [upd]
    obtain ⟨n, hh⟩ := rn_i rfl rfl rfl rfl hh
    obtain ⟨n, hh⟩ := rn_gfm rfl rfl p'.1.1.2.2.2.1 hh
    obtain ⟨n, hh⟩ := rn_i rfl rfl rfl rfl hh
    obtain ⟨n, hh⟩ := rn_i rfl rfl rfl rfl hh
    obtain ⟨n, hh⟩ := rn_i rfl rfl rfl rfl hh
    have hh : pm_run PT n fr lo 191 (66, [some (.ref 162), some (.int (nI (4 * rm)))], [.int (nI (4 * rm) + Int32.ofInt 1), .ref 173], _, 198, sl) = some R := hh
    rw [e1] at hh
    obtain ⟨n, hh⟩ := rn_iam rfl asR_self hin (by decide) hh
    rw [eu] at hh
    obtain ⟨n, hh⟩ := rn_if (cc := .ne) (off := 15) (t := 82) rfl rfl hh
    unfold rgW
    by_cases z : w.2 = 0
    · rw [show pm_cmp .ne w.2 0 = false from decide_eq_false (fun q => q z)] at hh
      rw [decide_eq_true z]
      have hh : pm_run PT n fr lo 191 (70, [some (.ref 162), some (.int (nI (4 * rm)))], [], aset (mset h 16 (.int (nI w.1))) 173 36 (upd Rd (nI (4 * rm + 1)).toNatClampNeg w.2), 198, sl) = some R := hh
      generalize aset (mset h 16 (.int (nI w.1))) 173 36 (upd Rd (nI (4 * rm + 1)).toNatClampNeg w.2) = hq at *
      obtain ⟨n, hh⟩ := rn_i rfl rfl rfl rfl hh
      obtain ⟨n, hh⟩ := rn_i rfl rfl rfl rfl hh
      obtain ⟨n, hh⟩ := rn_gfm rfl rfl p'.1.1.1.1 hh
      obtain ⟨n, hh⟩ := rn_i rfl rfl rfl rfl hh
      obtain ⟨n, hh⟩ := rn_i rfl rfl rfl rfl hh
      obtain ⟨n, hh⟩ := rn_pfm (w := .int (nI w.1)) rfl rfl rfl (by decide) p'.1.1.1.1 hh
      have em : nI w.1 - Int32.ofInt 1 = nI (w.1 - 1) := by
        have e : nI w.1 = nI (w.1 - 1) + Int32.ofInt 1 := by
          rw [show nI (w.1 - 1) + Int32.ofInt 1 = nI (w.1 - 1 + 1) from (Int32.ofNat_add (w.1 - 1) 1).symm, Nat.sub_add_cancel (by omega)]
        rw [e]
        simp
      have hh : pm_run PT n fr lo 191 (80, [some (.ref 162), some (.int (nI (4 * rm)))], [], mset hq 16 (.int (nI w.1 - Int32.ofInt 1)), 198, sl) = some R := hh
      rw [em] at hh
      obtain ⟨n, hh⟩ := rn_i rfl rfl rfl rfl hh
      have e := (rn_ret rfl (Or.inr rfl) hh).2
      subst e
      exact ⟨rfl, rfl, rm, _, pW_16 p', fun j hj => by rw [nI_clamp (by omega)]; exact if_neg (by omega), fun q => by cases q⟩
    · rw [show pm_cmp .ne w.2 0 = true from decide_eq_true z] at hh
      rw [decide_eq_false z]
      refine gwR_mono (rv_82 (w := w.2) ht (by omega) hrm p' (by rw [nI_clamp (by omega)]; simp [upd]) (fun Rd' r1 r2 r3 => ?_) b4 hh) (by omega) (fun j hj => by rw [nI_clamp (by omega)]; exact if_neg (by omega))
      refine hV Rd' (fun j hj => ?_) ?_ r2 r3
      · rw [r1 j (by omega), nI_clamp (by omega)]
        exact if_neg (by omega)
      · rw [r1 _ (by omega), nI_clamp (by omega)]
        exact if_pos rfl
theorem rv_reads (ht : t ≤ 80) (ha : a < 89) (hgr : gc + rm ≤ 8) (p : pW g0 h tp t cc gc a rm Rd) (hV : ∀ Rd', Rd' (4 * rm) = tp a - 48 → Rd' (4 * rm + 1) = (nbr tp t 2 (a + 1) 0).2 → Rd' (4 * rm + 2) = tp ((nbr tp t 2 (a + 1) 0).1 + 1) - 48 → Rd' (4 * rm + 3) = tp ((nbr tp t 2 (a + 1) 0).1 + 2) - 48 → V Rd') (hh : pm_run PT n fr lo 191 (0, pm_l0 [.ref 162] 2, [], h, 198, sl) = some R) : gwR g0 R tp t cc gc rm Rd 0 (cond (decide (gc + rm = 8)) (false, a) (rgL tp t cc a)) V sl := by
  obtain ⟨⟨⟨⟨q1, q2, q3, q4⟩, q5, q6, q7, -⟩, q9⟩, q8, -⟩ := id p
  obtain ⟨n, hh⟩ := rn_i rfl rfl rfl rfl hh
  obtain ⟨n, hh⟩ := rn_gfm rfl rfl q9 hh
  obtain ⟨n, hh⟩ := rn_i rfl rfl rfl rfl hh
  obtain ⟨n, hh⟩ := rn_gfm rfl rfl q5 hh
  obtain ⟨n, hh⟩ := rn_i rfl rfl rfl rfl hh
  obtain ⟨n, hh⟩ := rn_i rfl rfl rfl rfl hh
  obtain ⟨n, hh⟩ := rn_icmp (cc := .ne) (off := 5) (t := 16) rfl rfl hh
  have ec : pm_cmp .ne ((fun x y => x + y) (nI gc) (nI rm)) (Int8.ofInt 8).toInt32 = decide (¬ (gc + rm = 8)) := by
    show pm_cmp .ne (nI gc + nI rm) (nI 8) = _
    rw [nI_add]
    exact hI_ne (by omega) (by omega)
  rw [ec] at hh
  by_cases z : gc + rm = 8
  · rw [decide_eq_false (fun q => q z)] at hh
    rw [decide_eq_true z]
    obtain ⟨n, hh⟩ := rn_i rfl rfl rfl rfl hh
    have e := (rn_ret rfl (Or.inr rfl) hh).2
    subst e
    exact ⟨rfl, rfl, rm, Rd, p, fun _ _ => rfl, fun q => by cases q⟩
  · rw [decide_eq_true z] at hh
    rw [decide_eq_false z]
    have hh : pm_run PT n fr lo 191 (16, [some (.ref 162), none], [], h, 198, sl) = some R := hh
    obtain ⟨n, hh⟩ := rn_i rfl rfl rfl rfl hh
    obtain ⟨n, hh⟩ := rn_i rfl rfl rfl rfl hh
    obtain ⟨n, hh⟩ := rn_gfm rfl rfl q5 hh
    obtain ⟨n, hh⟩ := rn_i rfl rfl rfl rfl hh
    obtain ⟨n, hh⟩ := rn_i rfl rfl rfl rfl hh
    have e6 : Int32.ofInt 4 * nI rm = nI (4 * rm) := hI_mul 4 rm
    have hh : pm_run PT n fr lo 191 (23, [some (.ref 162), some (.int (Int32.ofInt 4 * nI rm))], [], h, 198, sl) = some R := hh
    rw [e6] at hh
    obtain ⟨n, hh⟩ := rn_i rfl rfl rfl rfl hh
    obtain ⟨n, hh⟩ := rn_gfm rfl rfl q7 hh
    obtain ⟨n, hh⟩ := rn_i rfl rfl rfl rfl hh
    obtain ⟨n, hh⟩ := rn_i rfl rfl rfl rfl hh
    obtain ⟨n, hh⟩ := rn_i rfl rfl rfl rfl hh
    obtain ⟨n, hh⟩ := rn_i rfl rfl rfl rfl hh
    obtain ⟨n, fr', lo', r1, hr1, hh⟩ := rn_call (w := 0) (t := 185) rfl rfl hh
    have er := rn_dt (F := 10) (Lo := 1000) (hd_digitIn (fr := 10) (lo := 1000) (sl := sl) q1 q2 q3 q4 ht (by omega) (by decide) (by decide) (Int32.ofInt 0) (Int32.ofInt 4)) hr1
    have hin : pm_in (nI (4 * rm)) 36 = true := hI_in (by omega) (by decide)
    dsimp only [cond]
    unfold rgL
    cases hd : dgi tp a t (Int32.ofInt 0) (Int32.ofInt 4) with
    | false =>
      rw [hd] at er
      dsimp only [cond] at er
      subst er
      have hh : pm_run PT n fr lo 191 (34, [some (.ref 162), some (.int (nI (4 * rm)))], [.int (-1), .int (nI (4 * rm)), .ref 173], h, 198, sl) = some R := hh
      obtain ⟨n, hh⟩ := rn_ism rfl q8 hin (by decide) hh
      have p' := pW_rd (Rd' := upd Rd (nI (4 * rm)).toNatClampNeg (-1)) p
      obtain ⟨n, hh⟩ := rn_i rfl rfl rfl rfl hh
      obtain ⟨n, hh⟩ := rn_gfm rfl rfl p'.1.1.2.2.2.1 hh
      obtain ⟨n, hh⟩ := rn_i rfl rfl rfl rfl hh
      obtain ⟨n, hh⟩ := rn_iam rfl asR_self hin (by decide) hh
      have eu : upd Rd (nI (4 * rm)).toNatClampNeg (-1) (nI (4 * rm)).toNatClampNeg = (-1 : Int32) := by simp [upd]
      rw [eu] at hh
      obtain ⟨n, hh⟩ := rn_if (cc := .ge) (off := 5) (t := 46) rfl rfl hh
      rw [show pm_cmp .ge (-1 : Int32) 0 = false by decide] at hh
      exact gwR_mono (j1 := 0) (rv_0 p' hh) (Nat.le_refl _) (fun j hj => by rw [nI_clamp (by omega)]; exact if_neg (by omega))
    | true =>
      rw [hd] at er
      dsimp only [cond] at er
      subst er
      obtain ⟨v0, v1⟩ := dgi_g0 hd
      have p0 : pW g0 (mset h 16 (.int (nI (a + 1)))) tp t cc gc (a + 1) rm Rd := pW_16 p
      have hh : pm_run PT n fr lo 191 (34, [some (.ref 162), some (.int (nI (4 * rm)))], [.int (tp a - 48), .int (nI (4 * rm)), .ref 173], mset h 16 (.int (nI (a + 1))), 198, sl) = some R := hh
      have q80 := p0.2.1
      obtain ⟨n, hh⟩ := rn_ism rfl q80 hin (by decide) hh
      have p' := pW_rd (Rd' := upd Rd (nI (4 * rm)).toNatClampNeg (tp a - 48)) p0
      obtain ⟨n, hh⟩ := rn_i rfl rfl rfl rfl hh
      obtain ⟨n, hh⟩ := rn_gfm rfl rfl p'.1.1.2.2.2.1 hh
      obtain ⟨n, hh⟩ := rn_i rfl rfl rfl rfl hh
      obtain ⟨n, hh⟩ := rn_iam rfl asR_self hin (by decide) hh
      have eu : upd Rd (nI (4 * rm)).toNatClampNeg (tp a - 48) (nI (4 * rm)).toNatClampNeg = tp a - 48 := by simp [upd]
      rw [eu] at hh
      obtain ⟨n, hh⟩ := rn_if (cc := .ge) (off := 5) (t := 46) rfl rfl hh
      rw [ge0_val v1] at hh
      refine gwR_mono (rv_46 ht (by omega) (by omega) p' (fun Rd' r1 r2 r3 r4 => ?_) hh) (by omega) (fun j hj => by rw [nI_clamp (by omega)]; exact if_neg (by omega))
      refine hV Rd' ?_ r2 r3 r4
      rw [r1 _ (by omega), nI_clamp (by omega)]
      exact if_pos rfl
theorem gmv_loop (ht : t ≤ 80) {n0 : Int32} : ∀ (k rm a n : Nat) (h : pm_H) (Rd : Nat → Int32), gc + rm + k = 9 → 0 < k → a ≤ t → a = gps tp t cc rm → pW g0 h tp t cc gc a rm Rd → (∀ r, r < rm → gvM tp t cc r Rd) → pm_run PT n fr lo 192 (29, [some (.ref 162), some (.int n0), some (.int 1), some (.int 1), none, none], [], h, 198, sl) = some R → ∃ m h' rm' Rd', pm_run PT m fr lo 192 (60, [some (.ref 162), some (.int n0), some (.int (cond (sgL tp t cc gc k rm a).1 1 0)), some (.int 0), none, none], [], h', 198, sl) = some R ∧ pW g0 h' tp t cc gc (sgL tp t cc gc k rm a).2.1 rm' Rd' ∧ ((sgL tp t cc gc k rm a).1 = true → rm' = (sgL tp t cc gc k rm a).2.2 ∧ ∀ r, r < rm' → gvM tp t cc r Rd') := by
  have out : ∀ (n : Nat) (b : Int32) (h : pm_H), pm_run PT n fr lo 192 (29, [some (.ref 162), some (.int n0), some (.int b), some (.int 0), none, none], [], h, 198, sl) = some R → ∃ m, pm_run PT m fr lo 192 (60, [some (.ref 162), some (.int n0), some (.int b), some (.int 0), none, none], [], h, 198, sl) = some R := by
    intro n b h hh
    obtain ⟨n, hh⟩ := rn_i rfl rfl rfl rfl hh
    obtain ⟨n, hh⟩ := rn_if (cc := .eq) (off := 30) (t := 60) rfl rfl hh
    exact ⟨n, hh⟩
  have bad : ∀ (n : Nat) (h1 : pm_H), pm_run PT n fr lo 192 (37, [some (.ref 162), some (.int n0), some (.int 1), some (.int 1), none, none], [.int 0], h1, 198, sl) = some R → ∃ m, pm_run PT m fr lo 192 (60, [some (.ref 162), some (.int n0), some (.int 0), some (.int 0), none, none], [], h1, 198, sl) = some R := by
    intro n h1 hh
    obtain ⟨n, hh⟩ := rn_i rfl rfl rfl rfl hh
    obtain ⟨n, hh⟩ := rn_i rfl rfl rfl rfl hh
    obtain ⟨n, hh⟩ := rn_if (cc := .eq) (off := 16) (t := 55) rfl rfl hh
    have hh : pm_run PT n fr lo 192 (55, [some (.ref 162), some (.int n0), some (.int 0), some (.int 1), none, none], [], h1, 198, sl) = some R := hh
    obtain ⟨n, hh⟩ := rn_i rfl rfl rfl rfl hh
    obtain ⟨n, hh⟩ := rn_i rfl rfl rfl rfl hh
    obtain ⟨n, hh⟩ := rn_i rfl rfl rfl rfl hh
    exact out n 0 h1 hh
  intro k
  induction k with
  | zero => intro rm a n h Rd hk h0; exact absurd h0 (by omega)
  | succ k ih =>
    intro rm a n h Rd hk h0 ha hs p hl hh
    obtain ⟨n, hh⟩ := rn_i rfl rfl rfl rfl hh
    obtain ⟨n, hh⟩ := rn_if (cc := .eq) (off := 30) (t := 60) rfl rfl hh
    have hh : pm_run PT n fr lo 192 (33, [some (.ref 162), some (.int n0), some (.int 1), some (.int 1), none, none], [], h, 198, sl) = some R := hh
    obtain ⟨n, hh⟩ := rn_i rfl rfl rfl rfl hh
    obtain ⟨n, fr', lo', r1, hr1, hh⟩ := rn_call (w := 0) (t := 191) rfl rfl hh
    obtain ⟨e1, e3, rm', Rd', e2, e5, e4⟩ := rv_reads (V := gvM tp t cc rm) ht (by omega) (by omega) p (fun Rd' r1 r2 r3 r4 => (by unfold gvM; rw [← hs]; exact ⟨r1, r2, r3, r4⟩)) hr1
    obtain ⟨rv, h1, s1⟩ := r1
    dsimp only at e1 e2 e3 e4 e5
    subst e1
    subst e3
    show ∃ m h' rm' Rd', pm_run PT m fr lo 192 (60, [some (.ref 162), some (.int n0), some (.int (cond (sgL tp t cc gc (k + 1) rm a).1 1 0)), some (.int 0), none, none], [], h', 198, sl) = some R ∧ pW g0 h' tp t cc gc (sgL tp t cc gc (k + 1) rm a).2.1 rm' Rd' ∧ ((sgL tp t cc gc (k + 1) rm a).1 = true → rm' = (sgL tp t cc gc (k + 1) rm a).2.2 ∧ ∀ r, r < rm' → gvM tp t cc r Rd')
    unfold sgL
    cases z : decide (gc + rm = 8) with
    | true =>
      rw [z] at e2 e4 hh
      obtain ⟨m, hm⟩ := bad n h1 hh
      exact ⟨m, h1, rm', Rd', hm, e2, fun q => by cases q⟩
    | false =>
      rw [z] at e2 e4 hh
      dsimp only [cond] at e2 e4 ⊢
      cases y : (rgL tp t cc a).1 with
      | false =>
        have hh : pm_run PT n fr lo 192 (37, [some (.ref 162), some (.int n0), some (.int 1), some (.int 1), none, none], [.int 0], h1, 198, sl) = some R := by rw [← hh]; dsimp only [cond]; rw [y]; rfl
        obtain ⟨m, hm⟩ := bad n h1 hh
        exact ⟨m, h1, rm', Rd', hm, e2, fun q => by cases q⟩
      | true =>
        have hh : pm_run PT n fr lo 192 (37, [some (.ref 162), some (.int n0), some (.int 1), some (.int 1), none, none], [.int 1], h1, 198, sl) = some R := by rw [← hh]; dsimp only [cond]; rw [y]; rfl
        have hle : (rgL tp t cc a).2 ≤ t := rgL_le ha
        obtain ⟨e4, e6⟩ := e4 y
        subst e4
        have hs2 : gps tp t cc (rm + 1) = (rgL tp t cc a).2 + 1 := by
          rw [hs]
          rfl
        have hl2 : ∀ r, r < rm + 1 → gvM tp t cc r Rd' := by
          intro r hr
          by_cases z2 : r = rm
          · rw [z2]
            exact e6
          · have h2 := hl r (by omega)
            unfold gvM at h2 ⊢
            rw [e5 _ (by omega), e5 _ (by omega), e5 _ (by omega), e5 _ (by omega)]
            exact h2
        generalize (rgL tp t cc a).2 = b at *
        obtain ⟨n, hh⟩ := rn_i rfl rfl rfl rfl hh
        obtain ⟨n, hh⟩ := rn_i rfl rfl rfl rfl hh
        obtain ⟨n, hh⟩ := rn_if (cc := .eq) (off := 16) (t := 55) rfl rfl hh
        have hh : pm_run PT n fr lo 192 (42, [some (.ref 162), some (.int n0), some (.int 1), some (.int 1), none, none], [], h1, 198, sl) = some R := hh
        obtain ⟨n, hh⟩ := rn_i rfl rfl rfl rfl hh
        obtain ⟨n, hh⟩ := rn_i rfl rfl rfl rfl hh
        obtain ⟨n, fr', lo', r1, hr1, hh⟩ := rn_call (w := 0) (t := 181) rfl rfl hh
        obtain ⟨⟨⟨⟨q1, q2, q3, q4⟩, -⟩, -⟩, -⟩ := id e2
        have er := rn_dt (F := 10) (Lo := 1000) (hd_takes (fr := 10) (lo := 1000) (sl := sl) q1 q2 q3 q4 ht (by omega) (by decide) (by decide) 59) hr1
        cases x : decide (b < t ∧ tp b = 59) with
        | false =>
          rw [x] at er
          dsimp only [cond] at er
          subst er
          have hh : pm_run PT n fr lo 192 (48, [some (.ref 162), some (.int n0), some (.int 1), some (.int 1), none, none], [.int 0], mset h1 16 (.int (nI (b + 0))), 198, sl) = some R := hh
          obtain ⟨n, hh⟩ := rn_if (cc := .eq) (off := 7) (t := 55) rfl rfl hh
          have hh : pm_run PT n fr lo 192 (55, [some (.ref 162), some (.int n0), some (.int 1), some (.int 1), none, none], [], mset h1 16 (.int (nI (b + 0))), 198, sl) = some R := hh
          obtain ⟨n, hh⟩ := rn_i rfl rfl rfl rfl hh
          obtain ⟨n, hh⟩ := rn_i rfl rfl rfl rfl hh
          obtain ⟨n, hh⟩ := rn_i rfl rfl rfl rfl hh
          obtain ⟨m, hm⟩ := out n 1 _ hh
          exact ⟨m, _, rm + 1, Rd', hm, pW_16 e2, fun _ => ⟨rfl, hl2⟩⟩
        | true =>
          rw [x] at er
          dsimp only [cond] at er
          subst er
          have xx := of_decide_eq_true x
          have hh : pm_run PT n fr lo 192 (48, [some (.ref 162), some (.int n0), some (.int 1), some (.int 1), none, none], [.int 1], mset h1 16 (.int (nI (b + 1))), 198, sl) = some R := hh
          obtain ⟨n, hh⟩ := rn_if (cc := .eq) (off := 7) (t := 55) rfl rfl hh
          have hh : pm_run PT n fr lo 192 (51, [some (.ref 162), some (.int n0), some (.int 1), some (.int 1), none, none], [], mset h1 16 (.int (nI (b + 1))), 198, sl) = some R := hh
          obtain ⟨n, hh⟩ := rn_i rfl rfl rfl rfl hh
          obtain ⟨n, hh⟩ := rn_i rfl rfl rfl rfl hh
          obtain ⟨n, hh⟩ := rn_i rfl rfl rfl rfl hh
          obtain ⟨n, hh⟩ := rn_i rfl rfl rfl rfl hh
          have zz := of_decide_eq_false z
          exact ih (rm + 1) (b + 1) n _ Rd' (by omega) (by omega) (by omega) hs2.symm (pW_16 e2) hl2 hh
end GWM
end MG95zzyox2
end MH95zzyjx2
section MH95zzyjx3
section MG95zzyrx0
/-! gifts of both sides, told exactly behind what they read -/
section GFT
variable {n fr lo sl n0 c r p gc cq cc N : Nat} {q : QT} {h g0 : pm_H} {R : pm_Rs} {tp Rd : Nat → Int32}
/-- behind the LINES -/
theorem gsec {b : Bool} {x3 : Int32} (hn : n0 ≤ 80) (hr : b = true → c + r ≤ 8) (hp : p < 80) (x : pW g0 h tp (min n0 55) cc c p r Rd) (hh : pm_run PT n fr lo 192 (60, [some (.ref 162), some (.int (nI n0)), some (.int (cond b 1 0)), some (.int x3), none, none], [], h, 198, sl) = some R) : (∃ F : Int32, pm_cmp .ge F 0 = false ∧ R = (some (.int F), h, 198, sl)) ∨ (b = true ∧ ∃ F x1 x2 : Int32, R = (some (.int (nI r)), (w192 q cq gc h r c F x1 x2 x3).2, 198, sl) ∧ WT (w192 q cq gc h r c F x1 x2 x3).2 ∧ frm [162, 166, 167, 168, 170] [(162, 4), (162, 5), (162, 27)] h (w192 q cq gc h r c F x1 x2 x3).2) := by
  obtain ⟨n, hh⟩ := rn_i rfl rfl rfl rfl hh
  obtain ⟨n, hh⟩ := rn_i rfl rfl rfl rfl hh
  obtain ⟨n, hh⟩ := rn_i rfl rfl rfl rfl hh
  obtain ⟨n, hh⟩ := rn_i rfl rfl rfl rfl hh
  obtain ⟨n, fr', lo', r1, hr1, hh⟩ := rn_call (w := 0) (t := 186) rfl rfl hh
  have er := fo_run (m := 55) hn (by decide) (by omega) (by omega) x.1.1.1.1 x.1.1.1.2.1 hr1
  subst er
  have hge := fO_ge (n0 := n0) (m := 55) (t := min n0 55) (at_ := p) (is := b) (by decide) (by omega)
  generalize fO n0 55 (min n0 55) p b = F at *
  have hh : pm_run PT n fr lo 192 (68, [some (.ref 162), some (.int (nI n0)), some (.int (cond b 1 0)), some (.int x3), none, none], [.int F], h, 198, sl) = some R := hh
  obtain ⟨n, hh⟩ := rn_i rfl rfl rfl rfl hh
  obtain ⟨n, hh⟩ := rn_i rfl rfl rfl rfl hh
  obtain ⟨n, hh⟩ := rn_if (cc := .ge) (off := 6) (t := 78) rfl rfl hh
  cases z : pm_cmp .ge F 0 with
  | false =>
    rw [z] at hh
    obtain ⟨n, hh⟩ := rn_i rfl rfl rfl rfl hh
    exact Or.inl ⟨F, z, (rn_ret rfl (Or.inl rfl) hh).2⟩
  | true =>
    rw [z] at hh
    have hh : pm_run PT n fr lo 192 (78, [some (.ref 162), some (.int (nI n0)), some (.int (cond b 1 0)), some (.int x3), some (.int F), none], [], h, 198, sl) = some R := hh
    obtain ⟨a1, a2, a3⟩ := w192_ok (q := q) (cc := cq) (gc := gc) x.2.2.1 (hr (hge z)) (Fi_m x.1.1.2.1) (Fi_m x.1.2) hh
    exact Or.inr ⟨hge z, F, _, _, a1, a2, a3⟩
/-- what courts of the reference does: h1 is the heap behind what it reads -/
theorem grun (hn : n0 ≤ 80) (hc : c ≤ 8) (hw : WT h) (h15 : Fi h 162 15 = nI n0) (h3 : Fi h 162 3 = nI cc) (h4 : Fi h 162 4 = nI c) (hh : pm_run PT n fr lo 192 (0, pm_l0 [.ref 162] 6, [], h, 198, sl) = some R) : ∃ (h1 : pm_H) (r : Nat), WT h1 ∧ (∀ i, i ≠ 162 → i ≠ 173 → h1 i = h i) ∧ (∀ g, g ≠ 0 → g ≠ 15 → g ≠ 16 → g ≠ 17 → g ≠ 18 → g ≠ 20 → Fi h1 162 g = Fi h 162 g) ∧ ((∃ F : Int32, pm_cmp .ge F 0 = false ∧ R = (some (.int F), h1, 198, sl)) ∨ (c + r ≤ 8 ∧ (∀ k, k < r → gvM (Ar h 172) (min n0 55) cc k (Ar h1 173)) ∧ ∃ F x1 x2 x3 : Int32, R = (some (.int (nI r)), (w192 q cq gc h1 r c F x1 x2 x3).2, 198, sl) ∧ WT (w192 q cq gc h1 r c F x1 x2 x3).2 ∧ frm [162, 166, 167, 168, 170] [(162, 4), (162, 5), (162, 27)] h1 (w192 q cq gc h1 r c F x1 x2 x3).2)) := by
  obtain ⟨n, hh⟩ := rn_i rfl rfl rfl rfl hh
  obtain ⟨n, hh⟩ := rn_i rfl rfl rfl rfl hh
  have m0 : mF h 0 (.int (Fi h 162 0)) := wt_i hw (by decide) rfl (by decide) rfl
  obtain ⟨n, hh⟩ := rn_pfm rfl rfl rfl (by decide) m0 hh
  rw [mset_w (g := 0) hw rfl rfl] at hh
  have w0 : WT (fset h 162 0 (.int (Int32.ofInt 0))) := wt_fs rfl (by decide) rfl hw
  have f0 : ∀ g, g ≠ 0 → Fi (fset h 162 0 (.int (Int32.ofInt 0))) 162 g = Fi h 162 g := fun g hg => Fi_n (Or.inr hg)
  have c0 : ∀ i, i ≠ 162 → fset h 162 0 (.int (Int32.ofInt 0)) i = h i := fun i hi => fs_ne hi
  obtain ⟨n, hh⟩ := rn_i rfl rfl rfl rfl hh
  obtain ⟨n, hh⟩ := rn_i rfl rfl rfl rfl hh
  have hh : pm_run PT n fr lo 192 (8, [some (.ref 162), none, none, none, none, none], [.int (nI 55), .ref 162], fset h 162 0 (.int (Int32.ofInt 0)), 198, sl) = some R := hh
  generalize fset h 162 0 (.int (Int32.ofInt 0)) = ha at *
  have hh : pm_run PT n fr lo 192 (8, [some (.ref 162), none, none, none, none, none], [.int (nI 55), .ref 162], ha, 198, sl) = some R := hh
  obtain ⟨n, fr', lo', r1, hr1, hh⟩ := rn_call (w := 0) (t := 180) rfl rfl hh
  have M : ∀ {g : Nat} {as : List av}, wd (bB 162) = .inr (11, as) → as[g]? = some ai_top → mF ha g (.int (Fi ha 162 g)) := fun hb hg => wt_i w0 (by decide) hb (by decide) hg
  have g15 : mF ha 15 (.int (nI n0)) := by
    have z := M (g := 15) rfl rfl
    rw [f0 15 (by decide), h15] at z
    exact z
  have er := rn_dt (F := 10) (Lo := 1000) (hd_begins (fr := 10) (lo := 1000) (sl := sl) (m := 55) g15 (M (g := 16) rfl rfl) (M (g := 17) rfl rfl) (M (g := 18) rfl rfl) hn (by decide) (by decide) (by decide)) hr1
  subst er
  have hh : pm_run PT n fr lo 192 (11, [some (.ref 162), none, none, none, none, none], [.int (nI n0)], hbeg ha n0 55, 198, sl) = some R := hh
  have eb : hbeg ha n0 55 = fset (fset (fset (fset ha 162 15 (.int 0)) 162 16 (.int 0)) 162 18 (.int 0)) 162 17 (.int (nI (min n0 55))) := by
    have a1 : WT (fset ha 162 15 (.int 0)) := wt_fs rfl (by decide) rfl w0
    have a2 : WT (fset (fset ha 162 15 (.int 0)) 162 16 (.int 0)) := wt_fs rfl (by decide) rfl a1
    have a3 : WT (fset (fset (fset ha 162 15 (.int 0)) 162 16 (.int 0)) 162 18 (.int 0)) := wt_fs rfl (by decide) rfl a2
    unfold hbeg
    rw [mset_w (g := 15) w0 rfl rfl, mset_w (g := 16) a1 rfl rfl, mset_w (g := 18) a2 rfl rfl, mset_w (g := 17) a3 rfl rfl]
  rw [eb] at hh
  have b1 : WT (fset (fset (fset (fset ha 162 15 (.int 0)) 162 16 (.int 0)) 162 18 (.int 0)) 162 17 (.int (nI (min n0 55)))) := wt_fs rfl (by decide) rfl (wt_fs rfl (by decide) rfl (wt_fs rfl (by decide) rfl (wt_fs rfl (by decide) rfl w0)))
  have b2 : ∀ i, i ≠ 162 → (fset (fset (fset (fset ha 162 15 (.int 0)) 162 16 (.int 0)) 162 18 (.int 0)) 162 17 (.int (nI (min n0 55)))) i = ha i := fun i hi => (fs_ne hi).trans ((fs_ne hi).trans ((fs_ne hi).trans (fs_ne hi)))
  have b3 : ∀ g, g ≠ 15 → g ≠ 16 → g ≠ 17 → g ≠ 18 → Fi (fset (fset (fset (fset ha 162 15 (.int 0)) 162 16 (.int 0)) 162 18 (.int 0)) 162 17 (.int (nI (min n0 55)))) 162 g = Fi ha 162 g := fun g h1 h2 h3 h4 => (Fi_n (Or.inr h3)).trans ((Fi_n (Or.inr h4)).trans ((Fi_n (Or.inr h2)).trans (Fi_n (Or.inr h1))))
  have b16 : Fi (fset (fset (fset (fset ha 162 15 (.int 0)) 162 16 (.int 0)) 162 18 (.int 0)) 162 17 (.int (nI (min n0 55)))) 162 16 = nI 0 := (Fi_n (Or.inr (by decide))).trans ((Fi_n (Or.inr (by decide))).trans (Fi_s (wt_fs rfl (by decide) rfl w0) (by decide) rfl (by decide) rfl))
  have b17 : Fi (fset (fset (fset (fset ha 162 15 (.int 0)) 162 16 (.int 0)) 162 18 (.int 0)) 162 17 (.int (nI (min n0 55)))) 162 17 = nI (min n0 55) := Fi_s (wt_fs rfl (by decide) rfl (wt_fs rfl (by decide) rfl (wt_fs rfl (by decide) rfl w0))) (by decide) rfl (by decide) rfl
  generalize fset (fset (fset (fset ha 162 15 (.int 0)) 162 16 (.int 0)) 162 18 (.int 0)) 162 17 (.int (nI (min n0 55))) = hb at *
  have hh : pm_run PT n fr lo 192 (11, [some (.ref 162), none, none, none, none, none], [.int (nI n0)], hb, 198, sl) = some R := hh
  obtain ⟨n, hh⟩ := rn_i rfl rfl rfl rfl hh
  obtain ⟨n, hh⟩ := rn_i rfl rfl rfl rfl hh
  obtain ⟨n, hh⟩ := rn_i rfl rfl rfl rfl hh
  have m20 : mF hb 20 (.int (Fi hb 162 20)) := wt_i b1 (by decide) rfl (by decide) rfl
  obtain ⟨n, hh⟩ := rn_pfm rfl rfl rfl (by decide) m20 hh
  rw [mset_w (g := 20) b1 rfl rfl] at hh
  have d1 : WT (fset hb 162 20 (.int (nI 0))) := wt_fs rfl (by decide) rfl b1
  have d2 : ∀ i, i ≠ 162 → fset hb 162 20 (.int (nI 0)) i = h i := fun i hi => (fs_ne hi).trans ((b2 i hi).trans (c0 i hi))
  have d3 : ∀ g, g ≠ 0 → g ≠ 15 → g ≠ 16 → g ≠ 17 → g ≠ 18 → g ≠ 20 → Fi (fset hb 162 20 (.int (nI 0))) 162 g = Fi h 162 g := fun g h1 h2 h3 h4 h5 h6 => (Fi_n (Or.inr h6)).trans ((b3 g h2 h3 h4 h5).trans (f0 g h1))
  have d16 : Fi (fset hb 162 20 (.int (nI 0))) 162 16 = nI 0 := (Fi_n (Or.inr (by decide))).trans b16
  have d17 : Fi (fset hb 162 20 (.int (nI 0))) 162 17 = nI (min n0 55) := (Fi_n (Or.inr (by decide))).trans b17
  have d20 : Fi (fset hb 162 20 (.int (nI 0))) 162 20 = nI 0 := Fi_s b1 (by decide) rfl (by decide) rfl
  have hh : pm_run PT n fr lo 192 (17, [some (.ref 162), some (.int (nI n0)), none, none, none, none], [], fset hb 162 20 (.int (nI 0)), 198, sl) = some R := hh
  generalize fset hb 162 20 (.int (nI 0)) = hd at *
  have hh : pm_run PT n fr lo 192 (17, [some (.ref 162), some (.int (nI n0)), none, none, none, none], [], hd, 198, sl) = some R := hh
  have pp : pW hd hd (Ar hd 172) (min n0 55) cc c (7 * 0) 0 (Ar hd 173) := by
    have D : ∀ {g : Nat} {as : List av}, wd (bB 162) = .inr (11, as) → as[g]? = some ai_top → mF hd g (.int (Fi hd 162 g)) := fun hb hg => wt_i d1 (by decide) hb (by decide) hg
    have D16 := D (g := 16) rfl rfl
    have D17 := D (g := 17) rfl rfl
    have D20 := D (g := 20) rfl rfl
    have D3 := D (g := 3) rfl rfl
    rw [d16] at D16
    rw [d17] at D17
    rw [d20] at D20
    rw [d3 3 (by decide) (by decide) (by decide) (by decide) (by decide) (by decide), h3] at D3
    have D4 := D (g := 4) rfl rfl
    rw [d3 4 (by decide) (by decide) (by decide) (by decide) (by decide) (by decide), h4] at D4
    exact ⟨⟨⟨⟨D16, D17, wt_r d1 (by decide) rfl (by decide) rfl rfl, wt_a d1 (by decide) rfl (by decide)⟩, D20, D3, wt_r d1 (by decide) rfl (by decide) rfl rfl, _, wt_a d1 (by decide) rfl (by decide)⟩, D4⟩, wt_a d1 (by decide) rfl (by decide), d1, fun _ _ _ => rfl, fun _ _ _ => rfl⟩
  have et : Ar hd 172 = Ar h 172 := Ar_e (d2 172 (by decide))
  have fin : ∀ (m : Nat) (h' : pm_H) (b : Bool) (p' r' : Nat) (Rd' : Nat → Int32) (x3 : Int32), pm_run PT m fr lo 192 (60, [some (.ref 162), some (.int (nI n0)), some (.int (cond b 1 0)), some (.int x3), none, none], [], h', 198, sl) = some R → pW hd h' (Ar hd 172) (min n0 55) cc c p' r' Rd' → (b = true → c + r' ≤ 8) → p' < 80 → (b = true → ∀ k, k < r' → gvM (Ar hd 172) (min n0 55) cc k Rd') → ∃ (h1 : pm_H) (r : Nat), WT h1 ∧ (∀ i, i ≠ 162 → i ≠ 173 → h1 i = h i) ∧ (∀ g, g ≠ 0 → g ≠ 15 → g ≠ 16 → g ≠ 17 → g ≠ 18 → g ≠ 20 → Fi h1 162 g = Fi h 162 g) ∧ ((∃ F : Int32, pm_cmp .ge F 0 = false ∧ R = (some (.int F), h1, 198, sl)) ∨ (c + r ≤ 8 ∧ (∀ k, k < r → gvM (Ar h 172) (min n0 55) cc k (Ar h1 173)) ∧ ∃ F x1 x2 x3 : Int32, R = (some (.int (nI r)), (w192 q cq gc h1 r c F x1 x2 x3).2, 198, sl) ∧ WT (w192 q cq gc h1 r c F x1 x2 x3).2 ∧ frm [162, 166, 167, 168, 170] [(162, 4), (162, 5), (162, 27)] h1 (w192 q cq gc h1 r c F x1 x2 x3).2)) := by
    intro m h' b p' r' Rd' x3 hh x hr hp hv
    have eR : Ar h' 173 = Rd' := by
      unfold Ar
      rw [x.2.1]
    refine ⟨h', r', x.2.2.1, fun i h1 h2 => (x.2.2.2.1 i h1 h2).trans (d2 i h1), fun g h1 h2 h3 h4 h5 h6 => (x.2.2.2.2 g h3 h6).trans (d3 g h1 h2 h3 h4 h5 h6), ?_⟩
    rcases gsec (q := q) (cq := cq) (gc := gc) hn hr hp x hh with ⟨F, z1, z2⟩ | ⟨z1, F, x1, x2, z2, z3, z4⟩
    · exact Or.inl ⟨F, z1, z2⟩
    · refine Or.inr ⟨hr z1, fun k hk => ?_, F, x1, x2, x3, z2, z3, z4⟩
      rw [eR, ← et]
      exact hv z1 k hk
  obtain ⟨n, hh⟩ := rn_i rfl rfl rfl rfl hh
  obtain ⟨n, hh⟩ := rn_i rfl rfl rfl rfl hh
  obtain ⟨n, hh⟩ := rn_i rfl rfl rfl rfl hh
  have hh : pm_run PT n fr lo 192 (20, [some (.ref 162), some (.int (nI n0)), some (.int 1), none, none, none], [.int (nI n0)], hd, 198, sl) = some R := hh
  obtain ⟨n, hh⟩ := rn_if (cc := .le) (off := 7) (t := 27) rfl rfl hh
  by_cases z : n0 = 0
  · have ec : pm_cmp .le (nI n0) 0 = true := by
      rw [z]
      decide
    rw [ec] at hh
    have hh : pm_run PT n fr lo 192 (27, [some (.ref 162), some (.int (nI n0)), some (.int 1), none, none, none], [], hd, 198, sl) = some R := hh
    obtain ⟨n, hh⟩ := rn_i rfl rfl rfl rfl hh
    obtain ⟨n, hh⟩ := rn_i rfl rfl rfl rfl hh
    have hh : pm_run PT n fr lo 192 (29, [some (.ref 162), some (.int (nI n0)), some (.int 1), some (.int 0), none, none], [], hd, 198, sl) = some R := hh
    obtain ⟨n, hh⟩ := rn_i rfl rfl rfl rfl hh
    obtain ⟨n, hh⟩ := rn_if (cc := .eq) (off := 30) (t := 60) rfl rfl hh
    exact fin n hd true _ _ _ 0 hh pp (fun _ => by omega) (by omega) (fun _ k hk => absurd hk (Nat.not_lt_zero k))
  · have ec : pm_cmp .le (nI n0) 0 = false := by
      have := hI_le (a := n0) (b := 0) (by omega) (by omega)
      rw [decide_eq_false (by omega)] at this
      exact this
    rw [ec] at hh
    have hh : pm_run PT n fr lo 192 (23, [some (.ref 162), some (.int (nI n0)), some (.int 1), none, none, none], [], hd, 198, sl) = some R := hh
    obtain ⟨n, hh⟩ := rn_i rfl rfl rfl rfl hh
    obtain ⟨n, hh⟩ := rn_i rfl rfl rfl rfl hh
    obtain ⟨n, hh⟩ := rn_i rfl rfl rfl rfl hh
    obtain ⟨m, h', r', Rd', hm, x, hv⟩ := gmv_loop (gc := c) (t := min n0 55) (by omega) (9 - c) 0 0 n hd (Ar hd 173) (by omega) (by omega) (Nat.zero_le _) rfl pp (fun k hk => absurd hk (Nat.not_lt_zero k)) hh
    obtain ⟨b1, b2⟩ := sgL_bd (tp := Ar hd 172) (cc := cc) (gc := c) (t := min n0 55) (9 - c) 0 0 (Nat.zero_le _)
    exact fin m h' _ _ r' Rd' 0 hm x (fun z1 => by rw [(hv z1).1]; exact b2 (by omega)) (by omega) (fun z1 k hk => (hv z1).2 k hk)
theorem gx89 (hn : n0 ≤ 80) (hcc : cc ≤ 6) (hc : c ≤ 8) (hw : WT h) (h11 : Fi h 1 1 = nI n0) (h50 : Fi h 5 0 = nI cc) (h51 : Fi h 5 1 = nI c) (hh : pm_run PT n fr lo 89 (0, pm_l0 [.ref 0] 2, [], h, 198, sl) = some R) : ∃ h1 : pm_H, gvX h h1 n0 cc c (Ar h 2) 0 ∧ ((∃ v : Int32, pm_cmp .le v 0 = true ∧ R = (some (.int v), fset h1 1 1 (.int (nI 0)), 198, sl)) ∨ ∃ N, 1 ≤ N ∧ c + N ≤ 8 ∧ gvX h h1 n0 cc c (Ar h 2) N ∧ R = (some (.int (nI N)), (w89 q cq gc h1 N c).2, 198, sl) ∧ WT (w89 q cq gc h1 N c).2 ∧ frm [0, 1, 5, 25] [(0, 7), (1, 1), (5, 1), (25, 2)] h1 (w89 q cq gc h1 N c).2) := by
  have i5 : ∃ rs, h 5 = .inr (3, rs) ∧ rs[0]? = some (.int (nI cc)) := by
    obtain ⟨rs, a, b⟩ := wt_i (c := 5) (g := 0) hw (by decide) rfl (by decide) rfl
    rw [h50] at b
    exact ⟨rs, a, b⟩
  have px : pX h n0 cc (Ar h 2) := by
    obtain ⟨fs, a1, a2⟩ := wt_r (c := 0) (g := 0) (p := 1) hw (by decide) rfl (by decide) rfl rfl
    obtain ⟨fs', a3, a4⟩ := wt_r (c := 0) (g := 2) (p := 5) hw (by decide) rfl (by decide) rfl rfl
    obtain ⟨gs, b1, b2⟩ := wt_r (c := 1) (g := 0) (p := 2) hw (by decide) rfl (by decide) rfl rfl
    obtain ⟨gs', b3, b4⟩ := wt_i (c := 1) (g := 1) hw (by decide) rfl (by decide) rfl
    rw [h11] at b4
    rw [a1] at a3
    cases a3
    rw [b1] at b3
    cases b3
    exact ⟨⟨fs, a1, a2, a4⟩, ⟨gs, b1, b2, b4⟩, wt_a hw (by decide) rfl (by decide), i5⟩
  have xg : rG h (.int (nI c)) := by
    obtain ⟨rs, a, b⟩ := wt_i (c := 5) (g := 1) hw (by decide) rfl (by decide) rfl
    rw [h51] at b
    exact ⟨rs, a, b⟩
  have X : gvX h h n0 cc c (Ar h 2) 0 := ⟨⟨px, xg, hw⟩, fun _ _ _ _ _ _ => rfl, fun _ _ => ⟨rfl, rfl, rfl, rfl, rfl⟩, fun r hr => absurd hr (Nat.not_lt_zero r)⟩
  obtain ⟨n, hh⟩ := rn_i rfl rfl rfl rfl hh
  obtain ⟨n, fr', lo', r1, hr1, hh⟩ := rn_call (w := 0) (t := 130) rfl rfl hh
  have hv := xgs_run hn hcc hc px xg hr1
  obtain ⟨hz, x0, xN⟩ := gxs_run hn hcc hc X hr1
  obtain ⟨rv, h1, s1⟩ := r1
  dsimp only at hz hv x0 xN
  subst hz
  subst hv
  obtain ⟨-, hN⟩ := gm_both (cc := cc) (f := Ar h 2) (tp := Ar h 2) hn hc (fun _ _ => rfl)
  generalize xgR n0 cc c (Ar h 2) = v at *
  have w1 := x0.1.2.2
  have f5 : h1 5 = h 5 := x0.2.1 5 (by decide) (by decide) (by decide) (by decide) (by decide)
  have hh : pm_run PT n fr lo 89 (4, [some (.ref 0), none], [.int v], h1, 198, sl) = some R := hh
  obtain ⟨n, hh⟩ := rn_i rfl rfl rfl rfl hh
  have hh : pm_run PT n fr lo 89 (5, [some (.ref 0), some (.int v)], [], h1, 198, sl) = some R := hh
  refine ⟨h1, x0, ?_⟩
  have no : pm_cmp .le v 0 = true → ∃ v : Int32, pm_cmp .le v 0 = true ∧ R = (some (.int v), fset h1 1 1 (.int (nI 0)), 198, sl) := fun hle => ⟨v, hle, (w89n_ok (q := q) (cc := cq) (gc := gc) w1 hle hh).1⟩
  rcases hN with ⟨e1, e2⟩ | ⟨e1, -⟩
  · generalize gmN (Ar h 2) n0 cc c = N at *
    by_cases z : N = 0
    · exact Or.inl (no (by rw [e1, z]; decide))
    · subst e1
      obtain ⟨a1, a2, a3⟩ := w89_ok (q := q) (cc := cq) (gc := gc) w1 (by omega) e2 ((Fi_e f5).trans h51) hh
      have en : (w89 q cq gc h1 N c).1 = nI N := by
        unfold w89
        cases decide (N ≤ 0) <;> rfl
      rw [en] at a1
      exact Or.inr ⟨N, by omega, e2, xN N (by omega) (by omega) rfl, a1, a2, a3⟩
  · exact Or.inl (no e1)
end GFT
end MG95zzyrx0
section MG95zzyrx1
/-! new GIFTS: both sides stay alike -/
section GFR
variable {n0 cc gc N c i : Nat} {q : QT} {h X0 X M M' : pm_H} {f tp g e d hd ha : Nat → Int32} {x m y : Int32}
theorem bit_and {x y : Int32} {k : Nat} : bit (x &&& y) k = (bit x k && bit y k) := by
  unfold bit
  rw [Int32.toBitVec_and, BitVec.getLsbD_and]
theorem bit_m1 : ∀ k, k < 32 → bit (Int32.ofInt (-1)) k = true := by decide +kernel
theorem bit_not {x : Int32} {k : Nat} (hk : k < 32) : bit (x ^^^ Int32.ofInt (-1)) k = !(bit x k) := by
  have e := bit_m1 k hk
  unfold bit at e ⊢
  rw [Int32.toBitVec_xor, BitVec.getLsbD_xor, e, Bool.xor_true]
/-- what the reference has done when i of the new GIFTS are there -/
def gmI (c : Nat) (h : pm_H) (i : Nat) (a : pm_H) : Prop := Ar a 173 = Ar h 173 ∧ (∀ k, k < i → Ar a 166 (c + k) = Ar h 173 (4 * k) ∧ Ar a 167 (c + k) = Ar h 173 (4 * k + 1) ∧ Ar a 168 (c + k) = Ar h 173 (4 * k + 2) ∧ Ar a 170 (78 + (c + k)) = Ar h 173 (4 * k + 3) ∧ Ar a 170 (86 + (c + k)) = shl (nI 1) (Ar h 173 (4 * k + 3))) ∧ (∀ k, k < c → Ar a 166 k = Ar h 166 k ∧ Ar a 167 k = Ar h 167 k ∧ Ar a 168 k = Ar h 168 k ∧ Ar a 170 (78 + k) = Ar h 170 (78 + k) ∧ Ar a 170 (86 + k) = Ar h 170 (86 + k)) ∧ (∀ k, k < 78 → Ar a 170 k = Ar h 170 k) ∧ Ar a 170 95 = Ar h 170 95 ∧ ∀ k, k < 32 → bit (Ar a 170 94) k = (bit (Ar h 170 94) k && !(decide (c ≤ k ∧ k < c + i)))
theorem gm_step {z1 : Nat} {t1 t2 t3 t4 : Int32} {a : pm_H} (hc : c + i < 8) (z : gmI c h i a) : gmI c h (i + 1) (w192_81b q cc gc a z1 c t1 t2 t3 t4 i) := by
  obtain ⟨a1, a2, a3, a4, a5, a6⟩ := z
  unfold w192_81b
  rw [a1]
  generalize hb : aset (aset (aset (aset a 166 8 (upd (Ar a 166) (c + i) (Ar h 173 (4 * i)))) 167 8 (upd (Ar a 167) (c + i) (Ar h 173 (4 * i + 1)))) 168 8 (upd (Ar a 168) (c + i) (Ar h 173 (4 * i + 2)))) 170 96 (upd (upd (upd (Ar a 170) (78 + (c + i)) (Ar h 173 (4 * i + 3))) (86 + (c + i)) (shl (nI 1) (Ar h 173 (4 * i + 3)))) 94 ((upd (upd (Ar a 170) (78 + (c + i)) (Ar h 173 (4 * i + 3))) (86 + (c + i)) (shl (nI 1) (Ar h 173 (4 * i + 3)))) 94 &&& (shl (nI 1) (nI (c + i)) ^^^ Int32.ofInt (-1)))) = b
  have b173 : Ar b 173 = Ar h 173 := by rw [← hb, Ar_n (by decide), Ar_n (by decide), Ar_n (by decide), Ar_n (by decide), a1]
  have b166 : Ar b 166 = upd (Ar a 166) (c + i) (Ar h 173 (4 * i)) := by rw [← hb, Ar_n (by decide), Ar_n (by decide), Ar_n (by decide), Ar_s]
  have b167 : Ar b 167 = upd (Ar a 167) (c + i) (Ar h 173 (4 * i + 1)) := by rw [← hb, Ar_n (by decide), Ar_n (by decide), Ar_s]
  have b168 : Ar b 168 = upd (Ar a 168) (c + i) (Ar h 173 (4 * i + 2)) := by rw [← hb, Ar_n (by decide), Ar_s]
  have b170 : Ar b 170 = upd (upd (upd (Ar a 170) (78 + (c + i)) (Ar h 173 (4 * i + 3))) (86 + (c + i)) (shl (nI 1) (Ar h 173 (4 * i + 3)))) 94 (Ar a 170 94 &&& (shl (nI 1) (nI (c + i)) ^^^ Int32.ofInt (-1))) := by
    rw [← hb, Ar_s, up_n (show 94 ≠ 86 + (c + i) by omega), up_n (show 94 ≠ 78 + (c + i) by omega)]
  clear hb
  refine ⟨Ar_f.trans b173, fun k hk => ?_, fun k hk => ?_, fun k hk => ?_, ?_, fun k hk => ?_⟩
  · rw [Ar_f, Ar_f, Ar_f, Ar_f, b166, b167, b168, b170, up_n (show 78 + (c + k) ≠ 94 by omega), up_n (show 86 + (c + k) ≠ 94 by omega), up_n (show 78 + (c + k) ≠ 86 + (c + i) by omega)]
    by_cases z : k = i
    · rw [z, up_e rfl, up_e rfl, up_e rfl, up_e rfl, up_e rfl]
      exact ⟨rfl, rfl, rfl, rfl, rfl⟩
    · rw [up_n (by omega), up_n (by omega), up_n (by omega), up_n (by omega), up_n (show 86 + (c + k) ≠ 86 + (c + i) by omega), up_n (show 86 + (c + k) ≠ 78 + (c + i) by omega)]
      exact a2 k (by omega)
  · rw [Ar_f, Ar_f, Ar_f, Ar_f, b166, b167, b168, b170, up_n (show k ≠ c + i by omega), up_n (show k ≠ c + i by omega), up_n (show k ≠ c + i by omega), up_n (show 78 + k ≠ 94 by omega), up_n (show 78 + k ≠ 86 + (c + i) by omega), up_n (show 78 + k ≠ 78 + (c + i) by omega), up_n (show 86 + k ≠ 94 by omega), up_n (show 86 + k ≠ 86 + (c + i) by omega), up_n (show 86 + k ≠ 78 + (c + i) by omega)]
    exact a3 k hk
  · rw [Ar_f, b170, up_n (by omega), up_n (by omega), up_n (by omega)]
    exact a4 k hk
  · rw [Ar_f, b170, up_n (by omega), up_n (by omega), up_n (by omega)]
    exact a5
  · rw [Ar_f, b170, up_e rfl, bit_and, bit_not hk, bit_shl (by omega) hk, a6 k hk]
    by_cases z : k = c + i
    · rw [decide_eq_true z, decide_eq_true (show c ≤ k ∧ k < c + (i + 1) by omega)]
      cases bit (Ar h 170 94) k <;> cases decide (c ≤ k ∧ k < c + i) <;> rfl
    · rw [decide_eq_false z, show decide (c ≤ k ∧ k < c + (i + 1)) = decide (c ≤ k ∧ k < c + i) from decide_eq_decide.mpr (by omega)]
      cases bit (Ar h 170 94) k <;> cases decide (c ≤ k ∧ k < c + i) <;> rfl
theorem w192_ar {F x1 x2 x3 : Int32} (h8 : c + N ≤ 8) : gmI c h N (w192 q cc gc h N c F x1 x2 x3).2 := by
  have y := lp_in (f := fun j b => w192_81b q cc gc b N c x1 x2 x3 F j) (P := gmI c h) N 0 h ⟨rfl, fun k hk => absurd hk (Nat.not_lt_zero k), fun _ _ => ⟨rfl, rfl, rfl, rfl, rfl⟩, fun _ _ => rfl, rfl, fun k hk => by rw [decide_eq_false (by omega)]; exact (Bool.and_true _).symm⟩ (fun k b _ hk z => gm_step (by omega) z)
  rw [Nat.zero_add] at y
  have y : gmI c h N (w192_81 q cc gc N c x1 x2 x3 F N 0 h) := y
  show gmI c h N (w190 q cc gc (w192_81 q cc gc N c x1 x2 x3 F N 0 h) N)
  unfold w190
  generalize w192_81 q cc gc N c x1 x2 x3 F N 0 h = u at y ⊢
  unfold gmI at y ⊢
  simp only [Ar_f]
  exact y
/-- a LINE that stands -/
theorem rgL_suc {t p : Nat} (z : (rgL f t cc p).1 = true) : dgi f p t (Int32.ofInt 0) (Int32.ofInt 4) = true ∧ dg f ((nbr f t 2 (p + 1) 0).1 + 1) t = true ∧ dgi f ((nbr f t 2 (p + 1) 0).1 + 2) t (Int32.ofInt 0) (nI cc - Int32.ofInt 1) = true := by
  unfold rgL at z
  cases z1 : dgi f p t (Int32.ofInt 0) (Int32.ofInt 4) with
  | false => rw [z1] at z; cases z
  | true =>
    rw [z1] at z
    dsimp only [cond] at z
    cases z2 : dg f (p + 1) t with
    | false => rw [z2] at z; cases z
    | true =>
      rw [z2] at z
      dsimp only at z
      generalize nbr f t 2 (p + 1) 0 = b at *
      unfold rgW at z
      cases z3 : decide (b.2 = 0) with
      | true => rw [z3] at z; cases z
      | false =>
        rw [z3] at z
        dsimp only [cond] at z
        unfold rgC at z
        cases z4 : decide (b.1 < t ∧ f b.1 = 44) with
        | false => rw [z4] at z; cases z
        | true =>
          rw [z4] at z
          dsimp only [cond] at z
          unfold rgE at z
          cases z5 : dg f (b.1 + 1) t with
          | false => rw [z5] at z; cases z
          | true =>
            rw [z5] at z
            dsimp only [cond] at z
            cases z6 : dgi f (b.1 + 1 + 1) t (Int32.ofInt 0) (nI cc - Int32.ofInt 1) with
            | false => rw [z6] at z; cases z
            | true => exact ⟨rfl, rfl, rfl⟩
theorem gps_cong {t : Nat} (hf : ∀ j, j < t → f j = tp j) : ∀ r, gps f t cc r = gps tp t cc r
  | 0 => rfl
  | r + 1 => by
    show (rgL f t cc (gps f t cc r)).2 + 1 = (rgL tp t cc (gps tp t cc r)).2 + 1
    rw [gps_cong hf r, rgL_cong hf]
theorem gn_of {y : Int32} {b : Nat} (h1 : 0 ≤ y.toInt) (h2 : y.toInt < (b : Int)) : ∃ k, k < b ∧ y = nI k := by
  obtain ⟨k, e, -, e2⟩ := hI_of h1
  exact ⟨k, by omega, e⟩
theorem gft_rel (h6 : cc ≤ 6) (h8 : gc + N ≤ 8) (X1 : gvX X0 X n0 cc gc f N) (hm : gmI gc M N M') (hv : ∀ k, k < N → gvM tp (min n0 55) cc k (Ar M 173)) (hf : ∀ j, j < n0 → f j = tp j) (s : RS cc gc g e d (Ar X0 17) (Ar X0 18) x m (Ar M 170)) (ri : RI cc gc (Ar M 170)) (rm : ∀ j, j < gc → (Ar X0 9 j = Ar M 166 j ∧ ∃ k, k < 5 ∧ Ar M 166 j = nI k) ∧ Ar X0 10 j = Ar M 167 j ∧ (Ar X0 11 j = Ar M 168 j ∧ ∃ k, k < 10 ∧ Ar M 168 j = nI k)) : RS cc (gc + N) g e d (Ar X 17) (Ar X 18) x m (Ar M' 170) ∧ RI cc (gc + N) (Ar M' 170) ∧ ∀ j, j < gc + N → (Ar X 9 j = Ar M' 166 j ∧ ∃ k, k < 5 ∧ Ar M' 166 j = nI k) ∧ Ar X 10 j = Ar M' 167 j ∧ (Ar X 11 j = Ar M' 168 j ∧ ∃ k, k < 10 ∧ Ar M' 168 j = nI k) := by
  obtain ⟨-, -, xo, xn⟩ := X1
  obtain ⟨-, mn, mo, m78, m95, mb⟩ := hm
  obtain ⟨s1, s2, s3, s4, s5, s6, s7⟩ := s
  obtain ⟨i1, i2, i3, i4, i5⟩ := ri
  have hf' : ∀ j, j < min n0 55 → f j = tp j := fun j hj => hf j (by omega)
  have e94 : Ar M' 170 94 = Ar M 170 94 := bit_ext (fun k hk => by
    rw [mb k hk]
    by_cases z : gc ≤ k
    · rw [i5 k z hk]
      rfl
    · rw [decide_eq_false (by omega)]
      exact Bool.and_true _)
  -- a new gift
  have new : ∀ k, k < N → ((Ar X 17 (gc + k) = Ar M' 170 (78 + (gc + k)) ∧ ∃ c, c < cc ∧ Ar M' 170 (78 + (gc + k)) = nI c) ∧ Ar X 18 (gc + k) = Ar M' 170 (86 + (gc + k))) ∧ (Ar X 9 (gc + k) = Ar M' 166 (gc + k) ∧ ∃ c, c < 5 ∧ Ar M' 166 (gc + k) = nI c) ∧ Ar X 10 (gc + k) = Ar M' 167 (gc + k) ∧ (Ar X 11 (gc + k) = Ar M' 168 (gc + k) ∧ ∃ c, c < 10 ∧ Ar M' 168 (gc + k) = nI c) := by
    intro k hk
    obtain ⟨y0, y1, y2, y3, y4, y5⟩ := xn k hk
    obtain ⟨u1, u2, u3⟩ := rgL_suc y0
    obtain ⟨w1, w2, w3, w4⟩ := hv k hk
    obtain ⟨v1, v2, v3, v4, v5⟩ := mn k hk
    rw [← gps_cong hf', ← nbr_cong hf'] at w2 w3 w4
    rw [← gps_cong hf'] at w1
    generalize gps f (min n0 55) cc k = p at *
    generalize nbr f (min n0 55) 2 (p + 1) 0 = b at *
    have p1 := (dgi_g0 u1).1
    have p2 := dg_lt u2
    have p3 := (dgi_g0 u3).1
    have e1 : f p = tp p := hf' p p1
    have e2 : f (b.1 + 1) = tp (b.1 + 1) := hf' _ p2
    have e3 : f (b.1 + 2) = tp (b.1 + 2) := hf' _ p3
    rw [dgi_rng (c := 5) (by decide) (by decide), Bool.and_eq_true] at u1
    rw [dgi_rng (by omega) (cc_m1 h6), Bool.and_eq_true] at u3
    have k1 := gn_of (dg_val u1.1).1 (of_decide_eq_true u1.2)
    have k2 := gn_of (b := 10) (dg_val u2).1 (by have := (dg_val u2).2; omega)
    have k3 := gn_of (dg_val u3.1).1 (of_decide_eq_true u3.2)
    rw [v1, v2, v3, v4, v5, w1, w2, w3, w4, ← e1, ← e2, ← e3]
    exact ⟨⟨⟨y4, k3⟩, y5⟩, ⟨y1, k1⟩, y2, y3, k2⟩
  have all : ∀ (P : Nat → Prop), (∀ j, j < gc → P j) → (∀ k, k < N → P (gc + k)) → ∀ j, j < gc + N → P j := by
    intro P h1 h2 j hj
    by_cases z : j < gc
    · exact h1 j z
    · have := h2 (j - gc) (by omega)
      rw [show gc + (j - gc) = j by omega] at this
      exact this
  refine ⟨⟨fun c hc => ?_, fun a b ha hb hab => ?_, fun a b ha hb => ?_, all _ (fun j hj => ?_) (fun k hk => (new k hk).1.1.1), all _ (fun j hj => ?_) (fun k hk => (new k hk).1.2), s6.trans e94.symm, s7.trans m95.symm⟩, ⟨fun c hc => ?_, fun a b ha hb hab => ?_, fun a b ha hb => ?_, all _ (fun j hj => ?_) (fun k hk => (new k hk).1.1.2), fun k h1 h2 => ?_⟩, all _ (fun j hj => ?_) (fun k hk => (new k hk).2)⟩
  · rw [m78 c (by omega)]
    exact s1 c hc
  · rw [m78 _ (by omega)]
    exact s2 a b ha hb hab
  · rw [m78 _ (by omega)]
    exact s3 a b ha hb
  · rw [(mo j hj).2.2.2.1, (xo j hj).2.2.2.1]
    exact s4 j hj
  · rw [(mo j hj).2.2.2.2, (xo j hj).2.2.2.2]
    exact s5 j hj
  · rw [m78 c (by omega)]
    exact i1 c hc
  · rw [m78 _ (by omega)]
    exact i2 a b ha hb hab
  · rw [m78 _ (by omega)]
    exact i3 a b ha hb
  · rw [(mo j hj).2.2.2.1]
    exact i4 j hj
  · rw [e94]
    exact i5 k (by omega) h2
  · obtain ⟨o1, o2, o3, -⟩ := mo j hj
    obtain ⟨q1, q2, q3, -⟩ := xo j hj
    rw [o1, o2, o3, q1, q2, q3]
    exact rm j hj
end GFR
end MG95zzyrx1
end MH95zzyjx3
