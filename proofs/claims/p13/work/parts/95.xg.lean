/-! the class's courts: the LINES come -/
section CXG
variable {n fr lo sl n0 cc N : Nat} {h h' : pm_H} {R : pm_Rs} {f : Nat → Int32}
def rC (h : pm_H) (v : Value) : Prop := ∃ rs, h 5 = .inr (3, rs) ∧ rs[0]? = some v
def pY (h : pm_H) (c : Nat) : Prop := (∃ fs, h 0 = .inr (10, fs) ∧ fs[2]? = some (.ref 5)) ∧ rC h (.int (nI c))
theorem pY_fm {c : Nat} (q : fm (sfF sQ) h h') (x : pY h c) : pY h' c := by
  obtain ⟨⟨fs, a1, a2⟩, rs, d1, d2⟩ := x
  obtain ⟨fs', e1, -, e2⟩ := q.2 0 10 fs a1
  obtain ⟨rs', i1, -, i2⟩ := q.2 5 3 rs d1
  exact ⟨⟨fs', e1, (e2 2 rfl).trans a2⟩, rs', i1, (i2 0 rfl).trans d2⟩
theorem xc_fin {c : Nat} {v x2 : Int32} (x : pY h c) (hh : pm_run PT n fr lo 88 (54, [some (.ref 0), some (.int v), some (.int x2)], [], h, 198, sl) = some R) : R.1 = some (.int v) ∧ rC R.2.1 (.int (nI c)) := by
  obtain ⟨n, hh⟩ := rn_i rfl rfl rfl rfl hh
  obtain ⟨n, fr', lo', r1, hr1, hh⟩ := rn_call (w := 0) (t := 133) rfl rfl hh
  have hf := sf_run sQ_ok _ _ _ 133 _ r1 rfl hr1
  have hz := sz_run sQ_ok _ _ _ 133 _ r1 rfl hr1
  have hv := vd_run rfl hr1
  obtain ⟨rv, h1, s1⟩ := r1
  dsimp only at hf hz hv
  subst hz
  subst hv
  have hh : pm_run PT n fr lo 88 (58, [some (.ref 0), some (.int v), some (.int x2)], [], h1, 198, sl) = some R := hh
  obtain ⟨n, hh⟩ := rn_i rfl rfl rfl rfl hh
  have e := (rn_ret rfl (Or.inl rfl) hh).2
  subst e
  exact ⟨rfl, (pY_fm hf x).2⟩
theorem xc_loop (hN : N ≤ 6) (hc : cc ≤ 6) : ∀ (d k n : Nat) (h : pm_H), k + d = N → pY h (cc + k) → pm_run PT n fr lo 88 (19, [some (.ref 0), some (.int (nI N)), some (.int (nI k))], [], h, 198, sl) = some R → R.1 = some (.int (nI N)) ∧ rC R.2.1 (.int (nI (cc + N))) := by
  intro d
  induction d with
  | zero =>
    intro k n h hk x hh
    have hk : k = N := by omega
    subst hk
    obtain ⟨n, hh⟩ := rn_i rfl rfl rfl rfl hh
    obtain ⟨n, hh⟩ := rn_i rfl rfl rfl rfl hh
    obtain ⟨n, hh⟩ := rn_icmp (cc := .ge) (off := 33) (t := 54) rfl rfl hh
    rw [hI_ge (by omega) (by omega), decide_eq_true (Nat.le_refl _)] at hh
    exact xc_fin x hh
  | succ d ih =>
    intro k n h hk x hh
    obtain ⟨n, hh⟩ := rn_i rfl rfl rfl rfl hh
    obtain ⟨n, hh⟩ := rn_i rfl rfl rfl rfl hh
    obtain ⟨n, hh⟩ := rn_icmp (cc := .ge) (off := 33) (t := 54) rfl rfl hh
    rw [hI_ge (by omega) (by omega), decide_eq_false (by omega)] at hh
    obtain ⟨⟨fs, a1, a2⟩, rs, d1, d2⟩ := id x
    obtain ⟨n, hh⟩ := rn_i rfl rfl rfl rfl hh
    obtain ⟨n, hh⟩ := rn_i rfl rfl rfl rfl hh
    obtain ⟨n, hh⟩ := rn_gfo (g := 2) rfl rfl (by decide) a1 a2 hh
    obtain ⟨n, hh⟩ := rn_gfo (g := 0) rfl rfl (by decide) d1 d2 hh
    obtain ⟨n, fr', lo', r1, hr1, hh⟩ := rn_call (w := 0) (t := 132) rfl rfl hh
    have hf := sf_run sQ_ok _ _ _ 132 _ r1 rfl hr1
    have hz := sz_run sQ_ok _ _ _ 132 _ r1 rfl hr1
    have hv := vd_run rfl hr1
    obtain ⟨rv, h1, s1⟩ := r1
    dsimp only at hf hz hv
    subst hz
    subst hv
    obtain ⟨⟨gs, b1, b2⟩, qs, c1, c2⟩ := pY_fm hf x
    have hh : pm_run PT n fr lo 88 (35, [some (.ref 0), some (.int (nI N)), some (.int (nI k))], [], h1, 198, sl) = some R := hh
    obtain ⟨n, hh⟩ := rn_i rfl rfl rfl rfl hh
    obtain ⟨n, hh⟩ := rn_gfo (g := 2) rfl rfl (by decide) b1 b2 hh
    obtain ⟨n, hh⟩ := rn_i rfl rfl rfl rfl hh
    obtain ⟨n, hh⟩ := rn_gfo (g := 0) rfl rfl (by decide) c1 c2 hh
    obtain ⟨n, hh⟩ := rn_i rfl rfl rfl rfl hh
    obtain ⟨n, hh⟩ := rn_i rfl rfl rfl rfl hh
    obtain ⟨n, hh⟩ := rn_i rfl rfl rfl (pf_eq (f := 0) rfl rfl (by decide) (by decide) c1 c2) hh
    obtain ⟨n, hh⟩ := rn_i rfl rfl rfl rfl hh
    obtain ⟨n, hh⟩ := rn_i rfl rfl rfl rfl hh
    have e1 : nI (cc + k) + Int32.ofInt 1 = nI (cc + (k + 1)) := (Int32.ofNat_add (cc + k) 1).symm
    have e2 : nI k + Int32.ofInt 1 = nI (k + 1) := (Int32.ofNat_add k 1).symm
    have hh : pm_run PT n fr lo 88 (19, [some (.ref 0), some (.int (nI N)), some (.int (nI k + Int32.ofInt 1))], [], va_up h1 5 (.inr (3, qs.set 0 (.int (nI (cc + k) + Int32.ofInt 1)))), 198, sl) = some R := hh
    rw [e1, e2] at hh
    refine ih (k + 1) n _ (by omega) ⟨⟨gs, by simp [va_up, b1], b2⟩, qs.set 0 (.int (nI (cc + (k + 1)))), by simp [va_up], ?_⟩ hh
    rw [List.getElem?_set_self (List.getElem?_eq_some_iff.mp c2).1]
theorem xc_run (hn : n0 ≤ 80) (hc : cc ≤ 6) (x : pX h n0 cc f) (hN : (xR n0 cc f = nI N ∧ cc + N ≤ 6) ∨ (pm_cmp .le (xR n0 cc f) 0 = true ∧ N = 0)) (hh : pm_run PT n fr lo 88 (0, pm_l0 [.ref 0] 3, [], h, 198, sl) = some R) : R.1 = some (.int (xR n0 cc f)) ∧ rC R.2.1 (.int (nI (cc + N))) := by
  obtain ⟨n, hh⟩ := rn_i rfl rfl rfl rfl hh
  obtain ⟨n, fr', lo', r1, hr1, hh⟩ := rn_call (w := 0) (t := 129) rfl rfl hh
  have hf := sf_run sQ_ok _ _ _ 129 _ r1 rfl hr1
  have hk := ak_run (by decide) sQ_ak _ _ _ 129 _ r1 rfl hr1
  have hz := sz_run sQ_ok _ _ _ 129 _ r1 rfl hr1
  have hv := xr_run hn hc x hr1
  obtain ⟨rv, h1, s1⟩ := r1
  dsimp only at hf hk hz hv
  subst hz
  subst hv
  obtain ⟨⟨fs, a1, a2, a3⟩, ⟨gs, g1, g2, g3⟩, c1, rs, d1, d2⟩ := pX_fm hf hk x
  generalize xR n0 cc f = v at *
  have hh : pm_run PT n fr lo 88 (4, [some (.ref 0), none, none], [.int v], h1, 198, sl) = some R := hh
  obtain ⟨n, hh⟩ := rn_i rfl rfl rfl rfl hh
  obtain ⟨n, hh⟩ := rn_i rfl rfl rfl rfl hh
  obtain ⟨n, hh⟩ := rn_gfo (g := 0) rfl rfl (by decide) a1 a2 hh
  obtain ⟨n, hh⟩ := rn_i rfl rfl rfl rfl hh
  obtain ⟨n, hh⟩ := rn_i rfl rfl rfl (pf_eq (f := 1) rfl rfl (by decide) (by decide) g1 g3) hh
  have y : pY (va_up h1 1 (.inr (8, gs.set 1 (.int (Int32.ofInt 0))))) cc := ⟨⟨fs, by simp [va_up, a1], a3⟩, rs, by simp [va_up, d1], d2⟩
  generalize va_up h1 1 (.inr (8, gs.set 1 (.int (Int32.ofInt 0)))) = h2 at *
  have hh : pm_run PT n fr lo 88 (13, [some (.ref 0), some (.int v), none], [], h2, 198, sl) = some R := hh
  obtain ⟨n, hh⟩ := rn_i rfl rfl rfl rfl hh
  obtain ⟨n, hh⟩ := rn_if (cc := .le) (off := 44) (t := 58) rfl rfl hh
  have fin0 : ∀ n : Nat, pm_run PT n fr lo 88 (58, [some (.ref 0), some (.int v), none], [], h2, 198, sl) = some R → R.1 = some (.int v) ∧ rC R.2.1 (.int (nI cc)) := by
    intro n hh
    obtain ⟨n, hh⟩ := rn_i rfl rfl rfl rfl hh
    have e := (rn_ret rfl (Or.inl rfl) hh).2
    subst e
    exact ⟨rfl, y.2⟩
  rcases hN with ⟨e1, e2⟩ | ⟨e1, e2⟩
  · by_cases z : N = 0
    · subst z
      rw [show pm_cmp .le v 0 = true by rw [e1]; decide] at hh
      exact fin0 n hh
    · have ec : pm_cmp .le v 0 = false := by
        rw [e1]
        have := hI_le (a := N) (b := 0) (by omega) (by omega)
        rw [decide_eq_false (by omega)] at this
        exact this
      rw [ec] at hh
      rw [e1] at hh ⊢
      obtain ⟨n, hh⟩ := rn_i rfl rfl rfl rfl hh
      obtain ⟨n, hh⟩ := rn_i rfl rfl rfl rfl hh
      exact xc_loop (by omega) hc N 0 n h2 (by omega) y hh
  · subst e2
    rw [e1] at hh
    exact fin0 n hh
end CXG
