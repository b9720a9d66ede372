/-! gifts of both sides, alike -/
section GXU
variable {n fr lo sl n0 cc gc N : Nat} {h h' : pm_H} {R : pm_Rs} {f : Nat → Int32}
def xgR (n0 cc gc : Nat) (f : Nat → Int32) : Int32 := if n0 = 0 then Int32.ofInt 0 else xA n0 (sgL f (min n0 55) cc gc (9 - gc) 0 0)
theorem xgs_0 (hh : pm_run PT n fr lo 130 (10, [some (.ref 0), none, none, none], [], h, 198, sl) = some R) : R.1 = some (.int (Int32.ofInt 0)) := by
  obtain ⟨n, hh⟩ := rn_i rfl rfl rfl rfl hh
  rw [(rn_ret rfl (Or.inl rfl) hh).2]
theorem xgs_1 (hn : n0 ≤ 80) (hc : cc ≤ 6) (hg : gc ≤ 8) (x : pX h n0 cc f) (xg : rG h (.int (nI gc))) (hh : pm_run PT n fr lo 130 (12, [some (.ref 0), none, none, none], [], h, 198, sl) = some R) : R.1 = some (.int (xA n0 (sgL f (min n0 55) cc gc (9 - gc) 0 0))) := by
  obtain ⟨n, hh⟩ := rn_i rfl rfl rfl rfl hh
  obtain ⟨n, hh⟩ := rn_i rfl rfl rfl rfl hh
  obtain ⟨n, hh⟩ := rn_i rfl rfl rfl rfl hh
  obtain ⟨n, hh⟩ := rn_i rfl rfl rfl rfl hh
  have hh : pm_run PT n fr lo 130 (16, [some (.ref 0), some (.int (nI 0)), some (.int (nI 0)), none], [], h, 198, sl) = some R := hh
  exact xgs_loop hn hc (9 - gc) 0 0 n h none (by omega) (by omega) (Nat.zero_le _) x xg hh
theorem xgs_run (hn : n0 ≤ 80) (hc : cc ≤ 6) (hg : gc ≤ 8) (x : pX h n0 cc f) (xg : rG h (.int (nI gc))) (hh : pm_run PT n fr lo 130 (0, pm_l0 [.ref 0] 4, [], h, 198, sl) = some R) : R.1 = some (.int (xgR n0 cc gc f)) := by
  obtain ⟨⟨fs, a1, a2, a3⟩, ⟨gs, g1, g2, g3⟩, -⟩ := id x
  obtain ⟨n, hh⟩ := rn_i rfl rfl rfl rfl hh
  obtain ⟨n, hh⟩ := rn_gfo (g := 0) rfl rfl (by decide) a1 a2 hh
  obtain ⟨n, hh⟩ := rn_gfo (g := 1) rfl rfl (by decide) g1 g3 hh
  obtain ⟨n, hh⟩ := rn_if (cc := .ne) (off := 5) (t := 12) rfl rfl hh
  have en : pm_cmp .ne (nI n0) 0 = decide (¬ n0 = 0) := hI_ne (a := n0) (b := 0) (by omega) (by omega)
  rw [en] at hh
  unfold xgR
  by_cases z : n0 = 0
  · rw [decide_eq_false (fun q => q z)] at hh
    rw [if_pos z]
    exact xgs_0 hh
  · rw [decide_eq_true z] at hh
    rw [if_neg z]
    exact xgs_1 hn hc hg x xg hh
/-- the class's gifts -/
theorem xgf_run (hn : n0 ≤ 80) (hc : cc ≤ 6) (hg : gc ≤ 8) (x : pX h n0 cc f) (xg : rG h (.int (nI gc))) (hN : (xgR n0 cc gc f = nI N ∧ gc + N ≤ 8) ∨ (pm_cmp .le (xgR n0 cc gc f) 0 = true ∧ N = 0)) (hh : pm_run PT n fr lo 89 (0, pm_l0 [.ref 0] 2, [], h, 198, sl) = some R) : R.1 = some (.int (xgR n0 cc gc f)) ∧ rG R.2.1 (.int (nI (gc + N))) := by
  obtain ⟨n, hh⟩ := rn_i rfl rfl rfl rfl hh
  obtain ⟨n, fr', lo', r1, hr1, hh⟩ := rn_call (w := 0) (t := 130) rfl rfl hh
  have hf := sf_run sQ_ok _ _ _ 130 _ r1 rfl hr1
  have hk := ak_run (by decide) sQ_ak _ _ _ 130 _ r1 rfl hr1
  have hfg := sf_run sG_ok _ _ _ 130 _ r1 rfl hr1
  have hz := sz_run sQ_ok _ _ _ 130 _ r1 rfl hr1
  have hv := xgs_run hn hc hg x xg hr1
  obtain ⟨rv, h1, s1⟩ := r1
  dsimp only at hf hk hfg hz hv
  subst hz
  subst hv
  obtain ⟨⟨fs, a1, a2, a3⟩, ⟨gs, g1, g2, g3⟩, c1, -⟩ := pX_fm hf hk x
  obtain ⟨rs, d1, d2⟩ := rG_fm hfg xg
  generalize xgR n0 cc gc f = v at *
  have hh : pm_run PT n fr lo 89 (4, [some (.ref 0), none], [.int v], h1, 198, sl) = some R := hh
  obtain ⟨n, hh⟩ := rn_i rfl rfl rfl rfl hh
  obtain ⟨n, hh⟩ := rn_i rfl rfl rfl rfl hh
  obtain ⟨n, hh⟩ := rn_gfo (g := 0) rfl rfl (by decide) a1 a2 hh
  obtain ⟨n, hh⟩ := rn_i rfl rfl rfl rfl hh
  obtain ⟨n, hh⟩ := rn_i rfl rfl rfl (pf_eq (f := 1) rfl rfl (by decide) (by decide) g1 g3) hh
  have b1 : va_up h1 1 (.inr (8, gs.set 1 (.int (Int32.ofInt 0)))) 0 = .inr (10, fs) := by simp [va_up, a1]
  have b5 : va_up h1 1 (.inr (8, gs.set 1 (.int (Int32.ofInt 0)))) 5 = .inr (3, rs) := by simp [va_up, d1]
  generalize va_up h1 1 (.inr (8, gs.set 1 (.int (Int32.ofInt 0)))) = h2 at *
  have hh : pm_run PT n fr lo 89 (13, [some (.ref 0), some (.int v)], [], h2, 198, sl) = some R := hh
  obtain ⟨n, hh⟩ := rn_i rfl rfl rfl rfl hh
  obtain ⟨n, hh⟩ := rn_if (cc := .le) (off := 20) (t := 34) rfl rfl hh
  have fin0 : ∀ n : Nat, pm_run PT n fr lo 89 (34, [some (.ref 0), some (.int v)], [], h2, 198, sl) = some R → R.1 = some (.int v) ∧ rG R.2.1 (.int (nI gc)) := by
    intro n hh
    obtain ⟨n, hh⟩ := rn_i rfl rfl rfl rfl hh
    have e := (rn_ret rfl (Or.inl rfl) hh).2
    subst e
    exact ⟨rfl, rs, b5, d2⟩
  rcases hN with ⟨e1, e2⟩ | ⟨e1, e2⟩
  · by_cases z : N = 0
    · rw [show pm_cmp .le v 0 = true by rw [e1, z]; decide] at hh
      rw [z]
      exact fin0 n hh
    · have ec : pm_cmp .le v 0 = false := by
        rw [e1]
        have := hI_le (a := N) (b := 0) (by omega) (by omega)
        rw [decide_eq_false (by omega)] at this
        exact this
      rw [ec] at hh
      rw [e1] at hh ⊢
      obtain ⟨n, hh⟩ := rn_i rfl rfl rfl rfl hh
      obtain ⟨n, hh⟩ := rn_gfo (g := 2) rfl rfl (by decide) b1 a3 hh
      obtain ⟨n, hh⟩ := rn_i rfl rfl rfl rfl hh
      obtain ⟨n, hh⟩ := rn_gfo (g := 1) rfl rfl (by decide) b5 d2 hh
      obtain ⟨n, hh⟩ := rn_i rfl rfl rfl rfl hh
      obtain ⟨n, hh⟩ := rn_i rfl rfl rfl rfl hh
      obtain ⟨n, hh⟩ := rn_i rfl rfl rfl (pf_eq (f := 1) rfl rfl (by decide) (by decide) b5 d2) hh
      have ea : nI gc + nI N = nI (gc + N) := nI_add gc N
      have hh : pm_run PT n fr lo 89 (30, [some (.ref 0), some (.int (nI N))], [], va_up h2 5 (.inr (3, rs.set 1 (.int (nI gc + nI N)))), 198, sl) = some R := hh
      rw [ea] at hh
      have rg : rG (va_up h2 5 (.inr (3, rs.set 1 (.int (nI (gc + N)))))) (.int (nI (gc + N))) := ⟨rs.set 1 (.int (nI (gc + N))), by simp [va_up], by rw [List.getElem?_set_self (List.getElem?_eq_some_iff.mp d2).1]⟩
      obtain ⟨n, hh⟩ := rn_i rfl rfl rfl rfl hh
      obtain ⟨n, fr', lo', r1, hr1, hh⟩ := rn_call (w := 0) (t := 133) rfl rfl hh
      have hf := sf_run sG_ok _ _ _ 133 _ r1 rfl hr1
      have hz := sz_run sG_ok _ _ _ 133 _ r1 rfl hr1
      have hv := vd_run rfl hr1
      obtain ⟨rv, h3, s3⟩ := r1
      dsimp only at hf hz hv
      subst hz
      subst hv
      have hh : pm_run PT n fr lo 89 (34, [some (.ref 0), some (.int (nI N))], [], h3, 198, sl) = some R := hh
      obtain ⟨n, hh⟩ := rn_i rfl rfl rfl rfl hh
      have e := (rn_ret rfl (Or.inl rfl) hh).2
      subst e
      exact ⟨rfl, rG_fm hf rg⟩
  · rw [e1] at hh
    rw [e2]
    exact fin0 n hh
theorem fO_eq2 {m at_ : Nat} {is : Bool} (hm : m ≤ 80) (ha : at_ ≤ min n0 m) : fO n0 m (min n0 m) at_ is = cond (is && decide (at_ = n0)) (Int32.ofInt 0) (Int32.ofInt (-1) - nI at_) := by
  unfold fO fO2
  by_cases z : at_ = n0
  · have ht : at_ = min n0 m := by omega
    rw [decide_eq_true z, decide_eq_true ht, if_neg (by omega)]
  · rw [decide_eq_false z, Bool.and_false]
    by_cases y : at_ = min n0 m
    · have e41 : at_ = m := by omega
      rw [if_pos ⟨by omega, Or.inr (by omega)⟩, e41, cond_false]
    · rw [decide_eq_false y, Bool.and_false, if_neg (fun q => by rcases q.2 with q | q; cases q; omega)]
theorem nbr_cong {tp : Nat → Int32} {t : Nat} (hf : ∀ j, j < t → f j = tp j) : ∀ (k a : Nat) (v : Int32), nbr f t k a v = nbr tp t k a v
  | 0, a, v => rfl
  | k + 1, a, v => by
    unfold nbr
    by_cases z : a < t
    · have e : dg f a t = dg tp a t := by unfold dg; rw [hf a z]
      rw [e, hf a z, nbr_cong hf k (a + 1)]
    · have e1 : dg f a t = false := by unfold dg; rw [decide_eq_false z]; rfl
      have e2 : dg tp a t = false := by unfold dg; rw [decide_eq_false z]; rfl
      rw [e1, e2]
      rfl
theorem dg_cong {tp : Nat → Int32} {t : Nat} (hf : ∀ j, j < t → f j = tp j) (a : Nat) : dg f a t = dg tp a t := by
  unfold dg
  by_cases z : a < t
  · rw [hf a z]
  · rw [decide_eq_false z, Bool.false_and, Bool.false_and]
theorem dgi_cong {tp : Nat → Int32} {t : Nat} {l u : Int32} (hf : ∀ j, j < t → f j = tp j) (a : Nat) : dgi f a t l u = dgi tp a t l u := by
  unfold dgi
  by_cases z : a < t
  · rw [hf a z]
  · rw [decide_eq_false z, Bool.false_and, Bool.false_and]
theorem sep_cong {tp : Nat → Int32} {t : Nat} {c : Int32} (hf : ∀ j, j < t → f j = tp j) (a : Nat) : decide (a < t ∧ f a = c) = decide (a < t ∧ tp a = c) := by
  by_cases z : a < t
  · rw [hf a z]
  · rw [decide_eq_false (fun q => z q.1), decide_eq_false (fun q => z q.1)]
theorem rgL_cong {tp : Nat → Int32} {t : Nat} (hf : ∀ j, j < t → f j = tp j) (a : Nat) : rgL f t cc a = rgL tp t cc a := by
  unfold rgL rgW rgC rgE
  rw [dgi_cong hf, dg_cong hf, nbr_cong hf 2 (a + 1) 0, sep_cong hf, dg_cong hf, dgi_cong hf]
theorem sgL_cong {tp : Nat → Int32} {t : Nat} (hf : ∀ j, j < t → f j = tp j) : ∀ (k rm a : Nat), sgL f t cc gc k rm a = sgL tp t cc gc k rm a
  | 0, rm, a => rfl
  | k + 1, rm, a => by
    unfold sgL
    rw [rgL_cong hf, sgL_cong hf k (rm + 1) ((rgL tp t cc a).2 + 1), sep_cong hf]
theorem gm_both {tp : Nat → Int32} (hn : n0 ≤ 80) (hg : gc ≤ 8) (hf : ∀ j, j < n0 → f j = tp j) : gmA tp n0 cc gc = xgR n0 cc gc f ∧ ((xgR n0 cc gc f = nI (gmN tp n0 cc gc) ∧ gc + gmN tp n0 cc gc ≤ 8) ∨ (pm_cmp .le (xgR n0 cc gc f) 0 = true ∧ gmN tp n0 cc gc = 0)) := by
  have e0 : pm_cmp .ge (Int32.ofInt 0) 0 = true := by decide
  unfold gmA gmN gmF xgR
  by_cases z : n0 = 0
  · have es : gmS tp n0 cc gc = (true, 0, 0) := by
      unfold gmS
      rw [z]
      rfl
    rw [es, if_pos z]
    dsimp only
    rw [fO_eq2 (by decide) (Nat.zero_le _), show (true && decide (0 = n0)) = true by rw [z]; rfl]
    generalize Int32.ofInt (-1) - nI 0 = y
    simp only [cond_true]
    rw [e0]
    simp only [cond_true]
    exact ⟨(by decide), Or.inl ⟨(by decide), hg⟩⟩
  · have es : gmS tp n0 cc gc = sgL tp (min n0 55) cc gc (9 - gc) 0 0 := by
      unfold gmS
      rw [nb_ne z]
      rfl
    have e2 := sgL_cong (cc := cc) (gc := gc) (t := min n0 55) (fun j hj => hf j (by omega)) (9 - gc) 0 0
    obtain ⟨b1, b3⟩ := sgL_bd (tp := tp) (cc := cc) (gc := gc) (9 - gc) 0 0 (Nat.zero_le (min n0 55))
    have b3 := b3 (by omega)
    rw [es, if_neg z, e2]
    generalize sgL tp (min n0 55) cc gc (9 - gc) 0 0 = s at *
    rw [fO_eq2 (by decide) b1]
    unfold xA
    have y1 := neg_ge (a := s.2.1) (by omega)
    have y2 := neg_le (a := s.2.1) (by omega)
    generalize Int32.ofInt (-1) - nI s.2.1 = y at *
    cases hs : (s.1 && decide (s.2.1 = n0)) with
    | true =>
      simp only [cond_true]
      rw [e0]
      simp only [cond_true]
      exact ⟨trivial, Or.inl ⟨trivial, b3⟩⟩
    | false =>
      simp only [cond_false]
      rw [y1]
      simp only [cond_false]
      exact ⟨trivial, Or.inr ⟨y2, trivial⟩⟩
end GXU
