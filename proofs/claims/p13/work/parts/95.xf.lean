section CXF
variable {n fr lo sl n0 cc : Nat} {h : pm_H} {R : pm_Rs} {f : Nat → Int32}
theorem xr_0 (hh : pm_run PT n fr lo 129 (10, [some (.ref 0), none, none, none, none, none], [], h, 198, sl) = some R) : R.1 = some (.int (Int32.ofInt 0)) := by
  obtain ⟨n, hh⟩ := rn_i rfl rfl rfl rfl hh
  rw [(rn_ret rfl (Or.inl rfl) hh).2]
theorem xr_1 (hn : n0 ≤ 80) (hc : cc ≤ 6) (x : pX h n0 cc f) (hh : pm_run PT n fr lo 129 (12, [some (.ref 0), none, none, none, none, none], [], h, 198, sl) = some R) : R.1 = some (.int (xA n0 (spL f (min n0 41) cc (7 - cc) 0 0))) := by
  obtain ⟨n, hh⟩ := rn_i rfl rfl rfl rfl hh
  obtain ⟨n, hh⟩ := rn_i rfl rfl rfl rfl hh
  obtain ⟨n, hh⟩ := rn_i rfl rfl rfl rfl hh
  obtain ⟨n, hh⟩ := rn_i rfl rfl rfl rfl hh
  have hh : pm_run PT n fr lo 129 (16, [some (.ref 0), some (.int (nI 0)), some (.int (nI 0)), none, none, none], [], h, 198, sl) = some R := hh
  exact xr_loop hn (7 - cc) 0 0 n h none none none (by omega) (by omega) (Nat.zero_le _) x hh
def xR (n0 cc : Nat) (f : Nat → Int32) : Int32 := if n0 = 0 then Int32.ofInt 0 else xA n0 (spL f (min n0 41) cc (7 - cc) 0 0)
theorem xr_run (hn : n0 ≤ 80) (hc : cc ≤ 6) (x : pX h n0 cc f) (hh : pm_run PT n fr lo 129 (0, pm_l0 [.ref 0] 6, [], h, 198, sl) = some R) : R.1 = some (.int (xR n0 cc f)) := by
  obtain ⟨⟨fs, a1, a2, a3⟩, ⟨gs, g1, g2, g3⟩, -⟩ := id x
  obtain ⟨n, hh⟩ := rn_i rfl rfl rfl rfl hh
  obtain ⟨n, hh⟩ := rn_gfo (g := 0) rfl rfl (by decide) a1 a2 hh
  obtain ⟨n, hh⟩ := rn_gfo (g := 1) rfl rfl (by decide) g1 g3 hh
  obtain ⟨n, hh⟩ := rn_if (cc := .ne) (off := 5) (t := 12) rfl rfl hh
  have en : pm_cmp .ne (nI n0) 0 = decide (¬ n0 = 0) := hI_ne (a := n0) (b := 0) (by omega) (by omega)
  rw [en] at hh
  unfold xR
  by_cases z : n0 = 0
  · rw [decide_eq_false (fun q => q z)] at hh
    rw [if_pos z]
    exact xr_0 hh
  · rw [decide_eq_true z] at hh
    rw [if_neg z]
    exact xr_1 hn hc x hh
/-- both answers are one -/
theorem neg_ge {a : Nat} (ha : a ≤ 80) : pm_cmp .ge (Int32.ofInt (-1) - nI a) 0 = false := by
  have e : (Int32.ofInt (-1) - nI a).toInt = -1 - (a : Int) := by
    rw [Int32.toInt_sub, nI_toInt (by omega), show (Int32.ofInt (-1)).toInt = -1 by decide, Int.bmod_eq_of_le (by omega) (by omega)]
  generalize Int32.ofInt (-1) - nI a = y at e ⊢
  simp only [pm_cmp]
  rw [decide_eq_false_iff_not]
  intro q
  rw [Int32.le_iff_toInt_le, e, show (0 : Int32).toInt = 0 by decide] at q
  omega
theorem fO_eq {at_ : Nat} {is : Bool} (hn : n0 ≤ 80) (ha : at_ ≤ min n0 41) : fO n0 41 (min n0 41) at_ is = cond (is && decide (at_ = n0)) (Int32.ofInt 0) (Int32.ofInt (-1) - nI at_) := by
  unfold fO fO2
  by_cases z : at_ = n0
  · have ht : at_ = min n0 41 := by omega
    rw [decide_eq_true z, decide_eq_true ht, if_neg (by omega)]
  · rw [decide_eq_false z, Bool.and_false]
    by_cases y : at_ = min n0 41
    · have e41 : at_ = 41 := by omega
      rw [if_pos ⟨by omega, Or.inr (by omega)⟩, e41]
      rfl
    · rw [decide_eq_false y, Bool.and_false, if_neg (fun q => by rcases q.2 with q | q; cases q; omega)]
theorem rcD_cong {tp : Nat → Int32} {t : Nat} (hf : ∀ j, j < t → f j = tp j) : ∀ (k a : Nat), rcD f t k a = rcD tp t k a
  | 0, a => rfl
  | k + 1, a => by
    unfold rcD
    have e : dg f a t = dg tp a t := by
      unfold dg
      by_cases z : a < t
      · rw [hf a z]
      · rw [decide_eq_false z, Bool.false_and, Bool.false_and]
    rw [e, rcD_cong hf k (a + 1)]
theorem rcC_cong {tp : Nat → Int32} {t a : Nat} (hf : ∀ j, j < t → f j = tp j) : rcC f t a = rcC tp t a := by
  unfold rcC
  have e : dgi f a t 1 9 = dgi tp a t 1 9 := by
    unfold dgi
    by_cases z : a < t
    · rw [hf a z]
    · rw [decide_eq_false z, Bool.false_and, Bool.false_and]
  rw [e, rcD_cong hf 5 (a + 1)]
theorem spL_cong {tp : Nat → Int32} {t : Nat} (hf : ∀ j, j < t → f j = tp j) : ∀ (k rm a : Nat), spL f t cc k rm a = spL tp t cc k rm a
  | 0, rm, a => rfl
  | k + 1, rm, a => by
    unfold spL
    rw [rcC_cong hf, spL_cong hf k (rm + 1) ((rcC tp t a).2 + 1)]
    have e : decide ((rcC tp t a).2 < t ∧ f (rcC tp t a).2 = 59) = decide ((rcC tp t a).2 < t ∧ tp (rcC tp t a).2 = 59) := by
      by_cases z : (rcC tp t a).2 < t
      · rw [hf _ z]
      · rw [decide_eq_false (fun q => z q.1), decide_eq_false (fun q => z q.1)]
    rw [e]
theorem neg_le {a : Nat} (ha : a ≤ 80) : pm_cmp .le (Int32.ofInt (-1) - nI a) 0 = true := by
  have e : (Int32.ofInt (-1) - nI a).toInt = -1 - (a : Int) := by
    rw [Int32.toInt_sub, nI_toInt (by omega), show (Int32.ofInt (-1)).toInt = -1 by decide, Int.bmod_eq_of_le (by omega) (by omega)]
  generalize Int32.ofInt (-1) - nI a = y at e ⊢
  simp only [pm_cmp]
  rw [decide_eq_true_iff, Int32.le_iff_toInt_le, e, show (0 : Int32).toInt = 0 by decide]
  omega
/-- the reference's answer and how many came, by the class's -/
theorem cm_both {tp : Nat → Int32} (hn : n0 ≤ 80) (hc : cc ≤ 6) (hf : ∀ j, j < n0 → f j = tp j) : cmA tp n0 cc = xR n0 cc f ∧ ((xR n0 cc f = nI (cmN tp n0 cc) ∧ cc + cmN tp n0 cc ≤ 6) ∨ (pm_cmp .le (xR n0 cc f) 0 = true ∧ cmN tp n0 cc = 0)) := by
  have e0 : pm_cmp .ge (Int32.ofInt 0) 0 = true := by decide
  unfold cmA cmN cmF xR
  by_cases z : n0 = 0
  · have es : cmS tp n0 cc = (true, 0, 0) := by
      unfold cmS
      rw [z]
      rfl
    rw [es, if_pos z]
    dsimp only
    rw [fO_eq hn (Nat.zero_le _), show (true && decide (0 = n0)) = true by rw [z]; rfl]
    generalize Int32.ofInt (-1) - nI 0 = y
    simp only [cond_true]
    rw [e0]
    simp only [cond_true]
    exact ⟨(by decide), Or.inl ⟨(by decide), hc⟩⟩
  · have es : cmS tp n0 cc = spL tp (min n0 41) cc (7 - cc) 0 0 := by
      unfold cmS
      rw [nb_ne z]
      rfl
    have e2 := spL_cong (cc := cc) (t := min n0 41) (fun j hj => hf j (by omega)) (7 - cc) 0 0
    obtain ⟨b1, b2, b3⟩ := spL_bd (tp := tp) (cc := cc) (7 - cc) 0 0 (Nat.zero_le (min n0 41))
    have b3 := b3 (by omega)
    rw [es, if_neg z, e2]
    generalize spL tp (min n0 41) cc (7 - cc) 0 0 = s at *
    rw [fO_eq hn b1]
    unfold xA
    have y1 := neg_ge (a := s.2.1) (by omega)
    have y2 := neg_le (a := s.2.1) (by omega)
    generalize Int32.ofInt (-1) - nI s.2.1 = y at *
    cases hs : (s.1 && decide (s.2.1 = n0)) with
    | true =>
      simp only [cond_true]
      rw [e0]
      simp only [cond_true]
      exact ⟨trivial, Or.inl ⟨trivial, b3⟩⟩
    | false =>
      simp only [cond_false]
      rw [y1]
      simp only [cond_false]
      exact ⟨trivial, Or.inr ⟨y2, trivial⟩⟩
end CXF
