/-! the reference's courts, whole -/
section CMW
variable {n fr lo sl n0 cc : Nat} {h : pm_H} {R : pm_Rs} {tp : Nat → Int32}
def cmS (tp : Nat → Int32) (n0 cc : Nat) : Bool × Nat × Nat := cond (Nat.beq n0 0) (true, 0, 0) (spL tp (min n0 41) cc (7 - cc) 0 0)
def cmF (tp : Nat → Int32) (n0 cc : Nat) : Int32 := fO n0 41 (min n0 41) (cmS tp n0 cc).2.1 (cmS tp n0 cc).1
def cmA (tp : Nat → Int32) (n0 cc : Nat) : Int32 := cond (pm_cmp .ge (cmF tp n0 cc) 0) (nI (cmS tp n0 cc).2.2) (cmF tp n0 cc)
def cmN (tp : Nat → Int32) (n0 cc : Nat) : Nat := cond (pm_cmp .ge (cmF tp n0 cc) 0) (cmS tp n0 cc).2.2 0
theorem spL_bd {t : Nat} : ∀ (k rm a : Nat), a ≤ t → (spL tp t cc k rm a).2.1 ≤ t ∧ rm ≤ (spL tp t cc k rm a).2.2 ∧ (cc + rm ≤ 6 → cc + (spL tp t cc k rm a).2.2 ≤ 6)
  | 0, rm, a, ha => ⟨ha, Nat.le_refl _, fun q => q⟩
  | k + 1, rm, a, ha => by
    unfold spL
    cases z : decide (cc + rm = 6) with
    | true => exact ⟨ha, Nat.le_refl _, fun q => q⟩
    | false =>
      have zz := of_decide_eq_false z
      have hle := rcC_le (tp := tp) ha
      dsimp only [cond]
      cases (rcC tp t a).1 with
      | false => exact ⟨hle, Nat.le_succ _, fun q => by show cc + (rm + 1) ≤ 6; omega⟩
      | true =>
        dsimp only
        cases x : decide ((rcC tp t a).2 < t ∧ tp (rcC tp t a).2 = 59) with
        | false => exact ⟨hle, Nat.le_succ _, fun q => by show cc + (rm + 1) ≤ 6; omega⟩
        | true =>
          have xx := of_decide_eq_true x
          obtain ⟨a1, a2, a3⟩ := spL_bd (t := t) k (rm + 1) ((rcC tp t a).2 + 1) (by omega)
          exact ⟨a1, Nat.le_trans (Nat.le_succ rm) a2, fun q => a3 (by omega)⟩
theorem cm_run {w x16 x17 x18 x20 : Int32} {f : Nat → Int32} (hn : n0 ≤ 80) (hc : cc ≤ 6) (h0 : mF h 0 (.int w)) (h15 : mF h 15 (.int (nI n0))) (h16 : mF h 16 (.int x16)) (h17 : mF h 17 (.int x17)) (h18 : mF h 18 (.int x18)) (h20 : mF h 20 (.int x20)) (h3 : mF h 3 (.int (nI cc))) (h14 : mF h 14 (.ref 172)) (hA : h 172 = .inl (0, 80, .inl tp)) (h19 : mF h 19 (.ref 173)) (hB : h 173 = .inl (0, 36, .inl f)) (hh : pm_run PT n fr lo 188 (0, pm_l0 [.ref 162] 7, [], h, 198, sl) = some R) : R.1 = some (.int (cmA tp n0 cc)) ∧ mF R.2.1 3 (.int (nI (cc + cmN tp n0 cc))) := by
  obtain ⟨n, hh⟩ := rn_i rfl rfl rfl rfl hh
  obtain ⟨n, hh⟩ := rn_i rfl rfl rfl rfl hh
  obtain ⟨n, hh⟩ := rn_pfm (w := .int w) rfl rfl rfl (by decide) h0 hh
  obtain ⟨n, hh⟩ := rn_i rfl rfl rfl rfl hh
  obtain ⟨n, hh⟩ := rn_i rfl rfl rfl rfl hh
  obtain ⟨n, fr', lo', r1, hr1, hh⟩ := rn_call (w := 0) (t := 180) rfl rfl hh
  have g15 : mF (mset h 0 (.int (Int32.ofInt 0))) 15 (.int (nI n0)) := mF_ne (by decide) h15
  have er := rn_dt (F := 10) (Lo := 1000) (hd_begins (fr := 10) (lo := 1000) (sl := sl) (m := 41) g15 (mF_ne (by decide) h16) (mF_ne (by decide) h17) (mF_ne (by decide) h18) hn (by decide) (by decide) (by decide)) hr1
  subst er
  have mm : ∀ (g : Nat) (v : Value), g ≠ 0 → g ≠ 15 → g ≠ 16 → g ≠ 18 → g ≠ 17 → mF h g v → mF (hbeg (mset h 0 (.int (Int32.ofInt 0))) n0 41) g v := fun g v a0 a1 a2 a3 a4 q => mF_ne (Ne.symm a4) (mF_ne (Ne.symm a3) (mF_ne (Ne.symm a2) (mF_ne (Ne.symm a1) (mF_ne (Ne.symm a0) q))))
  have p20 : mF (hbeg (mset h 0 (.int (Int32.ofInt 0))) n0 41) 20 (.int x20) := mm 20 _ (by decide) (by decide) (by decide) (by decide) (by decide) h20
  have pp : pR (mset (hbeg (mset h 0 (.int (Int32.ofInt 0))) n0 41) 20 (.int (nI 0))) tp (min n0 41) cc 0 0 := by
    refine ⟨⟨mF_ne (by decide) ?_, mF_ne (by decide) ?_, mF_ne (by decide) (mm 14 _ (by decide) (by decide) (by decide) (by decide) (by decide) h14), ?_⟩, mF_self p20, mF_ne (by decide) (mm 3 _ (by decide) (by decide) (by decide) (by decide) (by decide) h3), mF_ne (by decide) (mm 19 _ (by decide) (by decide) (by decide) (by decide) (by decide) h19), f, ?_⟩
    · exact mF_ne (by decide) (mF_ne (by decide) (mF_self (w := .int x16) (mF_ne (by decide) (mF_ne (by decide) h16))))
    · exact mF_self (w := .int x17) (mF_ne (by decide) (mF_ne (by decide) (mF_ne (by decide) (mF_ne (by decide) h17))))
    · exact mset_arr (by decide) (mset_arr (by decide) (mset_arr (by decide) (mset_arr (by decide) (mset_arr (by decide) (mset_arr (by decide) hA)))))
    · exact mset_arr (by decide) (mset_arr (by decide) (mset_arr (by decide) (mset_arr (by decide) (mset_arr (by decide) (mset_arr (by decide) hB)))))
  have hh : pm_run PT n fr lo 188 (11, [some (.ref 162), none, none, none, none, none, none], [.int (nI n0)], hbeg (mset h 0 (.int (Int32.ofInt 0))) n0 41, 198, sl) = some R := hh
  generalize hbeg (mset h 0 (.int (Int32.ofInt 0))) n0 41 = hb at *
  obtain ⟨n, hh⟩ := rn_i rfl rfl rfl rfl hh
  obtain ⟨n, hh⟩ := rn_i rfl rfl rfl rfl hh
  obtain ⟨n, hh⟩ := rn_i rfl rfl rfl rfl hh
  obtain ⟨n, hh⟩ := rn_pfm (w := .int x20) rfl rfl rfl (by decide) p20 hh
  obtain ⟨n, hh⟩ := rn_i rfl rfl rfl rfl hh
  obtain ⟨n, hh⟩ := rn_i rfl rfl rfl rfl hh
  obtain ⟨n, hh⟩ := rn_i rfl rfl rfl rfl hh
  obtain ⟨n, hh⟩ := rn_if (cc := .le) (off := 7) (t := 27) rfl rfl hh
  have sec : ∀ (n : Nat) (hq : pm_H) (b : Bool) (at_ rm : Nat) (x3 : Int32), at_ ≤ min n0 41 → cc + rm ≤ 6 → pR hq tp (min n0 41) cc at_ rm → pm_run PT n fr lo 188 (60, [some (.ref 162), some (.int (nI n0)), some (.int (cond b 1 0)), some (.int x3), none, none, none], [], hq, 198, sl) = some R → R.1 = some (.int (cond (pm_cmp .ge (fO n0 41 (min n0 41) at_ b) 0) (nI rm) (fO n0 41 (min n0 41) at_ b))) ∧ mF R.2.1 3 (.int (nI (cc + cond (pm_cmp .ge (fO n0 41 (min n0 41) at_ b) 0) rm 0))) := by
    intro n hq b at_ rm x3 hat hrm p hh
    obtain ⟨n, hh⟩ := rn_i rfl rfl rfl rfl hh
    obtain ⟨n, hh⟩ := rn_i rfl rfl rfl rfl hh
    obtain ⟨n, hh⟩ := rn_i rfl rfl rfl rfl hh
    obtain ⟨n, hh⟩ := rn_i rfl rfl rfl rfl hh
    obtain ⟨n, fr', lo', r1, hr1, hh⟩ := rn_call (w := 0) (t := 186) rfl rfl hh
    have er := fo_run (m := 41) hn (by decide) (by omega) (by omega) p.1.1 p.1.2.1 hr1
    subst er
    generalize hF : fO n0 41 (min n0 41) at_ b = F at *
    have hh : pm_run PT n fr lo 188 (68, [some (.ref 162), some (.int (nI n0)), some (.int (cond b 1 0)), some (.int x3), none, none, none], [.int F], hq, 198, sl) = some R := hh
    obtain ⟨n, hh⟩ := rn_i rfl rfl rfl rfl hh
    obtain ⟨n, hh⟩ := rn_i rfl rfl rfl rfl hh
    obtain ⟨n, hh⟩ := rn_if (cc := .ge) (off := 6) (t := 78) rfl rfl hh
    cases hge : pm_cmp .ge F 0 with
    | false =>
      rw [hge] at hh
      obtain ⟨n, hh⟩ := rn_i rfl rfl rfl rfl hh
      obtain ⟨-, rfl⟩ := rn_ret rfl (Or.inl rfl) hh
      exact ⟨rfl, p.2.2.1⟩
    | true =>
      rw [hge] at hh
      obtain ⟨n, hh⟩ := rn_i rfl rfl rfl rfl hh
      obtain ⟨n, hh⟩ := rn_i rfl rfl rfl rfl hh
      exact cm_add (r := rm) (by omega) hc rm 0 n _ [] hq (by omega) rfl rfl p.2.1 p.2.2.1 hh
  by_cases z : n0 = 0
  · subst z
    have hh : pm_run PT n fr lo 188 (27, [some (.ref 162), some (.int (nI 0)), some (.int 1), none, none, none, none], [], mset hb 20 (.int (nI 0)), 198, sl) = some R := hh
    obtain ⟨n, hh⟩ := rn_i rfl rfl rfl rfl hh
    obtain ⟨n, hh⟩ := rn_i rfl rfl rfl rfl hh
    have hh : pm_run PT n fr lo 188 (29, [some (.ref 162), some (.int (nI 0)), some (.int 1), some (.int 0), none, none, none], [], mset hb 20 (.int (nI 0)), 198, sl) = some R := hh
    obtain ⟨n, hh⟩ := rn_i rfl rfl rfl rfl hh
    obtain ⟨n, hh⟩ := rn_if (cc := .eq) (off := 30) (t := 60) rfl rfl hh
    exact sec n _ true 0 0 0 (Nat.zero_le _) (by omega) pp hh
  · have ec : pm_cmp .le (nI n0) 0 = false := by
      have := hI_le (a := n0) (b := 0) (by omega) (by omega)
      rw [decide_eq_false (by omega)] at this
      exact this
    rw [ec] at hh
    have hh : pm_run PT n fr lo 188 (23, [some (.ref 162), some (.int (nI n0)), some (.int 1), none, none, none, none], [], mset hb 20 (.int (nI 0)), 198, sl) = some R := hh
    obtain ⟨n, hh⟩ := rn_i rfl rfl rfl rfl hh
    obtain ⟨n, hh⟩ := rn_i rfl rfl rfl rfl hh
    obtain ⟨n, hh⟩ := rn_i rfl rfl rfl rfl hh
    obtain ⟨m, h', hm, p'⟩ := cm_loop (t := min n0 41) (by omega) (7 - cc) 0 0 n _ (by omega) (by omega) (Nat.zero_le _) pp hh
    have hb0 : Nat.beq n0 0 = false := nb_ne z
    have es : cmS tp n0 cc = spL tp (min n0 41) cc (7 - cc) 0 0 := by
      unfold cmS
      rw [hb0]
      rfl
    obtain ⟨b1, b2, b3⟩ := spL_bd (tp := tp) (cc := cc) (7 - cc) 0 0 (Nat.zero_le (min n0 41))
    unfold cmA cmN cmF
    rw [es]
    exact sec m h' _ _ _ 0 b1 (b3 (by omega)) p' hm
end CMW
