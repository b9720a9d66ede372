/-! the reference's gifts, whole -/
section GMN
variable {n fr lo sl k pc sz j cc gc r n0 : Nat} {h : pm_H} {L : pm_L} {S : List Value} {R : pm_Rs} {tp : Nat → Int32}
def gmP (ci f : Nat) : Bool := Nat.beq ci 11 && (Nat.beq f 4 || Nat.beq f 20)
theorem gm_ok : sf_ok gmP cmK := sf_of cmK_in (by decide +kernel)
theorem gm_blk : blk_ok gmP cmK cmJ 192 90 214 := blk_of (by decide +kernel)
theorem gm_add (hr : r ≤ 8) (hc : gc ≤ 8) : ∀ (d k n : Nat) (L : pm_L) (S : List Value) (h : pm_H), k + d = r → pm_get L 0 = some (.ref 162) → pm_get L 5 = some (.int (nI k)) → mF h 20 (.int (nI r)) → mF h 4 (.int (nI (gc + k))) → pm_run PT n fr lo 192 (81, L, S, h, 198, sl) = some R → R.1 = some (.int (nI r)) ∧ mF R.2.1 4 (.int (nI (gc + r))) := by
  intro d
  induction d with
  | zero =>
    intro k n L S h hk h0 h5 q20 q3 hh
    have hk : k = r := by omega
    subst hk
    obtain ⟨n, hh⟩ := rn_il rfl h5 rfl hh
    obtain ⟨n, hh⟩ := rn_aln rfl h0 rfl hh
    obtain ⟨n, hh⟩ := rn_gfm rfl rfl q20 hh
    obtain ⟨n, hh⟩ := rn_icmp (cc := .ge) (off := 143) (t := 230) rfl rfl hh
    rw [hI_ge (by omega) (by omega), decide_eq_true (Nat.le_refl _)] at hh
    have hh : pm_run PT n fr lo 192 (230, L, S, h, 198, sl) = some R := hh
    obtain ⟨n, hh⟩ := rn_aln rfl h0 rfl hh
    obtain ⟨n, fr', lo', r1, hr1, hh⟩ := rn_call (w := 0) (t := 190) rfl rfl hh
    have hf := sf_run gm_ok _ _ _ 190 _ r1 rfl hr1
    have hz := sz_run gm_ok _ _ _ 190 _ r1 rfl hr1
    have hv := vd_run rfl hr1
    obtain ⟨rv, h1, s1⟩ := r1
    dsimp only at hf hz hv
    subst hz
    subst hv
    have hh : pm_run PT n fr lo 192 (234, L, S, h1, 198, sl) = some R := hh
    obtain ⟨n, hh⟩ := rn_aln rfl h0 rfl hh
    obtain ⟨n, hh⟩ := rn_gfm rfl rfl (fm_mF hf rfl q20) hh
    obtain ⟨-, rfl⟩ := rn_ret rfl (Or.inl rfl) hh
    exact ⟨rfl, fm_mF hf rfl q3⟩
  | succ d ih =>
    intro k n L S h hk h0 h5 q20 q3 hh
    obtain ⟨n, hh⟩ := rn_il rfl h5 rfl hh
    obtain ⟨n, hh⟩ := rn_aln rfl h0 rfl hh
    obtain ⟨n, hh⟩ := rn_gfm rfl rfl q20 hh
    obtain ⟨n, hh⟩ := rn_icmp (cc := .ge) (off := 143) (t := 230) rfl rfl hh
    rw [hI_ge (by omega) (by omega), decide_eq_false (by omega)] at hh
    have hh : pm_run PT n fr lo 192 (90, L, S, h, 198, sl) = some R := hh
    obtain ⟨n, L', S', h', hh, hl, hf⟩ := blk_run gm_ok gm_blk n fr lo _ R (Nat.le_of_ble_eq_true rfl) (Nat.le_of_ble_eq_true rfl) hh
    dsimp only at hl hf hh
    have g0 := hl 0 _ rfl h0 rfl
    have g5 := hl 5 _ rfl h5 rfl
    have q3' := fm_mF hf rfl q3
    have q20' := fm_mF hf rfl q20
    have hh : pm_run PT n fr lo 192 (214, L', S', h', 198, sl) = some R := hh
    obtain ⟨n, hh⟩ := rn_aln rfl g0 rfl hh
    obtain ⟨n, hh⟩ := rn_i rfl rfl rfl rfl hh
    obtain ⟨n, hh⟩ := rn_gfm rfl rfl q3' hh
    obtain ⟨n, hh⟩ := rn_i rfl rfl rfl rfl hh
    obtain ⟨n, hh⟩ := rn_i rfl rfl rfl rfl hh
    obtain ⟨n, hh⟩ := rn_pfm (w := .int (nI (gc + k))) rfl rfl rfl (by decide) q3' hh
    obtain ⟨n, hh⟩ := rn_i rfl rfl rfl (iinc_eq g5 (Nat.le_of_ble_eq_true rfl)) hh
    obtain ⟨n, hh⟩ := rn_i rfl rfl rfl rfl hh
    have e1 : nI (gc + k) + Int32.ofInt 1 = nI (gc + (k + 1)) := (Int32.ofNat_add (gc + k) 1).symm
    have e2 : nI k + Int32.ofInt 1 = nI (k + 1) := (Int32.ofNat_add k 1).symm
    have hh : pm_run PT n fr lo 192 (81, pm_st1 L' 5 (.int (nI k + Int32.ofInt 1)), S', mset h' 4 (.int (nI (gc + k) + Int32.ofInt 1)), 198, sl) = some R := hh
    rw [e1, e2] at hh
    exact ih (k + 1) n _ S' _ (by omega) (lkp_st1 (J := fun j => Nat.beq j 0) rfl 0 _ rfl g0 rfl) (get_st1 g5) (mF_ne (by decide) q20') (mF_self q3') hh
def gmS (tp : Nat → Int32) (n0 cc gc : Nat) : Bool × Nat × Nat := cond (Nat.beq n0 0) (true, 0, 0) (sgL tp (min n0 55) cc gc (9 - gc) 0 0)
def gmF (tp : Nat → Int32) (n0 cc gc : Nat) : Int32 := fO n0 55 (min n0 55) (gmS tp n0 cc gc).2.1 (gmS tp n0 cc gc).1
def gmA (tp : Nat → Int32) (n0 cc gc : Nat) : Int32 := cond (pm_cmp .ge (gmF tp n0 cc gc) 0) (nI (gmS tp n0 cc gc).2.2) (gmF tp n0 cc gc)
def gmN (tp : Nat → Int32) (n0 cc gc : Nat) : Nat := cond (pm_cmp .ge (gmF tp n0 cc gc) 0) (gmS tp n0 cc gc).2.2 0
theorem sgL_bd {t : Nat} : ∀ (k rm a : Nat), a ≤ t → (sgL tp t cc gc k rm a).2.1 ≤ t ∧ (gc + rm ≤ 8 → gc + (sgL tp t cc gc k rm a).2.2 ≤ 8)
  | 0, rm, a, ha => ⟨ha, fun q => q⟩
  | k + 1, rm, a, ha => by
    unfold sgL
    cases z : decide (gc + rm = 8) with
    | true => exact ⟨ha, fun q => q⟩
    | false =>
      have zz := of_decide_eq_false z
      have hle := rgL_le (tp := tp) (cc := cc) ha
      dsimp only [cond]
      cases (rgL tp t cc a).1 with
      | false => exact ⟨hle, fun q => q⟩
      | true =>
        dsimp only
        cases x : decide ((rgL tp t cc a).2 < t ∧ tp (rgL tp t cc a).2 = 59) with
        | false => exact ⟨hle, fun q => by show gc + (rm + 1) ≤ 8; omega⟩
        | true =>
          have xx := of_decide_eq_true x
          obtain ⟨a1, a3⟩ := sgL_bd (t := t) k (rm + 1) ((rgL tp t cc a).2 + 1) (by omega)
          exact ⟨a1, fun q => a3 (by omega)⟩
/-- a fault is below 0 unless the LINES stand -/
theorem fO_ge {m t at_ : Nat} {is : Bool} (hm : m ≤ 80) (ha : at_ ≤ 80) (q : pm_cmp .ge (fO n0 m t at_ is) 0 = true) : is = true := by
  cases is with
  | true => rfl
  | false =>
    exfalso
    unfold fO fO2 at q
    rw [Bool.false_and] at q
    split at q
    · rw [neg_ge hm] at q
      cases q
    · rw [cond_false, neg_ge ha] at q
      cases q
theorem gm_run {w x16 x17 x18 x20 : Int32} {f : Nat → Int32} (hn : n0 ≤ 80) (hc : gc ≤ 8) (h0 : mF h 0 (.int w)) (h15 : mF h 15 (.int (nI n0))) (h16 : mF h 16 (.int x16)) (h17 : mF h 17 (.int x17)) (h18 : mF h 18 (.int x18)) (h20 : mF h 20 (.int x20)) (h3 : mF h 3 (.int (nI cc))) (h4 : mF h 4 (.int (nI gc))) (h14 : mF h 14 (.ref 172)) (hA : h 172 = .inl (0, 80, .inl tp)) (h19 : mF h 19 (.ref 173)) (hB : h 173 = .inl (0, 36, .inl f)) (hh : pm_run PT n fr lo 192 (0, pm_l0 [.ref 162] 6, [], h, 198, sl) = some R) : R.1 = some (.int (gmA tp n0 cc gc)) ∧ mF R.2.1 4 (.int (nI (gc + gmN tp n0 cc gc))) := by
  obtain ⟨n, hh⟩ := rn_i rfl rfl rfl rfl hh
  obtain ⟨n, hh⟩ := rn_i rfl rfl rfl rfl hh
  obtain ⟨n, hh⟩ := rn_pfm (w := .int w) rfl rfl rfl (by decide) h0 hh
  obtain ⟨n, hh⟩ := rn_i rfl rfl rfl rfl hh
  obtain ⟨n, hh⟩ := rn_i rfl rfl rfl rfl hh
  obtain ⟨n, fr', lo', r1, hr1, hh⟩ := rn_call (w := 0) (t := 180) rfl rfl hh
  have g15 : mF (mset h 0 (.int (Int32.ofInt 0))) 15 (.int (nI n0)) := mF_ne (by decide) h15
  have er := rn_dt (F := 10) (Lo := 1000) (hd_begins (fr := 10) (lo := 1000) (sl := sl) (m := 55) g15 (mF_ne (by decide) h16) (mF_ne (by decide) h17) (mF_ne (by decide) h18) hn (by decide) (by decide) (by decide)) hr1
  subst er
  have mm : ∀ (g : Nat) (v : Value), g ≠ 0 → g ≠ 15 → g ≠ 16 → g ≠ 18 → g ≠ 17 → mF h g v → mF (hbeg (mset h 0 (.int (Int32.ofInt 0))) n0 55) g v := fun g v a0 a1 a2 a3 a4 q => mF_ne (Ne.symm a4) (mF_ne (Ne.symm a3) (mF_ne (Ne.symm a2) (mF_ne (Ne.symm a1) (mF_ne (Ne.symm a0) q))))
  have p20 : mF (hbeg (mset h 0 (.int (Int32.ofInt 0))) n0 55) 20 (.int x20) := mm 20 _ (by decide) (by decide) (by decide) (by decide) (by decide) h20
  have pp : pG (mset (hbeg (mset h 0 (.int (Int32.ofInt 0))) n0 55) 20 (.int (nI 0))) tp (min n0 55) cc gc 0 0 := by
    refine ⟨⟨⟨mF_ne (by decide) ?_, mF_ne (by decide) ?_, mF_ne (by decide) (mm 14 _ (by decide) (by decide) (by decide) (by decide) (by decide) h14), ?_⟩, mF_self p20, mF_ne (by decide) (mm 3 _ (by decide) (by decide) (by decide) (by decide) (by decide) h3), mF_ne (by decide) (mm 19 _ (by decide) (by decide) (by decide) (by decide) (by decide) h19), f, ?_⟩, mF_ne (by decide) (mm 4 _ (by decide) (by decide) (by decide) (by decide) (by decide) h4)⟩
    · exact mF_ne (by decide) (mF_ne (by decide) (mF_self (w := .int x16) (mF_ne (by decide) (mF_ne (by decide) h16))))
    · exact mF_self (w := .int x17) (mF_ne (by decide) (mF_ne (by decide) (mF_ne (by decide) (mF_ne (by decide) h17))))
    · exact mset_arr (by decide) (mset_arr (by decide) (mset_arr (by decide) (mset_arr (by decide) (mset_arr (by decide) (mset_arr (by decide) hA)))))
    · exact mset_arr (by decide) (mset_arr (by decide) (mset_arr (by decide) (mset_arr (by decide) (mset_arr (by decide) (mset_arr (by decide) hB)))))
  have hh : pm_run PT n fr lo 192 (11, [some (.ref 162), none, none, none, none, none], [.int (nI n0)], hbeg (mset h 0 (.int (Int32.ofInt 0))) n0 55, 198, sl) = some R := hh
  generalize hbeg (mset h 0 (.int (Int32.ofInt 0))) n0 55 = hb at *
  obtain ⟨n, hh⟩ := rn_i rfl rfl rfl rfl hh
  obtain ⟨n, hh⟩ := rn_i rfl rfl rfl rfl hh
  obtain ⟨n, hh⟩ := rn_i rfl rfl rfl rfl hh
  obtain ⟨n, hh⟩ := rn_pfm (w := .int x20) rfl rfl rfl (by decide) p20 hh
  obtain ⟨n, hh⟩ := rn_i rfl rfl rfl rfl hh
  obtain ⟨n, hh⟩ := rn_i rfl rfl rfl rfl hh
  obtain ⟨n, hh⟩ := rn_i rfl rfl rfl rfl hh
  obtain ⟨n, hh⟩ := rn_if (cc := .le) (off := 7) (t := 27) rfl rfl hh
  have sec : ∀ (n : Nat) (hq : pm_H) (b : Bool) (at_ rm rm' : Nat) (x3 : Int32), at_ ≤ min n0 55 → gc + rm ≤ 8 → pG hq tp (min n0 55) cc gc at_ rm' → (b = true → rm' = rm) → pm_run PT n fr lo 192 (60, [some (.ref 162), some (.int (nI n0)), some (.int (cond b 1 0)), some (.int x3), none, none], [], hq, 198, sl) = some R → R.1 = some (.int (cond (pm_cmp .ge (fO n0 55 (min n0 55) at_ b) 0) (nI rm) (fO n0 55 (min n0 55) at_ b))) ∧ mF R.2.1 4 (.int (nI (gc + cond (pm_cmp .ge (fO n0 55 (min n0 55) at_ b) 0) rm 0))) := by
    intro n hq b at_ rm rm' x3 hat hrm p hbr hh
    obtain ⟨n, hh⟩ := rn_i rfl rfl rfl rfl hh
    obtain ⟨n, hh⟩ := rn_i rfl rfl rfl rfl hh
    obtain ⟨n, hh⟩ := rn_i rfl rfl rfl rfl hh
    obtain ⟨n, hh⟩ := rn_i rfl rfl rfl rfl hh
    obtain ⟨n, fr', lo', r1, hr1, hh⟩ := rn_call (w := 0) (t := 186) rfl rfl hh
    have er := fo_run (m := 55) hn (by decide) (by omega) (by omega) p.1.1.1 p.1.1.2.1 hr1
    subst er
    have hfg := fO_ge (n0 := n0) (m := 55) (t := min n0 55) (at_ := at_) (is := b) (by decide) (by omega)
    generalize hF : fO n0 55 (min n0 55) at_ b = F at *
    have hh : pm_run PT n fr lo 192 (68, [some (.ref 162), some (.int (nI n0)), some (.int (cond b 1 0)), some (.int x3), none, none], [.int F], hq, 198, sl) = some R := hh
    obtain ⟨n, hh⟩ := rn_i rfl rfl rfl rfl hh
    obtain ⟨n, hh⟩ := rn_i rfl rfl rfl rfl hh
    obtain ⟨n, hh⟩ := rn_if (cc := .ge) (off := 6) (t := 78) rfl rfl hh
    cases hge : pm_cmp .ge F 0 with
    | false =>
      rw [hge] at hh
      obtain ⟨n, hh⟩ := rn_i rfl rfl rfl rfl hh
      obtain ⟨-, rfl⟩ := rn_ret rfl (Or.inl rfl) hh
      exact ⟨rfl, p.2⟩
    | true =>
      rw [hge] at hh
      have er := hbr (hfg hge)
      subst er
      obtain ⟨n, hh⟩ := rn_i rfl rfl rfl rfl hh
      obtain ⟨n, hh⟩ := rn_i rfl rfl rfl rfl hh
      exact gm_add (r := rm') (by omega) hc rm' 0 n _ [] hq (by omega) rfl rfl p.1.2.1 p.2 hh
  by_cases z : n0 = 0
  · have es : gmS tp n0 cc gc = (true, 0, 0) := by
      unfold gmS
      rw [z]
      rfl
    unfold gmA gmN gmF
    rw [es]
    rw [show pm_cmp .le (nI n0) 0 = true by rw [z]; decide] at hh
    have hh : pm_run PT n fr lo 192 (27, [some (.ref 162), some (.int (nI n0)), some (.int 1), none, none, none], [], mset hb 20 (.int (nI 0)), 198, sl) = some R := hh
    obtain ⟨n, hh⟩ := rn_i rfl rfl rfl rfl hh
    obtain ⟨n, hh⟩ := rn_i rfl rfl rfl rfl hh
    have hh : pm_run PT n fr lo 192 (29, [some (.ref 162), some (.int (nI n0)), some (.int 1), some (.int 0), none, none], [], mset hb 20 (.int (nI 0)), 198, sl) = some R := hh
    obtain ⟨n, hh⟩ := rn_i rfl rfl rfl rfl hh
    obtain ⟨n, hh⟩ := rn_if (cc := .eq) (off := 30) (t := 60) rfl rfl hh
    exact sec n _ true 0 0 0 0 (Nat.zero_le _) (by omega) pp (fun _ => rfl) hh
  · have ec : pm_cmp .le (nI n0) 0 = false := by
      have := hI_le (a := n0) (b := 0) (by omega) (by omega)
      rw [decide_eq_false (by omega)] at this
      exact this
    rw [ec] at hh
    have hh : pm_run PT n fr lo 192 (23, [some (.ref 162), some (.int (nI n0)), some (.int 1), none, none, none], [], mset hb 20 (.int (nI 0)), 198, sl) = some R := hh
    obtain ⟨n, hh⟩ := rn_i rfl rfl rfl rfl hh
    obtain ⟨n, hh⟩ := rn_i rfl rfl rfl rfl hh
    obtain ⟨n, hh⟩ := rn_i rfl rfl rfl rfl hh
    obtain ⟨m, h', rm', hm, p', hrm'⟩ := gm_loop (t := min n0 55) (by omega) (9 - gc) 0 0 n _ (by omega) (by omega) (Nat.zero_le _) pp hh
    have hb0 : Nat.beq n0 0 = false := nb_ne z
    have es : gmS tp n0 cc gc = sgL tp (min n0 55) cc gc (9 - gc) 0 0 := by
      unfold gmS
      rw [hb0]
      rfl
    obtain ⟨b1, b3⟩ := sgL_bd (tp := tp) (cc := cc) (gc := gc) (9 - gc) 0 0 (Nat.zero_le (min n0 55))
    unfold gmA gmN gmF
    rw [es]
    exact sec m h' _ _ _ rm' 0 b1 (b3 (by omega)) p' hrm' hm
end GMN
