/-! the class's gifts, and both alike -/
section GXT
variable {n fr lo sl n0 cc gc p t N : Nat} {h h' : pm_H} {R : pm_Rs} {f : Nat → Int32}
def sG (ci f : Nat) : Bool := (Nat.beq ci 3 && Nat.beq f 1) || (Nat.beq ci 11 && Nat.beq f 4)
def sGX : List Nat := [0, 6, 15, 22, 45, 52, 57, 72, 78, 82, 85, 89, 91, 92, 93, 128, 161, 192]
def sGK : Nat → Bool := sf_X sGX
theorem sG_all : ((List.range 271).filter (fun k => !(sGX.any (fun x => Nat.beq x k)))).all (sf_b sG sGK) = true := by decide +kernel
theorem sG_ok : sf_ok sG sGK := sf_of sf_X_in sG_all
def rG (h : pm_H) (v : Value) : Prop := ∃ rs, h 5 = .inr (3, rs) ∧ rs[1]? = some v
theorem rG_fm {v : Value} (q : fm (sfF sG) h h') (x : rG h v) : rG h' v := by
  obtain ⟨rs, b1, b2⟩ := x
  obtain ⟨rs', g1, -, g2⟩ := q.2 5 3 rs b1
  exact ⟨rs', g1, (g2 1 rfl).trans b2⟩
theorem xgs_m1 {x2 x3 : Option Value} (hh : pm_run PT n fr lo 130 (85, [some (.ref 0), some (.int (nI p)), x2, x3], [], h, 198, sl) = some R) : R.1 = some (.int (Int32.ofInt (-1) - nI p)) := by
  obtain ⟨n, hh⟩ := rn_i rfl rfl rfl rfl hh
  obtain ⟨n, hh⟩ := rn_i rfl rfl rfl rfl hh
  obtain ⟨n, hh⟩ := rn_i rfl rfl rfl rfl hh
  have e := (rn_ret rfl (Or.inl rfl) hh).2
  rw [e]
theorem xgs_loop (hn : n0 ≤ 80) (hc : cc ≤ 6) : ∀ (k ln p n : Nat) (h : pm_H) (x3 : Option Value), gc + ln + k = 9 → 0 < k → p ≤ min n0 55 → pX h n0 cc f → rG h (.int (nI gc)) → pm_run PT n fr lo 130 (16, [some (.ref 0), some (.int (nI p)), some (.int (nI ln)), x3], [], h, 198, sl) = some R → R.1 = some (.int (xA n0 (sgL f (min n0 55) cc gc k ln p))) := by
  intro k
  induction k with
  | zero => intro ln p n h x3 hk h0; exact absurd h0 (by omega)
  | succ k ih =>
    intro ln p n h x3 hk h0 hp x xg hh
    obtain ⟨⟨fs, a1, a2, a3⟩, ⟨gs, g1, g2, g3⟩, c1, -⟩ := id x
    obtain ⟨rs, d1, d2⟩ := id xg
    unfold sgL
    obtain ⟨n, hh⟩ := rn_i rfl rfl rfl rfl hh
    obtain ⟨n, hh⟩ := rn_i rfl rfl rfl rfl hh
    obtain ⟨n, hh⟩ := rn_icmp (cc := .ge) (off := 79) (t := 98) rfl rfl hh
    have ec : pm_cmp .ge (nI ln) (Int8.ofInt 8).toInt32 = decide (8 ≤ ln) := hI_ge (a := ln) (b := 8) (by omega) (by omega)
    rw [ec] at hh
    by_cases z6 : 8 ≤ ln
    · rw [decide_eq_true z6] at hh
      rw [decide_eq_true (show gc + ln = 8 by omega)]
      obtain ⟨n, hh⟩ := rn_i rfl rfl rfl rfl hh
      obtain ⟨n, hh⟩ := rn_i rfl rfl rfl rfl hh
      obtain ⟨n, hh⟩ := rn_i rfl rfl rfl rfl hh
      have e := (rn_ret rfl (Or.inl rfl) hh).2
      rw [e]
      unfold xA
      simp only [Bool.false_and, cond_false, cond_true]
    · rw [decide_eq_false z6] at hh
      obtain ⟨n, hh⟩ := rn_i rfl rfl rfl rfl hh
      obtain ⟨n, hh⟩ := rn_gfo (g := 2) rfl rfl (by decide) a1 a3 hh
      obtain ⟨n, hh⟩ := rn_gfo (g := 1) rfl rfl (by decide) d1 d2 hh
      obtain ⟨n, hh⟩ := rn_i rfl rfl rfl rfl hh
      obtain ⟨n, hh⟩ := rn_i rfl rfl rfl rfl hh
      obtain ⟨n, hh⟩ := rn_i rfl rfl rfl rfl hh
      obtain ⟨n, hh⟩ := rn_i rfl rfl rfl rfl hh
      obtain ⟨n, hh⟩ := rn_i rfl rfl rfl rfl hh
      obtain ⟨n, hh⟩ := rn_icmp (cc := .lt) (off := 7) (t := 42) rfl rfl hh
      have ea : nI gc + nI ln = nI (gc + ln) := nI_add gc ln
      have hh : pm_run PT n fr lo 130 (cond (pm_cmp .lt (nI gc + nI ln) (nI 8)) 42 38, [some (.ref 0), some (.int (nI p)), some (.int (nI ln)), some (.int (nI gc + nI ln))], [], h, 198, sl) = some R := hh
      rw [ea, hI_lt (by omega) (by omega)] at hh
      by_cases z : gc + ln = 8
      · rw [decide_eq_false (by omega)] at hh
        rw [decide_eq_true z]
        obtain ⟨n, hh⟩ := rn_i rfl rfl rfl rfl hh
        obtain ⟨n, hh⟩ := rn_i rfl rfl rfl rfl hh
        obtain ⟨n, hh⟩ := rn_i rfl rfl rfl rfl hh
        have e := (rn_ret rfl (Or.inl rfl) hh).2
        rw [e]
        unfold xA
        simp only [Bool.false_and, cond_false, cond_true]
      · rw [decide_eq_true (by omega)] at hh
        rw [decide_eq_false z]
        have hh : pm_run PT n fr lo 130 (42, [some (.ref 0), some (.int (nI p)), some (.int (nI ln)), some (.int (nI (gc + ln)))], [], h, 198, sl) = some R := hh
        obtain ⟨n, hh⟩ := rn_i rfl rfl rfl rfl hh
        obtain ⟨n, hh⟩ := rn_i rfl rfl rfl rfl hh
        obtain ⟨n, hh⟩ := rn_i rfl rfl rfl rfl hh
        obtain ⟨n, fr', lo', r1, hr1, hh⟩ := rn_call (w := 0) (t := 131) rfl rfl hh
        have hv := xg_run hn hc (by omega) x hr1
        have hf := sf_run sQ_ok _ _ _ 131 _ r1 rfl hr1
        have hfk := ak_run (by decide) sQ_ak _ _ _ 131 _ r1 rfl hr1
        have hfg := sf_run sG_ok _ _ _ 131 _ r1 rfl hr1
        have hz := sz_run sQ_ok _ _ _ 131 _ r1 rfl hr1
        obtain ⟨rv, h1, s1⟩ := r1
        dsimp only at hv hf hfk hfg hz
        subst hz
        subst hv
        have x' := pX_fm hf hfk x
        have xg' := rG_fm hfg xg
        have hle := rgL_le (tp := f) (cc := cc) hp
        simp only [cond_false]
        have hh : pm_run PT n fr lo 130 (48, [some (.ref 0), some (.int (nI p)), some (.int (nI ln)), some (.int (nI (gc + ln)))], [.int (xgA (rgL f (min n0 55) cc p))], h1, 198, sl) = some R := hh
        generalize rgL f (min n0 55) cc p = w at *
        have y1 := neg_ge (a := w.2) (by omega)
        unfold xgA at hh
        cases y : w.1 with
        | false =>
          rw [y, cond_false] at hh
          simp only [cond_false]
          unfold xA
          simp only [Bool.false_and, cond_false]
          generalize Int32.ofInt (-1) - nI w.2 = q at *
          obtain ⟨n, hh⟩ := rn_i rfl rfl rfl rfl hh
          obtain ⟨n, hh⟩ := rn_i rfl rfl rfl rfl hh
          obtain ⟨n, hh⟩ := rn_if (cc := .ge) (off := 5) (t := 55) rfl rfl hh
          rw [y1] at hh
          obtain ⟨n, hh⟩ := rn_i rfl rfl rfl rfl hh
          have e := (rn_ret rfl (Or.inl rfl) hh).2
          rw [e]
        | true =>
          rw [y, cond_true] at hh
          simp only [cond_true]
          generalize w.2 = b at *
          obtain ⟨⟨fs, a1, a2, a3⟩, ⟨gs, g1, g2, g3⟩, -⟩ := id x'
          obtain ⟨n, hh⟩ := rn_i rfl rfl rfl rfl hh
          obtain ⟨n, hh⟩ := rn_i rfl rfl rfl rfl hh
          obtain ⟨n, hh⟩ := rn_if (cc := .ge) (off := 5) (t := 55) rfl rfl hh
          have eg : pm_cmp .ge (nI b) 0 = true := by
            have := hI_ge (a := b) (b := 0) (by omega) (by omega)
            rw [decide_eq_true (Nat.zero_le b)] at this
            exact this
          rw [eg] at hh
          obtain ⟨n, hh⟩ := rn_i rfl rfl rfl rfl hh
          obtain ⟨n, hh⟩ := rn_i rfl rfl rfl rfl hh
          obtain ⟨n, hh⟩ := rn_gfo (g := 0) rfl rfl (by decide) a1 a2 hh
          obtain ⟨n, hh⟩ := rn_gfo (g := 1) rfl rfl (by decide) g1 g3 hh
          obtain ⟨n, hh⟩ := rn_icmp (cc := .ne) (off := 7) (t := 70) rfl rfl hh
          rw [hI_ne (by omega) (by omega)] at hh
          by_cases u : b = n0
          · rw [decide_eq_false (fun q => q u)] at hh
            rw [decide_eq_false (by omega)]
            obtain ⟨n, hh⟩ := rn_i rfl rfl rfl rfl hh
            obtain ⟨n, hh⟩ := rn_i rfl rfl rfl rfl hh
            obtain ⟨n, hh⟩ := rn_i rfl rfl rfl rfl hh
            have e1 : nI ln + Int32.ofInt 1 = nI (ln + 1) := (Int32.ofNat_add ln 1).symm
            have e := (rn_ret rfl (Or.inl rfl) hh).2
            rw [e]
            unfold xA
            simp only [cond_false]
            rw [decide_eq_true u]
            simp only [Bool.and_self, cond_true]
            exact congrArg (fun q => some (Value.int q)) e1
          · rw [decide_eq_true u] at hh
            have hh : pm_run PT n fr lo 130 (70, [some (.ref 0), some (.int (nI b)), some (.int (nI ln)), some (.int (nI (gc + ln)))], [], h1, 198, sl) = some R := hh
            obtain ⟨n, hh⟩ := rn_i rfl rfl rfl rfl hh
            obtain ⟨n, hh⟩ := rn_gfo (g := 0) rfl rfl (by decide) a1 a2 hh
            obtain ⟨n, hh⟩ := rn_i rfl rfl rfl rfl hh
            obtain ⟨n, hh⟩ := rn_i rfl rfl rfl rfl hh
            obtain ⟨n, fr', lo', r1, hr1, hh⟩ := rn_call (w := 0) (t := 80) rfl rfl hh
            have er := sgA_run (l := 55) hn (by decide) (by omega) x' hr1
            subst er
            have hh : pm_run PT n fr lo 130 (80, [some (.ref 0), some (.int (nI b)), some (.int (nI ln)), some (.int (nI (gc + ln)))], [.int (sgA f n0 b 55)], h1, 198, sl) = some R := hh
            obtain ⟨n, hh⟩ := rn_i rfl rfl rfl rfl hh
            obtain ⟨n, hh⟩ := rn_icmp (cc := .eq) (off := 7) (t := 89) rfl rfl hh
            have hh : pm_run PT n fr lo 130 (cond (pm_cmp .eq (sgA f n0 b 55) 59) 89 85, [some (.ref 0), some (.int (nI b)), some (.int (nI ln)), some (.int (nI (gc + ln)))], [], h1, 198, sl) = some R := hh
            have es : pm_cmp .eq (sgA f n0 b 55) 59 = decide (b < min n0 55 ∧ f b = 59) := by
              unfold sgA
              by_cases q : b < min n0 55
              · rw [decide_eq_true q]
                show decide (f b = 59) = _
                rw [Bool.eq_iff_iff, decide_eq_true_iff, decide_eq_true_iff]
                exact ⟨fun e => ⟨q, e⟩, fun e => e.2⟩
              · rw [decide_eq_false q, decide_eq_false (fun e => q e.1)]
                show pm_cmp .eq (Int32.ofInt (-1)) 59 = false
                decide
            rw [es] at hh
            cases v : decide (b < min n0 55 ∧ f b = 59) with
            | false =>
              rw [v] at hh
              rw [xgs_m1 hh]
              simp only [cond_false]
              unfold xA
              dsimp only
              rw [decide_eq_false u]
              simp only [Bool.and_false, cond_false]
            | true =>
              rw [v] at hh
              simp only [cond_true]
              have vv := of_decide_eq_true v
              obtain ⟨n, hh⟩ := rn_i rfl rfl rfl rfl hh
              obtain ⟨n, hh⟩ := rn_i rfl rfl rfl rfl hh
              obtain ⟨n, hh⟩ := rn_i rfl rfl rfl rfl hh
              have e1 : nI b + Int32.ofInt 1 = nI (b + 1) := (Int32.ofNat_add b 1).symm
              have e2 : nI ln + Int32.ofInt 1 = nI (ln + 1) := (Int32.ofNat_add ln 1).symm
              have hh : pm_run PT n fr lo 130 (16, [some (.ref 0), some (.int (nI b + Int32.ofInt 1)), some (.int (nI ln + Int32.ofInt 1)), some (.int (nI (gc + ln)))], [], h1, 198, sl) = some R := hh
              rw [e1, e2] at hh
              exact ih (ln + 1) (b + 1) n h1 _ (by omega) (by omega) (by omega) x' xg' hh
end GXT
