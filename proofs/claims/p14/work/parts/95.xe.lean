section MG95xex0
/-! the class's courts -/
section CXC
variable {n fr lo sl n0 cc k pc p l ln t : Nat} {h h' : pm_H} {R : pm_Rs} {f : Nat → Int32}
theorem dgi_of : dgi f p t 1 9 = (dg f p t && !(decide (f p - 48 = 0))) := by
  cases hd : dg f p t with
  | true =>
    obtain ⟨v1, v2⟩ := dg_val hd
    have hlt := dg_lt hd
    unfold dgi in_b
    rw [decide_eq_true hlt]
    have n1 : ((1 : Int32).toInt64).toInt = 1 := by decide
    have n9 : ((9 : Int32).toInt64).toInt = 9 := by decide
    have a2 : ¬ (9 : Int32).toInt64 < (f p - 48).toInt64 := by
      rw [Int64.lt_iff_toInt_lt, n9, Int32.toInt_toInt64]
      omega
    by_cases z : f p - 48 = 0
    · rw [z]
      decide
    · have a1 : ¬ (f p - 48).toInt64 < (1 : Int32).toInt64 := by
        rw [Int64.lt_iff_toInt_lt, n1, Int32.toInt_toInt64]
        intro q
        exact z (Int32.toInt_inj.1 (by rw [show (0 : Int32).toInt = 0 by decide]; omega))
      rw [decide_eq_false a1, decide_eq_false a2, decide_eq_false z]
      rfl
  | false =>
    cases hi : dgi f p t 1 9 with
    | false => rfl
    | true =>
      exfalso
      unfold dgi in_b at hi
      rw [Bool.and_eq_true, Bool.and_eq_true] at hi
      have hlt := of_decide_eq_true hi.1
      have e1 : ¬ (f p - 48).toInt64 < (1 : Int32).toInt64 := by simpa using hi.2.1
      have e2 : ¬ (9 : Int32).toInt64 < (f p - 48).toInt64 := by simpa using hi.2.2
      rw [Int64.lt_iff_toInt_lt, Int32.toInt_toInt64, Int32.toInt_toInt64, show (1 : Int32).toInt = 1 by decide] at e1
      rw [Int64.lt_iff_toInt_lt, Int32.toInt_toInt64, Int32.toInt_toInt64, show (9 : Int32).toInt = 9 by decide] at e2
      have ef : f p = (f p - 48) + 48 := by simp
      have ei : (f p).toInt = (f p - 48).toInt + 48 := by
        have q := congrArg Int32.toInt ef
        rw [Int32.toInt_add, show (48 : Int32).toInt = 48 by decide, Int.bmod_eq_of_le (by omega) (by omega)] at q
        exact q
      have : dg f p t = true := by
        unfold dg
        rw [decide_eq_true hlt]
        refine (Bool.true_and _).trans (dg_in ?_ ?_)
        · refine decide_eq_false (fun q => ?_)
          rw [Int32.lt_iff_toInt_lt, nI_toInt (by decide)] at q
          omega
        · refine decide_eq_false (fun q => ?_)
          rw [Int32.lt_iff_toInt_lt, nI_toInt (by decide)] at q
          omega
      rw [this] at hd
      cases hd
theorem xr_first (hn : n0 ≤ 80) {ct : Int32} {x5 : Option Value} (hp : p < 800) (x : pX h n0 cc f) (hh : pm_run PT n fr lo 129 (45, [some (.ref 0), some (.int (nI p)), some (.int (nI ln)), some (.int ct), some (.int (nI 0)), x5], [], h, 198, sl) = some R) : cond (rcC f (min n0 41) p).1 (∃ m h' y5, pX h' n0 cc f ∧ pm_run PT m fr lo 129 (104, [some (.ref 0), some (.int (nI (rcC f (min n0 41) p).2)), some (.int (nI ln)), some (.int ct), some (.int (nI 6)), y5], [], h', 198, sl) = some R) (R.1 = some (.int (Int32.ofInt (-1) - nI (rcC f (min n0 41) p).2))) := by
  obtain ⟨⟨fs, a1, a2, a3⟩, -⟩ := id x
  obtain ⟨n, hh⟩ := rn_i rfl rfl rfl rfl hh
  obtain ⟨n, hh⟩ := rn_i rfl rfl rfl rfl hh
  obtain ⟨n, hh⟩ := rn_icmp (cc := .ge) (off := 55) (t := 104) rfl rfl hh
  have hh : pm_run PT n fr lo 129 (52, [some (.ref 0), some (.int (nI p)), some (.int (nI ln)), some (.int ct), some (.int (nI 0)), x5], [], h, 198, sl) = some R := hh
  obtain ⟨n, hh⟩ := rn_i rfl rfl rfl rfl hh
  obtain ⟨n, hh⟩ := rn_gfo (g := 0) rfl rfl (by decide) a1 a2 hh
  obtain ⟨n, hh⟩ := rn_i rfl rfl rfl rfl hh
  obtain ⟨n, hh⟩ := rn_i rfl rfl rfl rfl hh
  obtain ⟨n, fr', lo', r1, hr1, hh⟩ := rn_call (w := 0) (t := 81) rfl rfl hh
  have er := dgA_run (l := 41) hn (by decide) (by omega) x hr1
  subst er
  have hh : pm_run PT n fr lo 129 (62, [some (.ref 0), some (.int (nI p)), some (.int (nI ln)), some (.int ct), some (.int (nI 0)), x5], [.int (dgA f n0 p 41)], h, 198, sl) = some R := hh
  obtain ⟨n, hh⟩ := rn_i rfl rfl rfl rfl hh
  obtain ⟨n, hh⟩ := rn_i rfl rfl rfl rfl hh
  obtain ⟨n, hh⟩ := rn_if (cc := .lt) (off := 13) (t := 79) rfl rfl hh
  unfold rcC
  rw [dgi_of]
  cases hd : dg f p (min n0 41) with
  | false =>
    rw [dgA_no hd, show pm_cmp .lt (Int32.ofInt (-1)) 0 = true by decide] at hh
    rw [xr_m1 hh]
    rfl
  | true =>
    obtain ⟨v1, v2⟩ := dg_val hd
    rw [dgA_yes hd, lt0_val v1] at hh
    have hh : pm_run PT n fr lo 129 (69, [some (.ref 0), some (.int (nI p)), some (.int (nI ln)), some (.int ct), some (.int (nI 0)), some (.int (f p - 48))], [], h, 198, sl) = some R := hh
    obtain ⟨n, hh⟩ := rn_i rfl rfl rfl rfl hh
    obtain ⟨n, hh⟩ := rn_if (cc := .ne) (off := 12) (t := 83) rfl rfl hh
    have hh : pm_run PT n fr lo 129 (74, [some (.ref 0), some (.int (nI p)), some (.int (nI ln)), some (.int ct), some (.int (nI 0)), some (.int (f p - 48))], [], h, 198, sl) = some R := hh
    obtain ⟨n, hh⟩ := rn_i rfl rfl rfl rfl hh
    obtain ⟨n, hh⟩ := rn_if (cc := .ne) (off := 7) (t := 83) rfl rfl hh
    by_cases z : f p - 48 = 0
    · rw [show pm_cmp .ne (f p - 48) 0 = false from decide_eq_false (fun q => q z)] at hh
      rw [decide_eq_true z]
      rw [xr_m1 hh]
      rfl
    · rw [show pm_cmp .ne (f p - 48) 0 = true from decide_eq_true z] at hh
      rw [decide_eq_false z]
      have hh : pm_run PT n fr lo 129 (83, [some (.ref 0), some (.int (nI p)), some (.int (nI ln)), some (.int ct), some (.int (nI 0)), some (.int (f p - 48))], [], h, 198, sl) = some R := hh
      obtain ⟨n, hh⟩ := rn_i rfl rfl rfl rfl hh
      obtain ⟨n, hh⟩ := rn_gfo (g := 2) rfl rfl (by decide) a1 a3 hh
      obtain ⟨n, hh⟩ := rn_i rfl rfl rfl rfl hh
      obtain ⟨n, hh⟩ := rn_i rfl rfl rfl rfl hh
      obtain ⟨n, hh⟩ := rn_i rfl rfl rfl rfl hh
      obtain ⟨n, fr', lo', r1, hr1, hh⟩ := rn_call (w := 0) (t := 26) rfl rfl hh
      have hf := sf_run sQ_ok _ _ _ 26 _ r1 rfl hr1
      have hk := ak_run (by decide) sQ_ak _ _ _ 26 _ r1 rfl hr1
      have hz := sz_run sQ_ok _ _ _ 26 _ r1 rfl hr1
      have hv := vd_run rfl hr1
      obtain ⟨rv, h1, s1⟩ := r1
      dsimp only at hf hk hz hv
      subst hz
      subst hv
      have x1 := pX_fm hf hk x
      have hh : pm_run PT n fr lo 129 (95, [some (.ref 0), some (.int (nI p)), some (.int (nI ln)), some (.int ct), some (.int (nI 0)), some (.int (f p - 48))], [], h1, 198, sl) = some R := hh
      obtain ⟨n, hh⟩ := rn_i rfl rfl rfl rfl hh
      obtain ⟨n, hh⟩ := rn_i rfl rfl rfl rfl hh
      obtain ⟨n, hh⟩ := rn_i rfl rfl rfl rfl hh
      have e1 : nI p + Int32.ofInt 1 = nI (p + 1) := (Int32.ofNat_add p 1).symm
      have hh : pm_run PT n fr lo 129 (45, [some (.ref 0), some (.int (nI p + Int32.ofInt 1)), some (.int (nI ln)), some (.int ct), some (.int (nI 1)), some (.int (f p - 48))], [], h1, 198, sl) = some R := hh
      rw [e1] at hh
      exact xr_dig hn 5 1 (p + 1) n h1 _ rfl (by decide) (by omega) x1 hh
/-- what the class answers, by how far it came -/
def xA (n0 : Nat) (s : Bool × Nat × Nat) : Int32 := cond (s.1 && decide (s.2.1 = n0)) (nI s.2.2) (Int32.ofInt (-1) - nI s.2.1)
theorem xr_loop (hn : n0 ≤ 80) : ∀ (k ln p n : Nat) (h : pm_H) (x3 x4 x5 : Option Value), cc + ln + k = 7 → 0 < k → p ≤ min n0 41 → pX h n0 cc f → pm_run PT n fr lo 129 (16, [some (.ref 0), some (.int (nI p)), some (.int (nI ln)), x3, x4, x5], [], h, 198, sl) = some R → R.1 = some (.int (xA n0 (spL f (min n0 41) cc k ln p))) := by
  intro k
  induction k with
  | zero => intro ln p n h x3 x4 x5 hk h0; exact absurd h0 (by omega)
  | succ k ih =>
    intro ln p n h x3 x4 x5 hk h0 hp x hh
    obtain ⟨⟨fs, a1, a2, a3⟩, ⟨gs, g1, g2, g3⟩, c1, rs, d1, d2⟩ := id x
    unfold spL
    obtain ⟨n, hh⟩ := rn_i rfl rfl rfl rfl hh
    obtain ⟨n, hh⟩ := rn_i rfl rfl rfl rfl hh
    obtain ⟨n, hh⟩ := rn_icmp (cc := .ge) (off := 128) (t := 147) rfl rfl hh
    have ec : pm_cmp .ge (nI ln) (Int8.ofInt 6).toInt32 = decide (6 ≤ ln) := hI_ge (a := ln) (b := 6) (by omega) (by omega)
    rw [ec] at hh
    by_cases z6 : 6 ≤ ln
    · rw [decide_eq_true z6] at hh
      rw [decide_eq_true (show cc + ln = 6 by omega)]
      obtain ⟨n, hh⟩ := rn_i rfl rfl rfl rfl hh
      obtain ⟨n, hh⟩ := rn_i rfl rfl rfl rfl hh
      obtain ⟨n, hh⟩ := rn_i rfl rfl rfl rfl hh
      rw [(rn_ret rfl (Or.inl rfl) hh).2]
      rfl
    · rw [decide_eq_false z6] at hh
      obtain ⟨n, hh⟩ := rn_i rfl rfl rfl rfl hh
      obtain ⟨n, hh⟩ := rn_gfo (g := 2) rfl rfl (by decide) a1 a3 hh
      obtain ⟨n, hh⟩ := rn_gfo (g := 0) rfl rfl (by decide) d1 d2 hh
      obtain ⟨n, hh⟩ := rn_i rfl rfl rfl rfl hh
      obtain ⟨n, hh⟩ := rn_i rfl rfl rfl rfl hh
      obtain ⟨n, hh⟩ := rn_i rfl rfl rfl rfl hh
      obtain ⟨n, hh⟩ := rn_i rfl rfl rfl rfl hh
      obtain ⟨n, hh⟩ := rn_i rfl rfl rfl rfl hh
      obtain ⟨n, hh⟩ := rn_icmp (cc := .lt) (off := 7) (t := 42) rfl rfl hh
      have ea : nI cc + nI ln = nI (cc + ln) := nI_add cc ln
      have hh : pm_run PT n fr lo 129 (cond (pm_cmp .lt (nI cc + nI ln) (nI 6)) 42 38, [some (.ref 0), some (.int (nI p)), some (.int (nI ln)), some (.int (nI cc + nI ln)), x4, x5], [], h, 198, sl) = some R := hh
      rw [ea, hI_lt (by omega) (by omega)] at hh
      by_cases z : cc + ln = 6
      · rw [decide_eq_false (by omega)] at hh
        rw [decide_eq_true z]
        obtain ⟨n, hh⟩ := rn_i rfl rfl rfl rfl hh
        obtain ⟨n, hh⟩ := rn_i rfl rfl rfl rfl hh
        obtain ⟨n, hh⟩ := rn_i rfl rfl rfl rfl hh
        rw [(rn_ret rfl (Or.inl rfl) hh).2]
        rfl
      · rw [decide_eq_true (by omega)] at hh
        rw [decide_eq_false z]
        have hh : pm_run PT n fr lo 129 (42, [some (.ref 0), some (.int (nI p)), some (.int (nI ln)), some (.int (nI (cc + ln))), x4, x5], [], h, 198, sl) = some R := hh
        obtain ⟨n, hh⟩ := rn_i rfl rfl rfl rfl hh
        obtain ⟨n, hh⟩ := rn_i rfl rfl rfl rfl hh
        have hq := xr_first hn (by omega) x hh
        have hle := rcC_le (tp := f) hp
        dsimp only [cond]
        cases y : (rcC f (min n0 41) p).1 with
        | false =>
          rw [y] at hq
          exact hq
        | true =>
          rw [y] at hq
          obtain ⟨n, h', y5, x', hh⟩ := hq
          generalize (rcC f (min n0 41) p).2 = b at *
          obtain ⟨⟨fs, a1, a2, a3⟩, ⟨gs, g1, g2, g3⟩, -⟩ := id x'
          obtain ⟨n, hh⟩ := rn_i rfl rfl rfl rfl hh
          obtain ⟨n, hh⟩ := rn_i rfl rfl rfl rfl hh
          obtain ⟨n, hh⟩ := rn_gfo (g := 0) rfl rfl (by decide) a1 a2 hh
          obtain ⟨n, hh⟩ := rn_gfo (g := 1) rfl rfl (by decide) g1 g3 hh
          obtain ⟨n, hh⟩ := rn_icmp (cc := .ne) (off := 7) (t := 119) rfl rfl hh
          rw [hI_ne (by omega) (by omega)] at hh
          by_cases w : b = n0
          · rw [decide_eq_false (fun q => q w)] at hh
            rw [decide_eq_false (by omega)]
            obtain ⟨n, hh⟩ := rn_i rfl rfl rfl rfl hh
            obtain ⟨n, hh⟩ := rn_i rfl rfl rfl rfl hh
            obtain ⟨n, hh⟩ := rn_i rfl rfl rfl rfl hh
            have e1 : nI ln + Int32.ofInt 1 = nI (ln + 1) := (Int32.ofNat_add ln 1).symm
            rw [(rn_ret rfl (Or.inl rfl) hh).2]
            unfold xA
            dsimp only
            rw [decide_eq_true w]
            exact congrArg (fun q => some (Value.int q)) e1
          · rw [decide_eq_true w] at hh
            have hh : pm_run PT n fr lo 129 (119, [some (.ref 0), some (.int (nI b)), some (.int (nI ln)), some (.int (nI (cc + ln))), some (.int (nI 6)), y5], [], h', 198, sl) = some R := hh
            obtain ⟨n, hh⟩ := rn_i rfl rfl rfl rfl hh
            obtain ⟨n, hh⟩ := rn_gfo (g := 0) rfl rfl (by decide) a1 a2 hh
            obtain ⟨n, hh⟩ := rn_i rfl rfl rfl rfl hh
            obtain ⟨n, hh⟩ := rn_i rfl rfl rfl rfl hh
            obtain ⟨n, fr', lo', r1, hr1, hh⟩ := rn_call (w := 0) (t := 80) rfl rfl hh
            have er := sgA_run (l := 41) hn (by decide) (by omega) x' hr1
            subst er
            have hh : pm_run PT n fr lo 129 (129, [some (.ref 0), some (.int (nI b)), some (.int (nI ln)), some (.int (nI (cc + ln))), some (.int (nI 6)), y5], [.int (sgA f n0 b 41)], h', 198, sl) = some R := hh
            obtain ⟨n, hh⟩ := rn_i rfl rfl rfl rfl hh
            obtain ⟨n, hh⟩ := rn_icmp (cc := .eq) (off := 7) (t := 138) rfl rfl hh
            have hh : pm_run PT n fr lo 129 (cond (pm_cmp .eq (sgA f n0 b 41) 59) 138 134, [some (.ref 0), some (.int (nI b)), some (.int (nI ln)), some (.int (nI (cc + ln))), some (.int (nI 6)), y5], [], h', 198, sl) = some R := hh
            have es : pm_cmp .eq (sgA f n0 b 41) 59 = decide (b < min n0 41 ∧ f b = 59) := by
              unfold sgA
              by_cases q : b < min n0 41
              · rw [decide_eq_true q]
                show decide (f b = 59) = _
                rw [Bool.eq_iff_iff, decide_eq_true_iff, decide_eq_true_iff]
                exact ⟨fun e => ⟨q, e⟩, fun e => e.2⟩
              · rw [decide_eq_false q, decide_eq_false (fun e => q e.1)]
                show pm_cmp .eq (Int32.ofInt (-1)) 59 = false
                decide
            rw [es] at hh
            cases v : decide (b < min n0 41 ∧ f b = 59) with
            | false =>
              rw [v] at hh
              obtain ⟨n, hh⟩ := rn_i rfl rfl rfl rfl hh
              obtain ⟨n, hh⟩ := rn_i rfl rfl rfl rfl hh
              obtain ⟨n, hh⟩ := rn_i rfl rfl rfl rfl hh
              rw [(rn_ret rfl (Or.inl rfl) hh).2]
              unfold xA
              dsimp only
              rw [decide_eq_false w]
              rfl
            | true =>
              rw [v] at hh
              have vv := of_decide_eq_true v
              obtain ⟨n, hh⟩ := rn_i rfl rfl rfl rfl hh
              obtain ⟨n, hh⟩ := rn_i rfl rfl rfl rfl hh
              obtain ⟨n, hh⟩ := rn_i rfl rfl rfl rfl hh
              have e1 : nI b + Int32.ofInt 1 = nI (b + 1) := (Int32.ofNat_add b 1).symm
              have e2 : nI ln + Int32.ofInt 1 = nI (ln + 1) := (Int32.ofNat_add ln 1).symm
              have hh : pm_run PT n fr lo 129 (16, [some (.ref 0), some (.int (nI b + Int32.ofInt 1)), some (.int (nI ln + Int32.ofInt 1)), some (.int (nI (cc + ln))), some (.int (nI 6)), y5], [], h', 198, sl) = some R := hh
              rw [e1, e2] at hh
              exact ih (ln + 1) (b + 1) n h' _ _ _ (by omega) (by omega) (by omega) x' hh
end CXC
end MG95xex0
section MG95xex1
section CXF
variable {n fr lo sl n0 cc : Nat} {h : pm_H} {R : pm_Rs} {f : Nat → Int32}
theorem xr_0 (hh : pm_run PT n fr lo 129 (10, [some (.ref 0), none, none, none, none, none], [], h, 198, sl) = some R) : R.1 = some (.int (Int32.ofInt 0)) := by
  obtain ⟨n, hh⟩ := rn_i rfl rfl rfl rfl hh
  rw [(rn_ret rfl (Or.inl rfl) hh).2]
theorem xr_1 (hn : n0 ≤ 80) (hc : cc ≤ 6) (x : pX h n0 cc f) (hh : pm_run PT n fr lo 129 (12, [some (.ref 0), none, none, none, none, none], [], h, 198, sl) = some R) : R.1 = some (.int (xA n0 (spL f (min n0 41) cc (7 - cc) 0 0))) := by
  obtain ⟨n, hh⟩ := rn_i rfl rfl rfl rfl hh
  obtain ⟨n, hh⟩ := rn_i rfl rfl rfl rfl hh
  obtain ⟨n, hh⟩ := rn_i rfl rfl rfl rfl hh
  obtain ⟨n, hh⟩ := rn_i rfl rfl rfl rfl hh
  have hh : pm_run PT n fr lo 129 (16, [some (.ref 0), some (.int (nI 0)), some (.int (nI 0)), none, none, none], [], h, 198, sl) = some R := hh
  exact xr_loop hn (7 - cc) 0 0 n h none none none (by omega) (by omega) (Nat.zero_le _) x hh
def xR (n0 cc : Nat) (f : Nat → Int32) : Int32 := if n0 = 0 then Int32.ofInt 0 else xA n0 (spL f (min n0 41) cc (7 - cc) 0 0)
theorem xr_run (hn : n0 ≤ 80) (hc : cc ≤ 6) (x : pX h n0 cc f) (hh : pm_run PT n fr lo 129 (0, pm_l0 [.ref 0] 6, [], h, 198, sl) = some R) : R.1 = some (.int (xR n0 cc f)) := by
  obtain ⟨⟨fs, a1, a2, a3⟩, ⟨gs, g1, g2, g3⟩, -⟩ := id x
  obtain ⟨n, hh⟩ := rn_i rfl rfl rfl rfl hh
  obtain ⟨n, hh⟩ := rn_gfo (g := 0) rfl rfl (by decide) a1 a2 hh
  obtain ⟨n, hh⟩ := rn_gfo (g := 1) rfl rfl (by decide) g1 g3 hh
  obtain ⟨n, hh⟩ := rn_if (cc := .ne) (off := 5) (t := 12) rfl rfl hh
  have en : pm_cmp .ne (nI n0) 0 = decide (¬ n0 = 0) := hI_ne (a := n0) (b := 0) (by omega) (by omega)
  rw [en] at hh
  unfold xR
  by_cases z : n0 = 0
  · rw [decide_eq_false (fun q => q z)] at hh
    rw [if_pos z]
    exact xr_0 hh
  · rw [decide_eq_true z] at hh
    rw [if_neg z]
    exact xr_1 hn hc x hh
/-- both answers are one -/
theorem neg_ge {a : Nat} (ha : a ≤ 80) : pm_cmp .ge (Int32.ofInt (-1) - nI a) 0 = false := by
  have e : (Int32.ofInt (-1) - nI a).toInt = -1 - (a : Int) := by
    rw [Int32.toInt_sub, nI_toInt (by omega), show (Int32.ofInt (-1)).toInt = -1 by decide, Int.bmod_eq_of_le (by omega) (by omega)]
  generalize Int32.ofInt (-1) - nI a = y at e ⊢
  simp only [pm_cmp]
  rw [decide_eq_false_iff_not]
  intro q
  rw [Int32.le_iff_toInt_le, e, show (0 : Int32).toInt = 0 by decide] at q
  omega
theorem fO_eq {at_ : Nat} {is : Bool} (hn : n0 ≤ 80) (ha : at_ ≤ min n0 41) : fO n0 41 (min n0 41) at_ is = cond (is && decide (at_ = n0)) (Int32.ofInt 0) (Int32.ofInt (-1) - nI at_) := by
  unfold fO fO2
  by_cases z : at_ = n0
  · have ht : at_ = min n0 41 := by omega
    rw [decide_eq_true z, decide_eq_true ht, if_neg (by omega)]
  · rw [decide_eq_false z, Bool.and_false]
    by_cases y : at_ = min n0 41
    · have e41 : at_ = 41 := by omega
      rw [if_pos ⟨by omega, Or.inr (by omega)⟩, e41]
      rfl
    · rw [decide_eq_false y, Bool.and_false, if_neg (fun q => by rcases q.2 with q | q; cases q; omega)]
theorem rcD_cong {tp : Nat → Int32} {t : Nat} (hf : ∀ j, j < t → f j = tp j) : ∀ (k a : Nat), rcD f t k a = rcD tp t k a
  | 0, a => rfl
  | k + 1, a => by
    unfold rcD
    have e : dg f a t = dg tp a t := by
      unfold dg
      by_cases z : a < t
      · rw [hf a z]
      · rw [decide_eq_false z, Bool.false_and, Bool.false_and]
    rw [e, rcD_cong hf k (a + 1)]
theorem rcC_cong {tp : Nat → Int32} {t a : Nat} (hf : ∀ j, j < t → f j = tp j) : rcC f t a = rcC tp t a := by
  unfold rcC
  have e : dgi f a t 1 9 = dgi tp a t 1 9 := by
    unfold dgi
    by_cases z : a < t
    · rw [hf a z]
    · rw [decide_eq_false z, Bool.false_and, Bool.false_and]
  rw [e, rcD_cong hf 5 (a + 1)]
theorem spL_cong {tp : Nat → Int32} {t : Nat} (hf : ∀ j, j < t → f j = tp j) : ∀ (k rm a : Nat), spL f t cc k rm a = spL tp t cc k rm a
  | 0, rm, a => rfl
  | k + 1, rm, a => by
    unfold spL
    rw [rcC_cong hf, spL_cong hf k (rm + 1) ((rcC tp t a).2 + 1)]
    have e : decide ((rcC tp t a).2 < t ∧ f (rcC tp t a).2 = 59) = decide ((rcC tp t a).2 < t ∧ tp (rcC tp t a).2 = 59) := by
      by_cases z : (rcC tp t a).2 < t
      · rw [hf _ z]
      · rw [decide_eq_false (fun q => z q.1), decide_eq_false (fun q => z q.1)]
    rw [e]
theorem neg_le {a : Nat} (ha : a ≤ 80) : pm_cmp .le (Int32.ofInt (-1) - nI a) 0 = true := by
  have e : (Int32.ofInt (-1) - nI a).toInt = -1 - (a : Int) := by
    rw [Int32.toInt_sub, nI_toInt (by omega), show (Int32.ofInt (-1)).toInt = -1 by decide, Int.bmod_eq_of_le (by omega) (by omega)]
  generalize Int32.ofInt (-1) - nI a = y at e ⊢
  simp only [pm_cmp]
  rw [decide_eq_true_iff, Int32.le_iff_toInt_le, e, show (0 : Int32).toInt = 0 by decide]
  omega
/-- the reference's answer and how many came, by the class's -/
theorem cm_both {tp : Nat → Int32} (hn : n0 ≤ 80) (hc : cc ≤ 6) (hf : ∀ j, j < n0 → f j = tp j) : cmA tp n0 cc = xR n0 cc f ∧ ((xR n0 cc f = nI (cmN tp n0 cc) ∧ cc + cmN tp n0 cc ≤ 6) ∨ (pm_cmp .le (xR n0 cc f) 0 = true ∧ cmN tp n0 cc = 0)) := by
  have e0 : pm_cmp .ge (Int32.ofInt 0) 0 = true := by decide
  unfold cmA cmN cmF xR
  by_cases z : n0 = 0
  · have es : cmS tp n0 cc = (true, 0, 0) := by
      unfold cmS
      rw [z]
      rfl
    rw [es, if_pos z]
    dsimp only
    rw [fO_eq hn (Nat.zero_le _), show (true && decide (0 = n0)) = true by rw [z]; rfl]
    generalize Int32.ofInt (-1) - nI 0 = y
    simp only [cond_true]
    rw [e0]
    simp only [cond_true]
    exact ⟨(by decide), Or.inl ⟨(by decide), hc⟩⟩
  · have es : cmS tp n0 cc = spL tp (min n0 41) cc (7 - cc) 0 0 := by
      unfold cmS
      rw [nb_ne z]
      rfl
    have e2 := spL_cong (cc := cc) (t := min n0 41) (fun j hj => hf j (by omega)) (7 - cc) 0 0
    obtain ⟨b1, b2, b3⟩ := spL_bd (tp := tp) (cc := cc) (7 - cc) 0 0 (Nat.zero_le (min n0 41))
    have b3 := b3 (by omega)
    rw [es, if_neg z, e2]
    generalize spL tp (min n0 41) cc (7 - cc) 0 0 = s at *
    rw [fO_eq hn b1]
    unfold xA
    have y1 := neg_ge (a := s.2.1) (by omega)
    have y2 := neg_le (a := s.2.1) (by omega)
    generalize Int32.ofInt (-1) - nI s.2.1 = y at *
    cases hs : (s.1 && decide (s.2.1 = n0)) with
    | true =>
      simp only [cond_true]
      rw [e0]
      simp only [cond_true]
      exact ⟨trivial, Or.inl ⟨trivial, b3⟩⟩
    | false =>
      simp only [cond_false]
      rw [y1]
      simp only [cond_false]
      exact ⟨trivial, Or.inr ⟨y2, trivial⟩⟩
end CXF
end MG95xex1
section MG95xex2
/-! the class's courts: the LINES come -/
section CXG
variable {n fr lo sl n0 cc N : Nat} {h h' : pm_H} {R : pm_Rs} {f : Nat → Int32}
def rC (h : pm_H) (v : Value) : Prop := ∃ rs, h 5 = .inr (3, rs) ∧ rs[0]? = some v
def pY (h : pm_H) (c : Nat) : Prop := (∃ fs, h 0 = .inr (10, fs) ∧ fs[2]? = some (.ref 5)) ∧ rC h (.int (nI c))
theorem pY_fm {c : Nat} (q : fm (sfF sQ) h h') (x : pY h c) : pY h' c := by
  obtain ⟨⟨fs, a1, a2⟩, rs, d1, d2⟩ := x
  obtain ⟨fs', e1, -, e2⟩ := q.2 0 10 fs a1
  obtain ⟨rs', i1, -, i2⟩ := q.2 5 3 rs d1
  exact ⟨⟨fs', e1, (e2 2 rfl).trans a2⟩, rs', i1, (i2 0 rfl).trans d2⟩
theorem xc_fin {c : Nat} {v x2 : Int32} (x : pY h c) (hh : pm_run PT n fr lo 88 (54, [some (.ref 0), some (.int v), some (.int x2)], [], h, 198, sl) = some R) : R.1 = some (.int v) ∧ rC R.2.1 (.int (nI c)) := by
  obtain ⟨n, hh⟩ := rn_i rfl rfl rfl rfl hh
  obtain ⟨n, fr', lo', r1, hr1, hh⟩ := rn_call (w := 0) (t := 133) rfl rfl hh
  have hf := sf_run sQ_ok _ _ _ 133 _ r1 rfl hr1
  have hz := sz_run sQ_ok _ _ _ 133 _ r1 rfl hr1
  have hv := vd_run rfl hr1
  obtain ⟨rv, h1, s1⟩ := r1
  dsimp only at hf hz hv
  subst hz
  subst hv
  have hh : pm_run PT n fr lo 88 (58, [some (.ref 0), some (.int v), some (.int x2)], [], h1, 198, sl) = some R := hh
  obtain ⟨n, hh⟩ := rn_i rfl rfl rfl rfl hh
  have e := (rn_ret rfl (Or.inl rfl) hh).2
  subst e
  exact ⟨rfl, (pY_fm hf x).2⟩
theorem xc_loop (hN : N ≤ 6) (hc : cc ≤ 6) : ∀ (d k n : Nat) (h : pm_H), k + d = N → pY h (cc + k) → pm_run PT n fr lo 88 (19, [some (.ref 0), some (.int (nI N)), some (.int (nI k))], [], h, 198, sl) = some R → R.1 = some (.int (nI N)) ∧ rC R.2.1 (.int (nI (cc + N))) := by
  intro d
  induction d with
  | zero =>
    intro k n h hk x hh
    have hk : k = N := by omega
    subst hk
    obtain ⟨n, hh⟩ := rn_i rfl rfl rfl rfl hh
    obtain ⟨n, hh⟩ := rn_i rfl rfl rfl rfl hh
    obtain ⟨n, hh⟩ := rn_icmp (cc := .ge) (off := 33) (t := 54) rfl rfl hh
    rw [hI_ge (by omega) (by omega), decide_eq_true (Nat.le_refl _)] at hh
    exact xc_fin x hh
  | succ d ih =>
    intro k n h hk x hh
    obtain ⟨n, hh⟩ := rn_i rfl rfl rfl rfl hh
    obtain ⟨n, hh⟩ := rn_i rfl rfl rfl rfl hh
    obtain ⟨n, hh⟩ := rn_icmp (cc := .ge) (off := 33) (t := 54) rfl rfl hh
    rw [hI_ge (by omega) (by omega), decide_eq_false (by omega)] at hh
    obtain ⟨⟨fs, a1, a2⟩, rs, d1, d2⟩ := id x
    obtain ⟨n, hh⟩ := rn_i rfl rfl rfl rfl hh
    obtain ⟨n, hh⟩ := rn_i rfl rfl rfl rfl hh
    obtain ⟨n, hh⟩ := rn_gfo (g := 2) rfl rfl (by decide) a1 a2 hh
    obtain ⟨n, hh⟩ := rn_gfo (g := 0) rfl rfl (by decide) d1 d2 hh
    obtain ⟨n, fr', lo', r1, hr1, hh⟩ := rn_call (w := 0) (t := 132) rfl rfl hh
    have hf := sf_run sQ_ok _ _ _ 132 _ r1 rfl hr1
    have hz := sz_run sQ_ok _ _ _ 132 _ r1 rfl hr1
    have hv := vd_run rfl hr1
    obtain ⟨rv, h1, s1⟩ := r1
    dsimp only at hf hz hv
    subst hz
    subst hv
    obtain ⟨⟨gs, b1, b2⟩, qs, c1, c2⟩ := pY_fm hf x
    have hh : pm_run PT n fr lo 88 (35, [some (.ref 0), some (.int (nI N)), some (.int (nI k))], [], h1, 198, sl) = some R := hh
    obtain ⟨n, hh⟩ := rn_i rfl rfl rfl rfl hh
    obtain ⟨n, hh⟩ := rn_gfo (g := 2) rfl rfl (by decide) b1 b2 hh
    obtain ⟨n, hh⟩ := rn_i rfl rfl rfl rfl hh
    obtain ⟨n, hh⟩ := rn_gfo (g := 0) rfl rfl (by decide) c1 c2 hh
    obtain ⟨n, hh⟩ := rn_i rfl rfl rfl rfl hh
    obtain ⟨n, hh⟩ := rn_i rfl rfl rfl rfl hh
    obtain ⟨n, hh⟩ := rn_i rfl rfl rfl (pf_eq (f := 0) rfl rfl (by decide) (by decide) c1 c2) hh
    obtain ⟨n, hh⟩ := rn_i rfl rfl rfl rfl hh
    obtain ⟨n, hh⟩ := rn_i rfl rfl rfl rfl hh
    have e1 : nI (cc + k) + Int32.ofInt 1 = nI (cc + (k + 1)) := (Int32.ofNat_add (cc + k) 1).symm
    have e2 : nI k + Int32.ofInt 1 = nI (k + 1) := (Int32.ofNat_add k 1).symm
    have hh : pm_run PT n fr lo 88 (19, [some (.ref 0), some (.int (nI N)), some (.int (nI k + Int32.ofInt 1))], [], va_up h1 5 (.inr (3, qs.set 0 (.int (nI (cc + k) + Int32.ofInt 1)))), 198, sl) = some R := hh
    rw [e1, e2] at hh
    refine ih (k + 1) n _ (by omega) ⟨⟨gs, by simp [va_up, b1], b2⟩, qs.set 0 (.int (nI (cc + (k + 1)))), by simp [va_up], ?_⟩ hh
    rw [List.getElem?_set_self (List.getElem?_eq_some_iff.mp c2).1]
theorem xc_run (hn : n0 ≤ 80) (hc : cc ≤ 6) (x : pX h n0 cc f) (hN : (xR n0 cc f = nI N ∧ cc + N ≤ 6) ∨ (pm_cmp .le (xR n0 cc f) 0 = true ∧ N = 0)) (hh : pm_run PT n fr lo 88 (0, pm_l0 [.ref 0] 3, [], h, 198, sl) = some R) : R.1 = some (.int (xR n0 cc f)) ∧ rC R.2.1 (.int (nI (cc + N))) := by
  obtain ⟨n, hh⟩ := rn_i rfl rfl rfl rfl hh
  obtain ⟨n, fr', lo', r1, hr1, hh⟩ := rn_call (w := 0) (t := 129) rfl rfl hh
  have hf := sf_run sQ_ok _ _ _ 129 _ r1 rfl hr1
  have hk := ak_run (by decide) sQ_ak _ _ _ 129 _ r1 rfl hr1
  have hz := sz_run sQ_ok _ _ _ 129 _ r1 rfl hr1
  have hv := xr_run hn hc x hr1
  obtain ⟨rv, h1, s1⟩ := r1
  dsimp only at hf hk hz hv
  subst hz
  subst hv
  obtain ⟨⟨fs, a1, a2, a3⟩, ⟨gs, g1, g2, g3⟩, c1, rs, d1, d2⟩ := pX_fm hf hk x
  generalize xR n0 cc f = v at *
  have hh : pm_run PT n fr lo 88 (4, [some (.ref 0), none, none], [.int v], h1, 198, sl) = some R := hh
  obtain ⟨n, hh⟩ := rn_i rfl rfl rfl rfl hh
  obtain ⟨n, hh⟩ := rn_i rfl rfl rfl rfl hh
  obtain ⟨n, hh⟩ := rn_gfo (g := 0) rfl rfl (by decide) a1 a2 hh
  obtain ⟨n, hh⟩ := rn_i rfl rfl rfl rfl hh
  obtain ⟨n, hh⟩ := rn_i rfl rfl rfl (pf_eq (f := 1) rfl rfl (by decide) (by decide) g1 g3) hh
  have y : pY (va_up h1 1 (.inr (8, gs.set 1 (.int (Int32.ofInt 0))))) cc := ⟨⟨fs, by simp [va_up, a1], a3⟩, rs, by simp [va_up, d1], d2⟩
  generalize va_up h1 1 (.inr (8, gs.set 1 (.int (Int32.ofInt 0)))) = h2 at *
  have hh : pm_run PT n fr lo 88 (13, [some (.ref 0), some (.int v), none], [], h2, 198, sl) = some R := hh
  obtain ⟨n, hh⟩ := rn_i rfl rfl rfl rfl hh
  obtain ⟨n, hh⟩ := rn_if (cc := .le) (off := 44) (t := 58) rfl rfl hh
  have fin0 : ∀ n : Nat, pm_run PT n fr lo 88 (58, [some (.ref 0), some (.int v), none], [], h2, 198, sl) = some R → R.1 = some (.int v) ∧ rC R.2.1 (.int (nI cc)) := by
    intro n hh
    obtain ⟨n, hh⟩ := rn_i rfl rfl rfl rfl hh
    have e := (rn_ret rfl (Or.inl rfl) hh).2
    subst e
    exact ⟨rfl, y.2⟩
  rcases hN with ⟨e1, e2⟩ | ⟨e1, e2⟩
  · by_cases z : N = 0
    · subst z
      rw [show pm_cmp .le v 0 = true by rw [e1]; decide] at hh
      exact fin0 n hh
    · have ec : pm_cmp .le v 0 = false := by
        rw [e1]
        have := hI_le (a := N) (b := 0) (by omega) (by omega)
        rw [decide_eq_false (by omega)] at this
        exact this
      rw [ec] at hh
      rw [e1] at hh ⊢
      obtain ⟨n, hh⟩ := rn_i rfl rfl rfl rfl hh
      obtain ⟨n, hh⟩ := rn_i rfl rfl rfl rfl hh
      exact xc_loop (by omega) hc N 0 n h2 (by omega) y hh
  · subst e2
    rw [e1] at hh
    exact fin0 n hh
end CXG
end MG95xex2
section MG95xex3
/-! sign: the same four signs come behind both texts -/
section SGN
variable {n fr lo sl n0 k pc : Nat} {h h' : pm_H} {R : pm_Rs} {f : Nat → Int32} {L : pm_L} {r : List Value} {v s : Int32}
/-- a sign as the class writes it, as the reference does -/
def chX (v s : Int32) : Int32 := vp_nar .char ((((v.toUInt32 >>> (s.toUInt32 &&& Int32.toUInt32 31)).toInt32 &&& (Int16.ofInt 255).toInt32).toUInt32 % 65536).toInt32)
def chM (v : Int32) (s : Int32) : Int32 := (v >>> (s &&& 31)) &&& (Int16.ofInt 255).toInt32
def pT (h : pm_H) (n0 : Nat) (f : Nat → Int32) : Prop := (∃ gs, h 1 = .inr (8, gs) ∧ gs[0]? = some (.ref 2) ∧ gs[1]? = some (.int (nI n0))) ∧ h 2 = .inl (1, 80, .inl f)
theorem rn_csm {a m : Nat} {i x : Int32} {g : Nat → Int32} (hi : pm_ins PT k pc = some (.castore, 1)) (ha : h a = .inl (1, m, .inl g)) (hin : pm_in i m = true) (hl : a < 198) (hh : pm_run PT n fr lo k (pc, L, .int x :: .int i :: .ref a :: r, h, 198, sl) = some R) : ∃ q, pm_run PT q fr lo k (pc + 1, L, r, va_up h a (.inl (1, m, .inl (upd g i.toNatClampNeg (vp_nar .char x)))), 198, sl) = some R := by
  refine rn_i hi rfl rfl ?_ hh
  show pm_iS PT .char (fun x => vp_nar .char x) pc L (.int x :: .int i :: .ref a :: r) h 198 sl = _
  unfold pm_iS
  dsimp only
  have e : pm_iar PT .char h 198 a = some (1, m, g) := by
    unfold pm_iar
    rw [if_pos hl, ha]
    exact if_pos rfl
  rw [e]
  dsimp only
  rw [if_pos hin]
theorem ad_step (hs : pm_cmp .lt s 0 = false) (hn : n0 < 80) (x : pT h n0 f) (hh : pm_run PT n fr lo 79 (16, [some (.ref 1), some (.int v), some (.int s)], [], h, 198, sl) = some R) : ∃ m h', pT h' (n0 + 1) (upd f n0 (chX v s)) ∧ pm_run PT m fr lo 79 (16, [some (.ref 1), some (.int v), some (.int (s + Int32.ofInt (-8)))], [], h', 198, sl) = some R := by
  obtain ⟨⟨gs, g1, g2, g3⟩, c1⟩ := x
  obtain ⟨n, hh⟩ := rn_i rfl rfl rfl rfl hh
  obtain ⟨n, hh⟩ := rn_if (cc := .lt) (off := 36) (t := 53) rfl rfl hh
  rw [hs] at hh
  obtain ⟨n, hh⟩ := rn_i rfl rfl rfl rfl hh
  obtain ⟨n, hh⟩ := rn_gfo (g := 0) rfl rfl (by decide) g1 g2 hh
  obtain ⟨n, hh⟩ := rn_i rfl rfl rfl rfl hh
  obtain ⟨n, hh⟩ := rn_gfo (g := 1) rfl rfl (by decide) g1 g3 hh
  obtain ⟨n, hh⟩ := rn_i rfl rfl rfl rfl hh
  obtain ⟨n, hh⟩ := rn_i rfl rfl rfl rfl hh
  obtain ⟨n, hh⟩ := rn_i rfl rfl rfl rfl hh
  obtain ⟨n, hh⟩ := rn_i rfl rfl rfl rfl hh
  obtain ⟨n, hh⟩ := rn_i rfl rfl rfl rfl hh
  obtain ⟨n, hh⟩ := rn_i rfl rfl rfl rfl hh
  obtain ⟨n, hh⟩ := rn_csm rfl c1 (hI_in hn (by decide)) (by decide) hh
  rw [nI_clamp (by omega)] at hh
  have g1' : va_up h 2 (.inl (1, 80, .inl (upd f n0 (chX v s)))) 1 = .inr (8, gs) := by simp [va_up, g1]
  have hh : pm_run PT n fr lo 79 (37, [some (.ref 1), some (.int v), some (.int s)], [], va_up h 2 (.inl (1, 80, .inl (upd f n0 (chX v s)))), 198, sl) = some R := hh
  obtain ⟨n, hh⟩ := rn_i rfl rfl rfl rfl hh
  obtain ⟨n, hh⟩ := rn_i rfl rfl rfl rfl hh
  obtain ⟨n, hh⟩ := rn_gfo (g := 1) rfl rfl (by decide) g1' g3 hh
  obtain ⟨n, hh⟩ := rn_i rfl rfl rfl rfl hh
  obtain ⟨n, hh⟩ := rn_i rfl rfl rfl rfl hh
  obtain ⟨n, hh⟩ := rn_i rfl rfl rfl (pf_eq (f := 1) rfl rfl (by decide) (by decide) g1' g3) hh
  obtain ⟨n, hh⟩ := rn_i rfl rfl rfl rfl hh
  obtain ⟨n, hh⟩ := rn_i rfl rfl rfl rfl hh
  have e1 : nI n0 + Int32.ofInt 1 = nI (n0 + 1) := (Int32.ofNat_add n0 1).symm
  have hh : pm_run PT n fr lo 79 (16, [some (.ref 1), some (.int v), some (.int (s + Int32.ofInt (-8)))], [], va_up (va_up h 2 (.inl (1, 80, .inl (upd f n0 (chX v s))))) 1 (.inr (8, gs.set 1 (.int (nI n0 + Int32.ofInt 1)))), 198, sl) = some R := hh
  rw [e1] at hh
  refine ⟨n, _, ⟨⟨gs.set 1 (.int (nI (n0 + 1))), by simp [va_up], ?_, ?_⟩, by simp [va_up]⟩, hh⟩
  · rw [List.getElem?_set_ne (by decide)]; exact g2
  · rw [List.getElem?_set_self (List.getElem?_eq_some_iff.mp g3).1]
/-- the class's addFour -/
theorem ad_run (hn : n0 ≤ 80) (x : pT h n0 f) (hh : pm_run PT n fr lo 79 (0, pm_l0 [.ref 1, .int v] 3, [], h, 198, sl) = some R) : cond (decide (n0 ≤ 76)) (R.1 = some (.int 1) ∧ R.2.2 = (198, sl) ∧ pT R.2.1 (n0 + 4) (upd (upd (upd (upd f n0 (chX v 24)) (n0 + 1) (chX v 16)) (n0 + 2) (chX v 8)) (n0 + 3) (chX v 0))) (R = (some (.int (Int32.ofInt 0)), h, 198, sl)) := by
  obtain ⟨⟨gs, g1, g2, g3⟩, c1⟩ := id x
  obtain ⟨n, hh⟩ := rn_i rfl rfl rfl rfl hh
  obtain ⟨n, hh⟩ := rn_gfo (g := 1) rfl rfl (by decide) g1 g3 hh
  obtain ⟨n, hh⟩ := rn_i rfl rfl rfl rfl hh
  obtain ⟨n, hh⟩ := rn_i rfl rfl rfl rfl hh
  obtain ⟨n, hh⟩ := rn_i rfl rfl rfl rfl hh
  obtain ⟨n, hh⟩ := rn_icmp (cc := .le) (off := 5) (t := 13) rfl rfl hh
  have e4 : nI n0 + Int32.ofInt 4 = nI (n0 + 4) := (Int32.ofNat_add n0 4).symm
  have hh : pm_run PT n fr lo 79 (cond (pm_cmp .le (nI n0 + Int32.ofInt 4) (nI 80)) 13 11, [some (.ref 1), some (.int v), none], [], h, 198, sl) = some R := hh
  rw [e4, hI_le (by omega) (by omega)] at hh
  by_cases z : n0 ≤ 76
  · rw [decide_eq_true (show n0 + 4 ≤ 80 by omega)] at hh
    rw [decide_eq_true z]
    obtain ⟨n, hh⟩ := rn_i rfl rfl rfl rfl hh
    obtain ⟨n, hh⟩ := rn_i rfl rfl rfl rfl hh
    have hh : pm_run PT n fr lo 79 (16, [some (.ref 1), some (.int v), some (.int 24)], [], h, 198, sl) = some R := hh
    obtain ⟨n, h1, x1, hh⟩ := ad_step (by decide) (by omega) x hh
    have hh : pm_run PT n fr lo 79 (16, [some (.ref 1), some (.int v), some (.int 16)], [], h1, 198, sl) = some R := hh
    obtain ⟨n, h2, x2, hh⟩ := ad_step (by decide) (by omega) x1 hh
    have hh : pm_run PT n fr lo 79 (16, [some (.ref 1), some (.int v), some (.int 8)], [], h2, 198, sl) = some R := hh
    obtain ⟨n, h3, x3, hh⟩ := ad_step (by decide) (by omega) x2 hh
    have hh : pm_run PT n fr lo 79 (16, [some (.ref 1), some (.int v), some (.int 0)], [], h3, 198, sl) = some R := hh
    obtain ⟨n, h4, x4, hh⟩ := ad_step (by decide) (by omega) x3 hh
    have hh : pm_run PT n fr lo 79 (16, [some (.ref 1), some (.int v), some (.int (-8))], [], h4, 198, sl) = some R := hh
    obtain ⟨n, hh⟩ := rn_i rfl rfl rfl rfl hh
    obtain ⟨n, hh⟩ := rn_if (cc := .lt) (off := 36) (t := 53) rfl rfl hh
    have hh : pm_run PT n fr lo 79 (53, [some (.ref 1), some (.int v), some (.int (-8))], [], h4, 198, sl) = some R := hh
    obtain ⟨n, hh⟩ := rn_i rfl rfl rfl rfl hh
    have e := (rn_ret rfl (Or.inr rfl) hh).2
    subst e
    exact ⟨rfl, rfl, x4⟩
  · rw [decide_eq_false (show ¬ n0 + 4 ≤ 80 by omega)] at hh
    rw [decide_eq_false z]
    obtain ⟨n, hh⟩ := rn_i rfl rfl rfl rfl hh
    exact (rn_ret rfl (Or.inr rfl) hh).2
end SGN
end MG95xex3
section MG95xex4
/-! sign, both sides -/
section SGM
variable {n fr lo sl n0 k pc : Nat} {h h' : pm_H} {R : pm_Rs} {f g : Nat → Int32} {L : pm_L} {r : List Value} {v s : Int32}
def f4 (f : Nat → Int32) (n0 : Nat) (a b c d : Int32) : Nat → Int32 := upd (upd (upd (upd f n0 a) (n0 + 1) b) (n0 + 2) c) (n0 + 3) d
def s1P (ci f : Nat) : Bool := Nat.beq ci 10
def s1K (k : Nat) : Bool := Nat.beq k 79
theorem s1_ok : sf_ok s1P s1K := sf_of (N := [79]) (fun k h => by rw [Nat.eq_of_beq_eq_true h]; decide) (by decide +kernel)
theorem sf1_run {st : pm_St} (hh : pm_run PT n fr lo 79 st = some R) : fm (sfF s1P) st.2.2.2.1 R.2.1 := sf_run s1_ok n fr lo 79 st R rfl hh
theorem sgx_run (hn : n0 ≤ 80) (h0 : x0 h) (x : pT h n0 f) (hh : pm_run PT n fr lo 86 (0, pm_l0 [.ref 0, .int v] 2, [], h, 198, sl) = some R) : cond (decide (n0 ≤ 76)) (R.1 = some (.int (nI (n0 + 4))) ∧ pT R.2.1 (n0 + 4) (f4 f n0 (chX v 24) (chX v 16) (chX v 8) (chX v 0))) (R.1 = some (.int (Int32.ofInt (-1))) ∧ R.2.1 = h) := by
  obtain ⟨fs, a1, a2⟩ := h0
  obtain ⟨n, hh⟩ := rn_i rfl rfl rfl rfl hh
  obtain ⟨n, hh⟩ := rn_gfo (g := 0) rfl rfl (by decide) a1 a2 hh
  obtain ⟨n, hh⟩ := rn_i rfl rfl rfl rfl hh
  obtain ⟨n, fr', lo', r1, hr1, hh⟩ := rn_call (w := 0) (t := 79) rfl rfl hh
  have hx := ad_run hn x hr1
  by_cases z : n0 ≤ 76
  · rw [decide_eq_true z] at hx ⊢
    obtain ⟨e1, e2, x'⟩ := hx
    have hf2 := sf1_run hr1
    obtain ⟨rv, h1, s1⟩ := r1
    dsimp only at e1 e2 x' hf2
    subst e1
    subst e2
    obtain ⟨fs', b1, -, b2⟩ := hf2.2 0 10 fs a1
    obtain ⟨⟨gs, g1, g2, g3⟩, c1⟩ := id x'
    have hh : pm_run PT n fr lo 86 (8, [some (.ref 0), some (.int v)], [.int 1], h1, 198, sl) = some R := hh
    obtain ⟨n, hh⟩ := rn_if (cc := .eq) (off := 13) (t := 21) rfl rfl hh
    have hh : pm_run PT n fr lo 86 (11, [some (.ref 0), some (.int v)], [], h1, 198, sl) = some R := hh
    obtain ⟨n, hh⟩ := rn_i rfl rfl rfl rfl hh
    obtain ⟨n, hh⟩ := rn_gfo (g := 0) rfl rfl (by decide) b1 ((b2 0 rfl).trans a2) hh
    obtain ⟨n, hh⟩ := rn_gfo (g := 1) rfl rfl (by decide) g1 g3 hh
    obtain ⟨n, hh⟩ := rn_i rfl rfl rfl rfl hh
    have e := (rn_ret rfl (Or.inl rfl) hh).2
    subst e
    exact ⟨rfl, x'⟩
  · rw [decide_eq_false z] at hx ⊢
    subst hx
    have hh : pm_run PT n fr lo 86 (8, [some (.ref 0), some (.int v)], [.int 0], h, 198, sl) = some R := hh
    obtain ⟨n, hh⟩ := rn_if (cc := .eq) (off := 13) (t := 21) rfl rfl hh
    have hh : pm_run PT n fr lo 86 (21, [some (.ref 0), some (.int v)], [], h, 198, sl) = some R := hh
    obtain ⟨n, hh⟩ := rn_i rfl rfl rfl rfl hh
    have e := (rn_ret rfl (Or.inl rfl) hh).2
    subst e
    exact ⟨rfl, rfl⟩
/-- one sign of the reference -/
theorem sm_step {i : Nat} {e : Int32} (hi : i < 4) (hn : n0 ≤ 76) (he : (Int8.ofInt 24).toInt32 - (Int8.ofInt 8).toInt32 * nI i = e) (h15 : mF h 15 (.int (nI n0))) (h14 : mF h 14 (.ref 172)) (hA : h 172 = .inl (0, 80, .inl g)) (hh : pm_run PT n fr lo 178 (18, [some (.ref 162), some (.int v), some (.int (nI i))], [], h, 198, sl) = some R) : ∃ m, pm_run PT m fr lo 178 (18, [some (.ref 162), some (.int v), some (.int (nI (i + 1)))], [], aset h 172 80 (upd g (n0 + i) (chM v e)), 198, sl) = some R := by
  obtain ⟨n, hh⟩ := rn_i rfl rfl rfl rfl hh
  obtain ⟨n, hh⟩ := rn_i rfl rfl rfl rfl hh
  obtain ⟨n, hh⟩ := rn_icmp (cc := .ge) (off := 33) (t := 53) rfl rfl hh
  have ec : pm_cmp .ge (nI i) (Int32.ofInt 4) = false := by
    have := hI_ge (a := i) (b := 4) (by omega) (by omega)
    rw [decide_eq_false (by omega)] at this
    exact this
  rw [ec] at hh
  obtain ⟨n, hh⟩ := rn_i rfl rfl rfl rfl hh
  obtain ⟨n, hh⟩ := rn_gfm rfl rfl h14 hh
  obtain ⟨n, hh⟩ := rn_i rfl rfl rfl rfl hh
  obtain ⟨n, hh⟩ := rn_gfm rfl rfl h15 hh
  obtain ⟨n, hh⟩ := rn_i rfl rfl rfl rfl hh
  obtain ⟨n, hh⟩ := rn_i rfl rfl rfl rfl hh
  obtain ⟨n, hh⟩ := rn_i rfl rfl rfl rfl hh
  obtain ⟨n, hh⟩ := rn_i rfl rfl rfl rfl hh
  obtain ⟨n, hh⟩ := rn_i rfl rfl rfl rfl hh
  obtain ⟨n, hh⟩ := rn_i rfl rfl rfl rfl hh
  obtain ⟨n, hh⟩ := rn_i rfl rfl rfl rfl hh
  obtain ⟨n, hh⟩ := rn_i rfl rfl rfl rfl hh
  obtain ⟨n, hh⟩ := rn_i rfl rfl rfl rfl hh
  obtain ⟨n, hh⟩ := rn_i rfl rfl rfl rfl hh
  obtain ⟨n, hh⟩ := rn_i rfl rfl rfl rfl hh
  have e1 : nI n0 + nI i = nI (n0 + i) := nI_add n0 i
  have hh : pm_run PT n fr lo 178 (46, [some (.ref 162), some (.int v), some (.int (nI i))], [.int (chM v ((Int8.ofInt 24).toInt32 - (Int8.ofInt 8).toInt32 * nI i)), .int (nI n0 + nI i), .ref 172], h, 198, sl) = some R := hh
  rw [e1, he] at hh
  obtain ⟨n, hh⟩ := rn_ism rfl hA (hI_in (by omega) (by decide)) (by decide) hh
  rw [nI_clamp (by omega)] at hh
  obtain ⟨n, hh⟩ := rn_i rfl rfl rfl rfl hh
  obtain ⟨n, hh⟩ := rn_i rfl rfl rfl rfl hh
  have e2 : nI i + Int32.ofInt 1 = nI (i + 1) := (Int32.ofNat_add i 1).symm
  have hh : pm_run PT n fr lo 178 (18, [some (.ref 162), some (.int v), some (.int (nI i + Int32.ofInt 1))], [], aset h 172 80 (upd g (n0 + i) (chM v e)), 198, sl) = some R := hh
  rw [e2] at hh
  exact ⟨n, hh⟩
theorem sm_run {w : Int32} (hn : n0 ≤ 80) (h0 : mF h 0 (.int w)) (h15 : mF h 15 (.int (nI n0))) (h14 : mF h 14 (.ref 172)) (hA : h 172 = .inl (0, 80, .inl g)) (hh : pm_run PT n fr lo 178 (0, pm_l0 [.ref 162, .int v] 3, [], h, 198, sl) = some R) : cond (decide (n0 ≤ 76)) (R.1 = some (.int (nI (n0 + 4))) ∧ mF R.2.1 15 (.int (nI (n0 + 4))) ∧ R.2.1 172 = .inl (0, 80, .inl (f4 g n0 (chM v 24) (chM v 16) (chM v 8) (chM v 0)))) (R.1 = some (.int (Int32.ofInt (-1))) ∧ mF R.2.1 15 (.int (nI n0)) ∧ R.2.1 172 = .inl (0, 80, .inl g)) := by
  obtain ⟨n, hh⟩ := rn_i rfl rfl rfl rfl hh
  obtain ⟨n, hh⟩ := rn_i rfl rfl rfl rfl hh
  obtain ⟨n, hh⟩ := rn_pfm (w := .int w) rfl rfl rfl (by decide) h0 hh
  have q15 : mF (mset h 0 (.int (Int32.ofInt 0))) 15 (.int (nI n0)) := mF_ne (by decide) h15
  have q14 : mF (mset h 0 (.int (Int32.ofInt 0))) 14 (.ref 172) := mF_ne (by decide) h14
  have qA : mset h 0 (.int (Int32.ofInt 0)) 172 = .inl (0, 80, .inl g) := mset_arr (by decide) hA
  generalize mset h 0 (.int (Int32.ofInt 0)) = h1 at *
  obtain ⟨n, hh⟩ := rn_i rfl rfl rfl rfl hh
  obtain ⟨n, hh⟩ := rn_gfm rfl rfl q15 hh
  obtain ⟨n, hh⟩ := rn_i rfl rfl rfl rfl hh
  obtain ⟨n, hh⟩ := rn_icmp (cc := .le) (off := 5) (t := 16) rfl rfl hh
  have hh : pm_run PT n fr lo 178 (cond (pm_cmp .le (nI n0) (nI 76)) 16 14, [some (.ref 162), some (.int v), none], [], h1, 198, sl) = some R := hh
  rw [hI_le (by omega) (by omega)] at hh
  by_cases z : n0 ≤ 76
  · rw [decide_eq_true z] at hh ⊢
    obtain ⟨n, hh⟩ := rn_i rfl rfl rfl rfl hh
    obtain ⟨n, hh⟩ := rn_i rfl rfl rfl rfl hh
    have hh : pm_run PT n fr lo 178 (18, [some (.ref 162), some (.int v), some (.int (nI 0))], [], h1, 198, sl) = some R := hh
    obtain ⟨n, hh⟩ := sm_step (i := 0) (e := 24) (by decide) z (by decide) q15 q14 qA hh
    obtain ⟨n, hh⟩ := sm_step (i := 1) (e := 16) (by decide) z (by decide) (aset_mF (by decide) q15) (aset_mF (by decide) q14) asR_self hh
    obtain ⟨n, hh⟩ := sm_step (i := 2) (e := 8) (by decide) z (by decide) (aset_mF (by decide) (aset_mF (by decide) q15)) (aset_mF (by decide) (aset_mF (by decide) q14)) asR_self hh
    obtain ⟨n, hh⟩ := sm_step (i := 3) (e := 0) (by decide) z (by decide) (aset_mF (by decide) (aset_mF (by decide) (aset_mF (by decide) q15))) (aset_mF (by decide) (aset_mF (by decide) (aset_mF (by decide) q14))) asR_self hh
    have q15' : mF (aset (aset (aset (aset h1 172 80 (upd g (n0 + 0) (chM v 24))) 172 80 (upd (upd g (n0 + 0) (chM v 24)) (n0 + 1) (chM v 16))) 172 80 (upd (upd (upd g (n0 + 0) (chM v 24)) (n0 + 1) (chM v 16)) (n0 + 2) (chM v 8))) 172 80 (upd (upd (upd (upd g (n0 + 0) (chM v 24)) (n0 + 1) (chM v 16)) (n0 + 2) (chM v 8)) (n0 + 3) (chM v 0))) 15 (.int (nI n0)) := aset_mF (by decide) (aset_mF (by decide) (aset_mF (by decide) (aset_mF (by decide) q15)))
    obtain ⟨n, hh⟩ := rn_i rfl rfl rfl rfl hh
    obtain ⟨n, hh⟩ := rn_i rfl rfl rfl rfl hh
    obtain ⟨n, hh⟩ := rn_icmp (cc := .ge) (off := 33) (t := 53) rfl rfl hh
    have hh : pm_run PT n fr lo 178 (53, [some (.ref 162), some (.int v), some (.int (nI 4))], [], _, 198, sl) = some R := hh
    obtain ⟨n, hh⟩ := rn_i rfl rfl rfl rfl hh
    obtain ⟨n, hh⟩ := rn_i rfl rfl rfl rfl hh
    obtain ⟨n, hh⟩ := rn_gfm rfl rfl q15' hh
    obtain ⟨n, hh⟩ := rn_i rfl rfl rfl rfl hh
    obtain ⟨n, hh⟩ := rn_i rfl rfl rfl rfl hh
    obtain ⟨n, hh⟩ := rn_pfm (w := .int (nI n0)) rfl rfl rfl (by decide) q15' hh
    have e4 : nI n0 + Int32.ofInt 4 = nI (n0 + 4) := (Int32.ofNat_add n0 4).symm
    have qq := mF_self (v := .int (nI n0 + Int32.ofInt 4)) q15'
    obtain ⟨n, hh⟩ := rn_i rfl rfl rfl rfl hh
    obtain ⟨n, hh⟩ := rn_gfm rfl rfl qq hh
    have e := (rn_ret rfl (Or.inl rfl) hh).2
    subst e
    refine ⟨congrArg (fun q => some (Value.int q)) e4, e4 ▸ qq, mset_arr (by decide) asR_self⟩
  · rw [decide_eq_false z] at hh ⊢
    obtain ⟨n, hh⟩ := rn_i rfl rfl rfl rfl hh
    have e := (rn_ret rfl (Or.inl rfl) hh).2
    subst e
    exact ⟨rfl, q15, qA⟩
end SGM
end MG95xex4
section MG95xex5
/-! the signs: bits alone -/
section CHE
variable {v s : Int32}
theorem m255 : ∀ i : Fin 32, (255#32).getLsbD i.val = decide (i.val < 8) := by decide
theorem ch_b (x y : BitVec 32) (h : ∀ i, i < 8 → x.getLsbD i = y.getLsbD i) : x &&& 255#32 = y &&& 255#32 := by
  apply BitVec.eq_of_getLsbD_eq
  intro i hi
  rw [BitVec.getLsbD_and, BitVec.getLsbD_and, m255 ⟨i, hi⟩]
  by_cases z : i < 8
  · rw [h i z]
  · simp [z]
theorem ch_s (x : BitVec 32) (k : Nat) (hk : k ≤ 24) : (x >>> k) &&& 255#32 = (x.sshiftRight k) &&& 255#32 := by
  refine ch_b _ _ (fun i hi => ?_)
  rw [BitVec.getLsbD_ushiftRight, BitVec.getLsbD_sshiftRight]
  have h1 : ¬ 32 ≤ i := by omega
  have h2 : k + i < 32 := by omega
  simp [h1, h2]
theorem and_lt (b : BitVec 32) : (b &&& 255#32).toNat < 256 := by
  rw [BitVec.toNat_and]
  exact Nat.lt_of_le_of_lt Nat.and_le_right (by decide)
theorem mod_id {x : UInt32} (h : x.toNat < 256) : x % 65536 = x := by
  apply UInt32.toNat_inj.1
  rw [UInt32.toNat_mod]
  exact Nat.mod_eq_of_lt (by show x.toNat < 65536; omega)
theorem nar_id {y : Int32} (h : y.toUInt32.toNat < 256) : vp_nar .char y = y := by
  show (y.toUInt32 % 65536).toInt32 = y
  rw [mod_id h]
  exact Int32.toInt32_toUInt32 y
theorem ch_gen {k : Nat} (hk : k ≤ 24) (hx : ((v.toUInt32 >>> (s.toUInt32 &&& Int32.toUInt32 31)).toInt32).toBitVec = v.toBitVec >>> k) (hm : (v >>> (s &&& 31)).toBitVec = v.toBitVec.sshiftRight k) : chX v s = chM v s := by
  have e1 : ((v.toUInt32 >>> (s.toUInt32 &&& Int32.toUInt32 31)).toInt32 &&& (Int16.ofInt 255).toInt32).toBitVec = (v.toBitVec >>> k) &&& 255#32 := by
    rw [Int32.toBitVec_and, hx]
    rfl
  have e2 : (chM v s).toBitVec = (v.toBitVec.sshiftRight k) &&& 255#32 := by
    unfold chM
    rw [Int32.toBitVec_and, hm]
    rfl
  unfold chX
  generalize ((v.toUInt32 >>> (s.toUInt32 &&& Int32.toUInt32 31)).toInt32 &&& (Int16.ofInt 255).toInt32) = z at e1 ⊢
  have hz : z.toUInt32.toNat < 256 := by
    show z.toBitVec.toNat < 256
    rw [e1]
    exact and_lt _
  rw [mod_id hz, Int32.toInt32_toUInt32, nar_id hz]
  apply Int32.toBitVec_inj.1
  rw [e1, e2, ch_s _ k hk]
theorem ch_24 : chX v 24 = chM v 24 := ch_gen (k := 24) (by decide) rfl rfl
theorem ch_16 : chX v 16 = chM v 16 := ch_gen (k := 16) (by decide) rfl rfl
theorem ch_8 : chX v 8 = chM v 8 := ch_gen (k := 8) (by decide) rfl rfl
theorem ch_0 : chX v 0 = chM v 0 := ch_gen (k := 0) (by decide) rfl rfl
end CHE
end MG95xex5
