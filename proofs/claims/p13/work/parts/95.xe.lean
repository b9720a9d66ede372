/-! the class's courts -/
section CXC
variable {n fr lo sl n0 cc k pc p l ln t : Nat} {h h' : pm_H} {R : pm_Rs} {f : Nat → Int32}
theorem dgi_of : dgi f p t 1 9 = (dg f p t && !(decide (f p - 48 = 0))) := by
  cases hd : dg f p t with
  | true =>
    obtain ⟨v1, v2⟩ := dg_val hd
    have hlt := dg_lt hd
    unfold dgi in_b
    rw [decide_eq_true hlt]
    have n1 : ((1 : Int32).toInt64).toInt = 1 := by decide
    have n9 : ((9 : Int32).toInt64).toInt = 9 := by decide
    have a2 : ¬ (9 : Int32).toInt64 < (f p - 48).toInt64 := by
      rw [Int64.lt_iff_toInt_lt, n9, Int32.toInt_toInt64]
      omega
    by_cases z : f p - 48 = 0
    · rw [z]
      decide
    · have a1 : ¬ (f p - 48).toInt64 < (1 : Int32).toInt64 := by
        rw [Int64.lt_iff_toInt_lt, n1, Int32.toInt_toInt64]
        intro q
        exact z (Int32.toInt_inj.1 (by rw [show (0 : Int32).toInt = 0 by decide]; omega))
      rw [decide_eq_false a1, decide_eq_false a2, decide_eq_false z]
      rfl
  | false =>
    cases hi : dgi f p t 1 9 with
    | false => rfl
    | true =>
      exfalso
      unfold dgi in_b at hi
      rw [Bool.and_eq_true, Bool.and_eq_true] at hi
      have hlt := of_decide_eq_true hi.1
      have e1 : ¬ (f p - 48).toInt64 < (1 : Int32).toInt64 := by simpa using hi.2.1
      have e2 : ¬ (9 : Int32).toInt64 < (f p - 48).toInt64 := by simpa using hi.2.2
      rw [Int64.lt_iff_toInt_lt, Int32.toInt_toInt64, Int32.toInt_toInt64, show (1 : Int32).toInt = 1 by decide] at e1
      rw [Int64.lt_iff_toInt_lt, Int32.toInt_toInt64, Int32.toInt_toInt64, show (9 : Int32).toInt = 9 by decide] at e2
      have ef : f p = (f p - 48) + 48 := by simp
      have ei : (f p).toInt = (f p - 48).toInt + 48 := by
        have q := congrArg Int32.toInt ef
        rw [Int32.toInt_add, show (48 : Int32).toInt = 48 by decide, Int.bmod_eq_of_le (by omega) (by omega)] at q
        exact q
      have : dg f p t = true := by
        unfold dg
        rw [decide_eq_true hlt]
        refine (Bool.true_and _).trans (dg_in ?_ ?_)
        · refine decide_eq_false (fun q => ?_)
          rw [Int32.lt_iff_toInt_lt, nI_toInt (by decide)] at q
          omega
        · refine decide_eq_false (fun q => ?_)
          rw [Int32.lt_iff_toInt_lt, nI_toInt (by decide)] at q
          omega
      rw [this] at hd
      cases hd
theorem xr_first (hn : n0 ≤ 80) {ct : Int32} {x5 : Option Value} (hp : p < 800) (x : pX h n0 cc f) (hh : pm_run PT n fr lo 129 (45, [some (.ref 0), some (.int (nI p)), some (.int (nI ln)), some (.int ct), some (.int (nI 0)), x5], [], h, 198, sl) = some R) : cond (rcC f (min n0 41) p).1 (∃ m h' y5, pX h' n0 cc f ∧ pm_run PT m fr lo 129 (104, [some (.ref 0), some (.int (nI (rcC f (min n0 41) p).2)), some (.int (nI ln)), some (.int ct), some (.int (nI 6)), y5], [], h', 198, sl) = some R) (R.1 = some (.int (Int32.ofInt (-1) - nI (rcC f (min n0 41) p).2))) := by
  obtain ⟨⟨fs, a1, a2, a3⟩, -⟩ := id x
  obtain ⟨n, hh⟩ := rn_i rfl rfl rfl rfl hh
  obtain ⟨n, hh⟩ := rn_i rfl rfl rfl rfl hh
  obtain ⟨n, hh⟩ := rn_icmp (cc := .ge) (off := 55) (t := 104) rfl rfl hh
  have hh : pm_run PT n fr lo 129 (52, [some (.ref 0), some (.int (nI p)), some (.int (nI ln)), some (.int ct), some (.int (nI 0)), x5], [], h, 198, sl) = some R := hh
  obtain ⟨n, hh⟩ := rn_i rfl rfl rfl rfl hh
  obtain ⟨n, hh⟩ := rn_gfo (g := 0) rfl rfl (by decide) a1 a2 hh
  obtain ⟨n, hh⟩ := rn_i rfl rfl rfl rfl hh
  obtain ⟨n, hh⟩ := rn_i rfl rfl rfl rfl hh
  obtain ⟨n, fr', lo', r1, hr1, hh⟩ := rn_call (w := 0) (t := 81) rfl rfl hh
  have er := dgA_run (l := 41) hn (by decide) (by omega) x hr1
  subst er
  have hh : pm_run PT n fr lo 129 (62, [some (.ref 0), some (.int (nI p)), some (.int (nI ln)), some (.int ct), some (.int (nI 0)), x5], [.int (dgA f n0 p 41)], h, 198, sl) = some R := hh
  obtain ⟨n, hh⟩ := rn_i rfl rfl rfl rfl hh
  obtain ⟨n, hh⟩ := rn_i rfl rfl rfl rfl hh
  obtain ⟨n, hh⟩ := rn_if (cc := .lt) (off := 13) (t := 79) rfl rfl hh
  unfold rcC
  rw [dgi_of]
  cases hd : dg f p (min n0 41) with
  | false =>
    rw [dgA_no hd, show pm_cmp .lt (Int32.ofInt (-1)) 0 = true by decide] at hh
    rw [xr_m1 hh]
    rfl
  | true =>
    obtain ⟨v1, v2⟩ := dg_val hd
    rw [dgA_yes hd, lt0_val v1] at hh
    have hh : pm_run PT n fr lo 129 (69, [some (.ref 0), some (.int (nI p)), some (.int (nI ln)), some (.int ct), some (.int (nI 0)), some (.int (f p - 48))], [], h, 198, sl) = some R := hh
    obtain ⟨n, hh⟩ := rn_i rfl rfl rfl rfl hh
    obtain ⟨n, hh⟩ := rn_if (cc := .ne) (off := 12) (t := 83) rfl rfl hh
    have hh : pm_run PT n fr lo 129 (74, [some (.ref 0), some (.int (nI p)), some (.int (nI ln)), some (.int ct), some (.int (nI 0)), some (.int (f p - 48))], [], h, 198, sl) = some R := hh
    obtain ⟨n, hh⟩ := rn_i rfl rfl rfl rfl hh
    obtain ⟨n, hh⟩ := rn_if (cc := .ne) (off := 7) (t := 83) rfl rfl hh
    by_cases z : f p - 48 = 0
    · rw [show pm_cmp .ne (f p - 48) 0 = false from decide_eq_false (fun q => q z)] at hh
      rw [decide_eq_true z]
      rw [xr_m1 hh]
      rfl
    · rw [show pm_cmp .ne (f p - 48) 0 = true from decide_eq_true z] at hh
      rw [decide_eq_false z]
      have hh : pm_run PT n fr lo 129 (83, [some (.ref 0), some (.int (nI p)), some (.int (nI ln)), some (.int ct), some (.int (nI 0)), some (.int (f p - 48))], [], h, 198, sl) = some R := hh
      obtain ⟨n, hh⟩ := rn_i rfl rfl rfl rfl hh
      obtain ⟨n, hh⟩ := rn_gfo (g := 2) rfl rfl (by decide) a1 a3 hh
      obtain ⟨n, hh⟩ := rn_i rfl rfl rfl rfl hh
      obtain ⟨n, hh⟩ := rn_i rfl rfl rfl rfl hh
      obtain ⟨n, hh⟩ := rn_i rfl rfl rfl rfl hh
      obtain ⟨n, fr', lo', r1, hr1, hh⟩ := rn_call (w := 0) (t := 26) rfl rfl hh
      have hf := sf_run sQ_ok _ _ _ 26 _ r1 rfl hr1
      have hk := ak_run (by decide) sQ_ak _ _ _ 26 _ r1 rfl hr1
      have hz := sz_run sQ_ok _ _ _ 26 _ r1 rfl hr1
      have hv := vd_run rfl hr1
      obtain ⟨rv, h1, s1⟩ := r1
      dsimp only at hf hk hz hv
      subst hz
      subst hv
      have x1 := pX_fm hf hk x
      have hh : pm_run PT n fr lo 129 (95, [some (.ref 0), some (.int (nI p)), some (.int (nI ln)), some (.int ct), some (.int (nI 0)), some (.int (f p - 48))], [], h1, 198, sl) = some R := hh
      obtain ⟨n, hh⟩ := rn_i rfl rfl rfl rfl hh
      obtain ⟨n, hh⟩ := rn_i rfl rfl rfl rfl hh
      obtain ⟨n, hh⟩ := rn_i rfl rfl rfl rfl hh
      have e1 : nI p + Int32.ofInt 1 = nI (p + 1) := (Int32.ofNat_add p 1).symm
      have hh : pm_run PT n fr lo 129 (45, [some (.ref 0), some (.int (nI p + Int32.ofInt 1)), some (.int (nI ln)), some (.int ct), some (.int (nI 1)), some (.int (f p - 48))], [], h1, 198, sl) = some R := hh
      rw [e1] at hh
      exact xr_dig hn 5 1 (p + 1) n h1 _ rfl (by decide) (by omega) x1 hh
/-- what the class answers, by how far it came -/
def xA (n0 : Nat) (s : Bool × Nat × Nat) : Int32 := cond (s.1 && decide (s.2.1 = n0)) (nI s.2.2) (Int32.ofInt (-1) - nI s.2.1)
theorem xr_loop (hn : n0 ≤ 80) : ∀ (k ln p n : Nat) (h : pm_H) (x3 x4 x5 : Option Value), cc + ln + k = 7 → 0 < k → p ≤ min n0 41 → pX h n0 cc f → pm_run PT n fr lo 129 (16, [some (.ref 0), some (.int (nI p)), some (.int (nI ln)), x3, x4, x5], [], h, 198, sl) = some R → R.1 = some (.int (xA n0 (spL f (min n0 41) cc k ln p))) := by
  intro k
  induction k with
  | zero => intro ln p n h x3 x4 x5 hk h0; exact absurd h0 (by omega)
  | succ k ih =>
    intro ln p n h x3 x4 x5 hk h0 hp x hh
    obtain ⟨⟨fs, a1, a2, a3⟩, ⟨gs, g1, g2, g3⟩, c1, rs, d1, d2⟩ := id x
    unfold spL
    obtain ⟨n, hh⟩ := rn_i rfl rfl rfl rfl hh
    obtain ⟨n, hh⟩ := rn_i rfl rfl rfl rfl hh
    obtain ⟨n, hh⟩ := rn_icmp (cc := .ge) (off := 128) (t := 147) rfl rfl hh
    have ec : pm_cmp .ge (nI ln) (Int8.ofInt 6).toInt32 = decide (6 ≤ ln) := hI_ge (a := ln) (b := 6) (by omega) (by omega)
    rw [ec] at hh
    by_cases z6 : 6 ≤ ln
    · rw [decide_eq_true z6] at hh
      rw [decide_eq_true (show cc + ln = 6 by omega)]
      obtain ⟨n, hh⟩ := rn_i rfl rfl rfl rfl hh
      obtain ⟨n, hh⟩ := rn_i rfl rfl rfl rfl hh
      obtain ⟨n, hh⟩ := rn_i rfl rfl rfl rfl hh
      rw [(rn_ret rfl (Or.inl rfl) hh).2]
      rfl
    · rw [decide_eq_false z6] at hh
      obtain ⟨n, hh⟩ := rn_i rfl rfl rfl rfl hh
      obtain ⟨n, hh⟩ := rn_gfo (g := 2) rfl rfl (by decide) a1 a3 hh
      obtain ⟨n, hh⟩ := rn_gfo (g := 0) rfl rfl (by decide) d1 d2 hh
      obtain ⟨n, hh⟩ := rn_i rfl rfl rfl rfl hh
      obtain ⟨n, hh⟩ := rn_i rfl rfl rfl rfl hh
      obtain ⟨n, hh⟩ := rn_i rfl rfl rfl rfl hh
      obtain ⟨n, hh⟩ := rn_i rfl rfl rfl rfl hh
      obtain ⟨n, hh⟩ := rn_i rfl rfl rfl rfl hh
      obtain ⟨n, hh⟩ := rn_icmp (cc := .lt) (off := 7) (t := 42) rfl rfl hh
      have ea : nI cc + nI ln = nI (cc + ln) := nI_add cc ln
      have hh : pm_run PT n fr lo 129 (cond (pm_cmp .lt (nI cc + nI ln) (nI 6)) 42 38, [some (.ref 0), some (.int (nI p)), some (.int (nI ln)), some (.int (nI cc + nI ln)), x4, x5], [], h, 198, sl) = some R := hh
      rw [ea, hI_lt (by omega) (by omega)] at hh
      by_cases z : cc + ln = 6
      · rw [decide_eq_false (by omega)] at hh
        rw [decide_eq_true z]
        obtain ⟨n, hh⟩ := rn_i rfl rfl rfl rfl hh
        obtain ⟨n, hh⟩ := rn_i rfl rfl rfl rfl hh
        obtain ⟨n, hh⟩ := rn_i rfl rfl rfl rfl hh
        rw [(rn_ret rfl (Or.inl rfl) hh).2]
        rfl
      · rw [decide_eq_true (by omega)] at hh
        rw [decide_eq_false z]
        have hh : pm_run PT n fr lo 129 (42, [some (.ref 0), some (.int (nI p)), some (.int (nI ln)), some (.int (nI (cc + ln))), x4, x5], [], h, 198, sl) = some R := hh
        obtain ⟨n, hh⟩ := rn_i rfl rfl rfl rfl hh
        obtain ⟨n, hh⟩ := rn_i rfl rfl rfl rfl hh
        have hq := xr_first hn (by omega) x hh
        have hle := rcC_le (tp := f) hp
        dsimp only [cond]
        cases y : (rcC f (min n0 41) p).1 with
        | false =>
          rw [y] at hq
          exact hq
        | true =>
          rw [y] at hq
          obtain ⟨n, h', y5, x', hh⟩ := hq
          generalize (rcC f (min n0 41) p).2 = b at *
          obtain ⟨⟨fs, a1, a2, a3⟩, ⟨gs, g1, g2, g3⟩, -⟩ := id x'
          obtain ⟨n, hh⟩ := rn_i rfl rfl rfl rfl hh
          obtain ⟨n, hh⟩ := rn_i rfl rfl rfl rfl hh
          obtain ⟨n, hh⟩ := rn_gfo (g := 0) rfl rfl (by decide) a1 a2 hh
          obtain ⟨n, hh⟩ := rn_gfo (g := 1) rfl rfl (by decide) g1 g3 hh
          obtain ⟨n, hh⟩ := rn_icmp (cc := .ne) (off := 7) (t := 119) rfl rfl hh
          rw [hI_ne (by omega) (by omega)] at hh
          by_cases w : b = n0
          · rw [decide_eq_false (fun q => q w)] at hh
            rw [decide_eq_false (by omega)]
            obtain ⟨n, hh⟩ := rn_i rfl rfl rfl rfl hh
            obtain ⟨n, hh⟩ := rn_i rfl rfl rfl rfl hh
            obtain ⟨n, hh⟩ := rn_i rfl rfl rfl rfl hh
            have e1 : nI ln + Int32.ofInt 1 = nI (ln + 1) := (Int32.ofNat_add ln 1).symm
            rw [(rn_ret rfl (Or.inl rfl) hh).2]
            unfold xA
            dsimp only
            rw [decide_eq_true w]
            exact congrArg (fun q => some (Value.int q)) e1
          · rw [decide_eq_true w] at hh
            have hh : pm_run PT n fr lo 129 (119, [some (.ref 0), some (.int (nI b)), some (.int (nI ln)), some (.int (nI (cc + ln))), some (.int (nI 6)), y5], [], h', 198, sl) = some R := hh
            obtain ⟨n, hh⟩ := rn_i rfl rfl rfl rfl hh
            obtain ⟨n, hh⟩ := rn_gfo (g := 0) rfl rfl (by decide) a1 a2 hh
            obtain ⟨n, hh⟩ := rn_i rfl rfl rfl rfl hh
            obtain ⟨n, hh⟩ := rn_i rfl rfl rfl rfl hh
            obtain ⟨n, fr', lo', r1, hr1, hh⟩ := rn_call (w := 0) (t := 80) rfl rfl hh
            have er := sgA_run (l := 41) hn (by decide) (by omega) x' hr1
            subst er
            have hh : pm_run PT n fr lo 129 (129, [some (.ref 0), some (.int (nI b)), some (.int (nI ln)), some (.int (nI (cc + ln))), some (.int (nI 6)), y5], [.int (sgA f n0 b 41)], h', 198, sl) = some R := hh
            obtain ⟨n, hh⟩ := rn_i rfl rfl rfl rfl hh
            obtain ⟨n, hh⟩ := rn_icmp (cc := .eq) (off := 7) (t := 138) rfl rfl hh
            have hh : pm_run PT n fr lo 129 (cond (pm_cmp .eq (sgA f n0 b 41) 59) 138 134, [some (.ref 0), some (.int (nI b)), some (.int (nI ln)), some (.int (nI (cc + ln))), some (.int (nI 6)), y5], [], h', 198, sl) = some R := hh
            have es : pm_cmp .eq (sgA f n0 b 41) 59 = decide (b < min n0 41 ∧ f b = 59) := by
              unfold sgA
              by_cases q : b < min n0 41
              · rw [decide_eq_true q]
                show decide (f b = 59) = _
                rw [Bool.eq_iff_iff, decide_eq_true_iff, decide_eq_true_iff]
                exact ⟨fun e => ⟨q, e⟩, fun e => e.2⟩
              · rw [decide_eq_false q, decide_eq_false (fun e => q e.1)]
                show pm_cmp .eq (Int32.ofInt (-1)) 59 = false
                decide
            rw [es] at hh
            cases v : decide (b < min n0 41 ∧ f b = 59) with
            | false =>
              rw [v] at hh
              obtain ⟨n, hh⟩ := rn_i rfl rfl rfl rfl hh
              obtain ⟨n, hh⟩ := rn_i rfl rfl rfl rfl hh
              obtain ⟨n, hh⟩ := rn_i rfl rfl rfl rfl hh
              rw [(rn_ret rfl (Or.inl rfl) hh).2]
              unfold xA
              dsimp only
              rw [decide_eq_false w]
              rfl
            | true =>
              rw [v] at hh
              have vv := of_decide_eq_true v
              obtain ⟨n, hh⟩ := rn_i rfl rfl rfl rfl hh
              obtain ⟨n, hh⟩ := rn_i rfl rfl rfl rfl hh
              obtain ⟨n, hh⟩ := rn_i rfl rfl rfl rfl hh
              have e1 : nI b + Int32.ofInt 1 = nI (b + 1) := (Int32.ofNat_add b 1).symm
              have e2 : nI ln + Int32.ofInt 1 = nI (ln + 1) := (Int32.ofNat_add ln 1).symm
              have hh : pm_run PT n fr lo 129 (16, [some (.ref 0), some (.int (nI b + Int32.ofInt 1)), some (.int (nI ln + Int32.ofInt 1)), some (.int (nI (cc + ln))), some (.int (nI 6)), y5], [], h', 198, sl) = some R := hh
              rw [e1, e2] at hh
              exact ih (ln + 1) (b + 1) n h' _ _ _ (by omega) (by omega) (by omega) x' hh
end CXC
