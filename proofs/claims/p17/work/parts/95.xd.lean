section MH95xdx0
/-! the class's readCourts -/
section CXL
variable {n fr lo sl n0 cc k pc p l ln : Nat} {h h' : pm_H} {R : pm_Rs} {f : Nat → Int32}
def sQ (ci f : Nat) : Bool := (Nat.beq ci 10 && (Nat.beq f 0 || Nat.beq f 2)) || ((Nat.beq ci 8 && Nat.ble f 1) || (Nat.beq ci 3 && Nat.beq f 0))
def sQX : List Nat := [0, 6, 15, 22, 45, 52, 57, 72, 78, 79, 82, 85, 86, 87, 88, 89, 90, 91, 92, 93, 100, 122, 128, 161]
def sQK : Nat → Bool := sf_X sQX
theorem sQ_all : ((List.range 271).filter (fun k => !(sQX.any (fun x => Nat.beq x k)))).all (fun k => sf_b sQ sQK k && ak_b 1 sQK k) = true := gz_lift (X := sQX) (g := fun k => gz_sg sQ sQK k && gz_ag 1 sQK k) (by decide +kernel) (gz_2 gz_sf gz_ak) (by decide +kernel)
theorem sQ_ok : sf_ok sQ sQK := sf_of sf_X_in (List.all_eq_true.mpr (fun k hk => ((Bool.and_eq_true _ _).mp (List.all_eq_true.mp sQ_all k hk)).1))
theorem sQ_ak : ak_ok 1 sQK := ak_of sf_X_in (List.all_eq_true.mpr (fun k hk => ((Bool.and_eq_true _ _).mp (List.all_eq_true.mp sQ_all k hk)).2))
theorem pX_fm (q : fm (sfF sQ) h h') (a : akp 1 h h') (x : pX h n0 cc f) : pX h' n0 cc f := by
  obtain ⟨⟨fs, a1, a2, a3⟩, ⟨gs, b1, b2, b3⟩, c1, rs, d1, d2⟩ := x
  obtain ⟨fs', e1, -, e2⟩ := q.2 0 10 fs a1
  obtain ⟨gs', g1, -, g2⟩ := q.2 1 8 gs b1
  obtain ⟨rs', i1, -, i2⟩ := q.2 5 3 rs d1
  exact ⟨⟨fs', e1, (e2 0 rfl).trans a2, (e2 2 rfl).trans a3⟩, ⟨gs', g1, (g2 0 rfl).trans b2, (g2 1 rfl).trans b3⟩, a 2 _ c1, rs', i1, (i2 0 rfl).trans d2⟩
theorem dgA_no (z : dg f p (min n0 l) = false) : dgA f n0 p l = Int32.ofInt (-1) := by
  unfold dgA
  rw [z]
  rfl
theorem dgA_yes (z : dg f p (min n0 l) = true) : dgA f n0 p l = f p - 48 := by
  unfold dgA
  rw [z]
  rfl
theorem xr_m1 {x3 x4 x5 : Option Value} (hh : pm_run PT n fr lo 129 (79, [some (.ref 0), some (.int (nI p)), some (.int (nI ln)), x3, x4, x5], [], h, 198, sl) = some R) : R = (some (.int (Int32.ofInt (-1) - nI p)), h, 198, sl) := by
  obtain ⟨n, hh⟩ := rn_i rfl rfl rfl rfl hh
  obtain ⟨n, hh⟩ := rn_i rfl rfl rfl rfl hh
  obtain ⟨n, hh⟩ := rn_i rfl rfl rfl rfl hh
  exact (rn_ret rfl (Or.inl rfl) hh).2
/-- digits behind the first -/
theorem xr_dig (hn : n0 ≤ 80) {ct : Int32} : ∀ (k i p n : Nat) (h : pm_H) (x5 : Option Value), i + k = 6 → 0 < i → p < 900 → pX h n0 cc f → pm_run PT n fr lo 129 (45, [some (.ref 0), some (.int (nI p)), some (.int (nI ln)), some (.int ct), some (.int (nI i)), x5], [], h, 198, sl) = some R → cond (rcD f (min n0 41) k p).1 (∃ m h' y5, pX h' n0 cc f ∧ pm_run PT m fr lo 129 (104, [some (.ref 0), some (.int (nI (rcD f (min n0 41) k p).2)), some (.int (nI ln)), some (.int ct), some (.int (nI 6)), y5], [], h', 198, sl) = some R) (R.1 = some (.int (Int32.ofInt (-1) - nI (rcD f (min n0 41) k p).2))) := by
  intro k
  induction k with
  | zero =>
    intro i p n h x5 hi h0 hp x hh
    have hi : i = 6 := by omega
    subst hi
    obtain ⟨n, hh⟩ := rn_i rfl rfl rfl rfl hh
    obtain ⟨n, hh⟩ := rn_i rfl rfl rfl rfl hh
    obtain ⟨n, hh⟩ := rn_icmp (cc := .ge) (off := 55) (t := 104) rfl rfl hh
    exact ⟨n, h, x5, x, hh⟩
  | succ k ih =>
    intro i p n h x5 hi h0 hp x hh
    obtain ⟨⟨fs, a1, a2, a3⟩, -⟩ := id x
    obtain ⟨n, hh⟩ := rn_i rfl rfl rfl rfl hh
    obtain ⟨n, hh⟩ := rn_i rfl rfl rfl rfl hh
    obtain ⟨n, hh⟩ := rn_icmp (cc := .ge) (off := 55) (t := 104) rfl rfl hh
    have ec : pm_cmp .ge (nI i) (Int8.ofInt 6).toInt32 = false := by
      have := hI_ge (a := i) (b := 6) (by omega) (by omega)
      rw [decide_eq_false (by omega)] at this
      exact this
    rw [ec] at hh
    obtain ⟨n, hh⟩ := rn_i rfl rfl rfl rfl hh
    obtain ⟨n, hh⟩ := rn_gfo (g := 0) rfl rfl (by decide) a1 a2 hh
    obtain ⟨n, hh⟩ := rn_i rfl rfl rfl rfl hh
    obtain ⟨n, hh⟩ := rn_i rfl rfl rfl rfl hh
    obtain ⟨n, fr', lo', r1, hr1, hh⟩ := rn_call (w := 0) (t := 81) rfl rfl hh
    have er := dgA_run (l := 41) hn (by decide) (by omega) x hr1
    subst er
    have hh : pm_run PT n fr lo 129 (62, [some (.ref 0), some (.int (nI p)), some (.int (nI ln)), some (.int ct), some (.int (nI i)), x5], [.int (dgA f n0 p 41)], h, 198, sl) = some R := hh
    obtain ⟨n, hh⟩ := rn_i rfl rfl rfl rfl hh
    obtain ⟨n, hh⟩ := rn_i rfl rfl rfl rfl hh
    obtain ⟨n, hh⟩ := rn_if (cc := .lt) (off := 13) (t := 79) rfl rfl hh
    unfold rcD
    cases hd : dg f p (min n0 41) with
    | false =>
      rw [dgA_no hd, show pm_cmp .lt (Int32.ofInt (-1)) 0 = true by decide] at hh
      rw [xr_m1 hh]
      rfl
    | true =>
      obtain ⟨v1, v2⟩ := dg_val hd
      rw [dgA_yes hd, lt0_val v1] at hh
      have hh : pm_run PT n fr lo 129 (69, [some (.ref 0), some (.int (nI p)), some (.int (nI ln)), some (.int ct), some (.int (nI i)), some (.int (f p - 48))], [], h, 198, sl) = some R := hh
      obtain ⟨n, hh⟩ := rn_i rfl rfl rfl rfl hh
      obtain ⟨n, hh⟩ := rn_if (cc := .ne) (off := 12) (t := 83) rfl rfl hh
      have en : pm_cmp .ne (nI i) 0 = true := by
        have := hI_ne (a := i) (b := 0) (by omega) (by omega)
        rw [decide_eq_true (by omega)] at this
        exact this
      rw [en] at hh
      have hh : pm_run PT n fr lo 129 (83, [some (.ref 0), some (.int (nI p)), some (.int (nI ln)), some (.int ct), some (.int (nI i)), some (.int (f p - 48))], [], h, 198, sl) = some R := hh
      obtain ⟨n, hh⟩ := rn_i rfl rfl rfl rfl hh
      obtain ⟨n, hh⟩ := rn_gfo (g := 2) rfl rfl (by decide) a1 a3 hh
      obtain ⟨n, hh⟩ := rn_i rfl rfl rfl rfl hh
      obtain ⟨n, hh⟩ := rn_i rfl rfl rfl rfl hh
      obtain ⟨n, hh⟩ := rn_i rfl rfl rfl rfl hh
      obtain ⟨n, fr', lo', r1, hr1, hh⟩ := rn_call (w := 0) (t := 26) rfl rfl hh
      have hf := sf_run sQ_ok _ _ _ 26 _ r1 rfl hr1
      have hk := ak_run (by decide) sQ_ak _ _ _ 26 _ r1 rfl hr1
      have hz := sz_run sQ_ok _ _ _ 26 _ r1 rfl hr1
      have hv := vd_run rfl hr1
      obtain ⟨rv, h1, s1⟩ := r1
      dsimp only at hf hk hz hv
      subst hz
      subst hv
      have x1 := pX_fm hf hk x
      have hh : pm_run PT n fr lo 129 (95, [some (.ref 0), some (.int (nI p)), some (.int (nI ln)), some (.int ct), some (.int (nI i)), some (.int (f p - 48))], [], h1, 198, sl) = some R := hh
      obtain ⟨n, hh⟩ := rn_i rfl rfl rfl rfl hh
      obtain ⟨n, hh⟩ := rn_i rfl rfl rfl rfl hh
      obtain ⟨n, hh⟩ := rn_i rfl rfl rfl rfl hh
      have e1 : nI p + Int32.ofInt 1 = nI (p + 1) := (Int32.ofNat_add p 1).symm
      have e2 : nI i + Int32.ofInt 1 = nI (i + 1) := (Int32.ofNat_add i 1).symm
      have hh : pm_run PT n fr lo 129 (45, [some (.ref 0), some (.int (nI p + Int32.ofInt 1)), some (.int (nI ln)), some (.int ct), some (.int (nI i + Int32.ofInt 1)), some (.int (f p - 48))], [], h1, 198, sl) = some R := hh
      rw [e1, e2] at hh
      have hlt := dg_lt hd
      exact ih (i + 1) (p + 1) n h1 _ (by omega) (by omega) (by omega) x1 hh
end CXL
end MH95xdx0
section MH95xdx1
section MG95xex0
/-! the class's courts -/
section CXC
variable {n fr lo sl n0 cc k pc p l ln t : Nat} {h h' : pm_H} {R : pm_Rs} {f : Nat → Int32}
theorem dgi_of : dgi f p t 1 9 = (dg f p t && !(decide (f p - 48 = 0))) := by
  cases hd : dg f p t with
  | true =>
    obtain ⟨v1, v2⟩ := dg_val hd
    have hlt := dg_lt hd
    unfold dgi in_b
    rw [decide_eq_true hlt]
    have n1 : ((1 : Int32).toInt64).toInt = 1 := by decide
    have n9 : ((9 : Int32).toInt64).toInt = 9 := by decide
    have a2 : ¬ (9 : Int32).toInt64 < (f p - 48).toInt64 := by
      rw [Int64.lt_iff_toInt_lt, n9, Int32.toInt_toInt64]
      omega
    by_cases z : f p - 48 = 0
    · rw [z]
      decide
    · have a1 : ¬ (f p - 48).toInt64 < (1 : Int32).toInt64 := by
        rw [Int64.lt_iff_toInt_lt, n1, Int32.toInt_toInt64]
        intro q
        exact z (Int32.toInt_inj.1 (by rw [show (0 : Int32).toInt = 0 by decide]; omega))
      rw [decide_eq_false a1, decide_eq_false a2, decide_eq_false z]
      rfl
  | false =>
    cases hi : dgi f p t 1 9 with
    | false => rfl
    | true =>
      exfalso
      unfold dgi in_b at hi
      rw [Bool.and_eq_true, Bool.and_eq_true] at hi
      have hlt := of_decide_eq_true hi.1
      have e1 : ¬ (f p - 48).toInt64 < (1 : Int32).toInt64 := by simpa using hi.2.1
      have e2 : ¬ (9 : Int32).toInt64 < (f p - 48).toInt64 := by simpa using hi.2.2
      rw [Int64.lt_iff_toInt_lt, Int32.toInt_toInt64, Int32.toInt_toInt64, show (1 : Int32).toInt = 1 by decide] at e1
      rw [Int64.lt_iff_toInt_lt, Int32.toInt_toInt64, Int32.toInt_toInt64, show (9 : Int32).toInt = 9 by decide] at e2
      have ef : f p = (f p - 48) + 48 := by simp
      have ei : (f p).toInt = (f p - 48).toInt + 48 := by
        have q := congrArg Int32.toInt ef
        rw [Int32.toInt_add, show (48 : Int32).toInt = 48 by decide, Int.bmod_eq_of_le (by omega) (by omega)] at q
        exact q
      have : dg f p t = true := by
        unfold dg
        rw [decide_eq_true hlt]
        refine (Bool.true_and _).trans (dg_in ?_ ?_)
        · refine decide_eq_false (fun q => ?_)
          rw [Int32.lt_iff_toInt_lt, nI_toInt (by decide)] at q
          omega
        · refine decide_eq_false (fun q => ?_)
          rw [Int32.lt_iff_toInt_lt, nI_toInt (by decide)] at q
          omega
      rw [this] at hd
      cases hd
theorem xr_first (hn : n0 ≤ 80) {ct : Int32} {x5 : Option Value} (hp : p < 800) (x : pX h n0 cc f) (hh : pm_run PT n fr lo 129 (45, [some (.ref 0), some (.int (nI p)), some (.int (nI ln)), some (.int ct), some (.int (nI 0)), x5], [], h, 198, sl) = some R) : cond (rcC f (min n0 41) p).1 (∃ m h' y5, pX h' n0 cc f ∧ pm_run PT m fr lo 129 (104, [some (.ref 0), some (.int (nI (rcC f (min n0 41) p).2)), some (.int (nI ln)), some (.int ct), some (.int (nI 6)), y5], [], h', 198, sl) = some R) (R.1 = some (.int (Int32.ofInt (-1) - nI (rcC f (min n0 41) p).2))) := by
  obtain ⟨⟨fs, a1, a2, a3⟩, -⟩ := id x
  obtain ⟨n, hh⟩ := rn_i rfl rfl rfl rfl hh
  obtain ⟨n, hh⟩ := rn_i rfl rfl rfl rfl hh
  obtain ⟨n, hh⟩ := rn_icmp (cc := .ge) (off := 55) (t := 104) rfl rfl hh
  have hh : pm_run PT n fr lo 129 (52, [some (.ref 0), some (.int (nI p)), some (.int (nI ln)), some (.int ct), some (.int (nI 0)), x5], [], h, 198, sl) = some R := hh
  obtain ⟨n, hh⟩ := rn_i rfl rfl rfl rfl hh
  obtain ⟨n, hh⟩ := rn_gfo (g := 0) rfl rfl (by decide) a1 a2 hh
  obtain ⟨n, hh⟩ := rn_i rfl rfl rfl rfl hh
  obtain ⟨n, hh⟩ := rn_i rfl rfl rfl rfl hh
  obtain ⟨n, fr', lo', r1, hr1, hh⟩ := rn_call (w := 0) (t := 81) rfl rfl hh
  have er := dgA_run (l := 41) hn (by decide) (by omega) x hr1
  subst er
  have hh : pm_run PT n fr lo 129 (62, [some (.ref 0), some (.int (nI p)), some (.int (nI ln)), some (.int ct), some (.int (nI 0)), x5], [.int (dgA f n0 p 41)], h, 198, sl) = some R := hh
  obtain ⟨n, hh⟩ := rn_i rfl rfl rfl rfl hh
  obtain ⟨n, hh⟩ := rn_i rfl rfl rfl rfl hh
  obtain ⟨n, hh⟩ := rn_if (cc := .lt) (off := 13) (t := 79) rfl rfl hh
  unfold rcC
  rw [dgi_of]
  cases hd : dg f p (min n0 41) with
  | false =>
    rw [dgA_no hd, show pm_cmp .lt (Int32.ofInt (-1)) 0 = true by decide] at hh
    rw [xr_m1 hh]
    rfl
  | true =>
    obtain ⟨v1, v2⟩ := dg_val hd
    rw [dgA_yes hd, lt0_val v1] at hh
    have hh : pm_run PT n fr lo 129 (69, [some (.ref 0), some (.int (nI p)), some (.int (nI ln)), some (.int ct), some (.int (nI 0)), some (.int (f p - 48))], [], h, 198, sl) = some R := hh
    obtain ⟨n, hh⟩ := rn_i rfl rfl rfl rfl hh
    obtain ⟨n, hh⟩ := rn_if (cc := .ne) (off := 12) (t := 83) rfl rfl hh
    have hh : pm_run PT n fr lo 129 (74, [some (.ref 0), some (.int (nI p)), some (.int (nI ln)), some (.int ct), some (.int (nI 0)), some (.int (f p - 48))], [], h, 198, sl) = some R := hh
    obtain ⟨n, hh⟩ := rn_i rfl rfl rfl rfl hh
    obtain ⟨n, hh⟩ := rn_if (cc := .ne) (off := 7) (t := 83) rfl rfl hh
    by_cases z : f p - 48 = 0
    · rw [show pm_cmp .ne (f p - 48) 0 = false from decide_eq_false (fun q => q z)] at hh
      rw [decide_eq_true z]
      rw [xr_m1 hh]
      rfl
    · rw [show pm_cmp .ne (f p - 48) 0 = true from decide_eq_true z] at hh
      rw [decide_eq_false z]
      have hh : pm_run PT n fr lo 129 (83, [some (.ref 0), some (.int (nI p)), some (.int (nI ln)), some (.int ct), some (.int (nI 0)), some (.int (f p - 48))], [], h, 198, sl) = some R := hh
      obtain ⟨n, hh⟩ := rn_i rfl rfl rfl rfl hh
      obtain ⟨n, hh⟩ := rn_gfo (g := 2) rfl rfl (by decide) a1 a3 hh
      obtain ⟨n, hh⟩ := rn_i rfl rfl rfl rfl hh
      obtain ⟨n, hh⟩ := rn_i rfl rfl rfl rfl hh
      obtain ⟨n, hh⟩ := rn_i rfl rfl rfl rfl hh
      obtain ⟨n, fr', lo', r1, hr1, hh⟩ := rn_call (w := 0) (t := 26) rfl rfl hh
      have hf := sf_run sQ_ok _ _ _ 26 _ r1 rfl hr1
      have hk := ak_run (by decide) sQ_ak _ _ _ 26 _ r1 rfl hr1
      have hz := sz_run sQ_ok _ _ _ 26 _ r1 rfl hr1
      have hv := vd_run rfl hr1
      obtain ⟨rv, h1, s1⟩ := r1
      dsimp only at hf hk hz hv
      subst hz
      subst hv
      have x1 := pX_fm hf hk x
      have hh : pm_run PT n fr lo 129 (95, [some (.ref 0), some (.int (nI p)), some (.int (nI ln)), some (.int ct), some (.int (nI 0)), some (.int (f p - 48))], [], h1, 198, sl) = some R := hh
      obtain ⟨n, hh⟩ := rn_i rfl rfl rfl rfl hh
      obtain ⟨n, hh⟩ := rn_i rfl rfl rfl rfl hh
      obtain ⟨n, hh⟩ := rn_i rfl rfl rfl rfl hh
      have e1 : nI p + Int32.ofInt 1 = nI (p + 1) := (Int32.ofNat_add p 1).symm
      have hh : pm_run PT n fr lo 129 (45, [some (.ref 0), some (.int (nI p + Int32.ofInt 1)), some (.int (nI ln)), some (.int ct), some (.int (nI 1)), some (.int (f p - 48))], [], h1, 198, sl) = some R := hh
      rw [e1] at hh
      exact xr_dig hn 5 1 (p + 1) n h1 _ rfl (by decide) (by omega) x1 hh
/-- what the class answers, by how far it came -/
def xA (n0 : Nat) (s : Bool × Nat × Nat) : Int32 := cond (s.1 && decide (s.2.1 = n0)) (nI s.2.2) (Int32.ofInt (-1) - nI s.2.1)
theorem xr_loop (hn : n0 ≤ 80) : ∀ (k ln p n : Nat) (h : pm_H) (x3 x4 x5 : Option Value), cc + ln + k = 7 → 0 < k → p ≤ min n0 41 → pX h n0 cc f → pm_run PT n fr lo 129 (16, [some (.ref 0), some (.int (nI p)), some (.int (nI ln)), x3, x4, x5], [], h, 198, sl) = some R → R.1 = some (.int (xA n0 (spL f (min n0 41) cc k ln p))) := by
  intro k
  induction k with
  | zero => intro ln p n h x3 x4 x5 hk h0; exact absurd h0 (by omega)
  | succ k ih =>
    intro ln p n h x3 x4 x5 hk h0 hp x hh
    obtain ⟨⟨fs, a1, a2, a3⟩, ⟨gs, g1, g2, g3⟩, c1, rs, d1, d2⟩ := id x
    unfold spL
    obtain ⟨n, hh⟩ := rn_i rfl rfl rfl rfl hh
    obtain ⟨n, hh⟩ := rn_i rfl rfl rfl rfl hh
    obtain ⟨n, hh⟩ := rn_icmp (cc := .ge) (off := 128) (t := 147) rfl rfl hh
    have ec : pm_cmp .ge (nI ln) (Int8.ofInt 6).toInt32 = decide (6 ≤ ln) := hI_ge (a := ln) (b := 6) (by omega) (by omega)
    rw [ec] at hh
    by_cases z6 : 6 ≤ ln
    · rw [decide_eq_true z6] at hh
      rw [decide_eq_true (show cc + ln = 6 by omega)]
      obtain ⟨n, hh⟩ := rn_i rfl rfl rfl rfl hh
      obtain ⟨n, hh⟩ := rn_i rfl rfl rfl rfl hh
      obtain ⟨n, hh⟩ := rn_i rfl rfl rfl rfl hh
      rw [(rn_ret rfl (Or.inl rfl) hh).2]
      rfl
    · rw [decide_eq_false z6] at hh
      obtain ⟨n, hh⟩ := rn_i rfl rfl rfl rfl hh
      obtain ⟨n, hh⟩ := rn_gfo (g := 2) rfl rfl (by decide) a1 a3 hh
      obtain ⟨n, hh⟩ := rn_gfo (g := 0) rfl rfl (by decide) d1 d2 hh
      obtain ⟨n, hh⟩ := rn_i rfl rfl rfl rfl hh
      obtain ⟨n, hh⟩ := rn_i rfl rfl rfl rfl hh
      obtain ⟨n, hh⟩ := rn_i rfl rfl rfl rfl hh
      obtain ⟨n, hh⟩ := rn_i rfl rfl rfl rfl hh
      obtain ⟨n, hh⟩ := rn_i rfl rfl rfl rfl hh
      obtain ⟨n, hh⟩ := rn_icmp (cc := .lt) (off := 7) (t := 42) rfl rfl hh
      have ea : nI cc + nI ln = nI (cc + ln) := nI_add cc ln
      have hh : pm_run PT n fr lo 129 (cond (pm_cmp .lt (nI cc + nI ln) (nI 6)) 42 38, [some (.ref 0), some (.int (nI p)), some (.int (nI ln)), some (.int (nI cc + nI ln)), x4, x5], [], h, 198, sl) = some R := hh
      rw [ea, hI_lt (by omega) (by omega)] at hh
      by_cases z : cc + ln = 6
      · rw [decide_eq_false (by omega)] at hh
        rw [decide_eq_true z]
        obtain ⟨n, hh⟩ := rn_i rfl rfl rfl rfl hh
        obtain ⟨n, hh⟩ := rn_i rfl rfl rfl rfl hh
        obtain ⟨n, hh⟩ := rn_i rfl rfl rfl rfl hh
        rw [(rn_ret rfl (Or.inl rfl) hh).2]
        rfl
      · rw [decide_eq_true (by omega)] at hh
        rw [decide_eq_false z]
        have hh : pm_run PT n fr lo 129 (42, [some (.ref 0), some (.int (nI p)), some (.int (nI ln)), some (.int (nI (cc + ln))), x4, x5], [], h, 198, sl) = some R := hh
        obtain ⟨n, hh⟩ := rn_i rfl rfl rfl rfl hh
        obtain ⟨n, hh⟩ := rn_i rfl rfl rfl rfl hh
        have hq := xr_first hn (by omega) x hh
        have hle := rcC_le (tp := f) hp
        dsimp only [cond]
        cases y : (rcC f (min n0 41) p).1 with
        | false =>
          rw [y] at hq
          exact hq
        | true =>
          rw [y] at hq
          obtain ⟨n, h', y5, x', hh⟩ := hq
          generalize (rcC f (min n0 41) p).2 = b at *
          obtain ⟨⟨fs, a1, a2, a3⟩, ⟨gs, g1, g2, g3⟩, -⟩ := id x'
          obtain ⟨n, hh⟩ := rn_i rfl rfl rfl rfl hh
          obtain ⟨n, hh⟩ := rn_i rfl rfl rfl rfl hh
          obtain ⟨n, hh⟩ := rn_gfo (g := 0) rfl rfl (by decide) a1 a2 hh
          obtain ⟨n, hh⟩ := rn_gfo (g := 1) rfl rfl (by decide) g1 g3 hh
          obtain ⟨n, hh⟩ := rn_icmp (cc := .ne) (off := 7) (t := 119) rfl rfl hh
          rw [hI_ne (by omega) (by omega)] at hh
          by_cases w : b = n0
          · rw [decide_eq_false (fun q => q w)] at hh
            rw [decide_eq_false (by omega)]
            obtain ⟨n, hh⟩ := rn_i rfl rfl rfl rfl hh
            obtain ⟨n, hh⟩ := rn_i rfl rfl rfl rfl hh
            obtain ⟨n, hh⟩ := rn_i rfl rfl rfl rfl hh
            have e1 : nI ln + Int32.ofInt 1 = nI (ln + 1) := (Int32.ofNat_add ln 1).symm
            rw [(rn_ret rfl (Or.inl rfl) hh).2]
            unfold xA
            dsimp only
            rw [decide_eq_true w]
            exact congrArg (fun q => some (Value.int q)) e1
          · rw [decide_eq_true w] at hh
            have hh : pm_run PT n fr lo 129 (119, [some (.ref 0), some (.int (nI b)), some (.int (nI ln)), some (.int (nI (cc + ln))), some (.int (nI 6)), y5], [], h', 198, sl) = some R := hh
            obtain ⟨n, hh⟩ := rn_i rfl rfl rfl rfl hh
            obtain ⟨n, hh⟩ := rn_gfo (g := 0) rfl rfl (by decide) a1 a2 hh
            obtain ⟨n, hh⟩ := rn_i rfl rfl rfl rfl hh
            obtain ⟨n, hh⟩ := rn_i rfl rfl rfl rfl hh
            obtain ⟨n, fr', lo', r1, hr1, hh⟩ := rn_call (w := 0) (t := 80) rfl rfl hh
            have er := sgA_run (l := 41) hn (by decide) (by omega) x' hr1
            subst er
            have hh : pm_run PT n fr lo 129 (129, [some (.ref 0), some (.int (nI b)), some (.int (nI ln)), some (.int (nI (cc + ln))), some (.int (nI 6)), y5], [.int (sgA f n0 b 41)], h', 198, sl) = some R := hh
            obtain ⟨n, hh⟩ := rn_i rfl rfl rfl rfl hh
            obtain ⟨n, hh⟩ := rn_icmp (cc := .eq) (off := 7) (t := 138) rfl rfl hh
            have hh : pm_run PT n fr lo 129 (cond (pm_cmp .eq (sgA f n0 b 41) 59) 138 134, [some (.ref 0), some (.int (nI b)), some (.int (nI ln)), some (.int (nI (cc + ln))), some (.int (nI 6)), y5], [], h', 198, sl) = some R := hh
            have es : pm_cmp .eq (sgA f n0 b 41) 59 = decide (b < min n0 41 ∧ f b = 59) := by
              unfold sgA
              by_cases q : b < min n0 41
              · rw [decide_eq_true q]
                show decide (f b = 59) = _
                rw [Bool.eq_iff_iff, decide_eq_true_iff, decide_eq_true_iff]
                exact ⟨fun e => ⟨q, e⟩, fun e => e.2⟩
              · rw [decide_eq_false q, decide_eq_false (fun e => q e.1)]
                show pm_cmp .eq (Int32.ofInt (-1)) 59 = false
                decide
            rw [es] at hh
            cases v : decide (b < min n0 41 ∧ f b = 59) with
            | false =>
              rw [v] at hh
              obtain ⟨n, hh⟩ := rn_i rfl rfl rfl rfl hh
              obtain ⟨n, hh⟩ := rn_i rfl rfl rfl rfl hh
              obtain ⟨n, hh⟩ := rn_i rfl rfl rfl rfl hh
              rw [(rn_ret rfl (Or.inl rfl) hh).2]
              unfold xA
              dsimp only
              rw [decide_eq_false w]
              rfl
            | true =>
              rw [v] at hh
              have vv := of_decide_eq_true v
              obtain ⟨n, hh⟩ := rn_i rfl rfl rfl rfl hh
              obtain ⟨n, hh⟩ := rn_i rfl rfl rfl rfl hh
              obtain ⟨n, hh⟩ := rn_i rfl rfl rfl rfl hh
              have e1 : nI b + Int32.ofInt 1 = nI (b + 1) := (Int32.ofNat_add b 1).symm
              have e2 : nI ln + Int32.ofInt 1 = nI (ln + 1) := (Int32.ofNat_add ln 1).symm
              have hh : pm_run PT n fr lo 129 (16, [some (.ref 0), some (.int (nI b + Int32.ofInt 1)), some (.int (nI ln + Int32.ofInt 1)), some (.int (nI (cc + ln))), some (.int (nI 6)), y5], [], h', 198, sl) = some R := hh
              rw [e1, e2] at hh
              exact ih (ln + 1) (b + 1) n h' _ _ _ (by omega) (by omega) (by omega) x' hh
end CXC
end MG95xex0
section MG95xex1
section CXF
variable {n fr lo sl n0 cc : Nat} {h : pm_H} {R : pm_Rs} {f : Nat → Int32}
theorem xr_0 (hh : pm_run PT n fr lo 129 (10, [some (.ref 0), none, none, none, none, none], [], h, 198, sl) = some R) : R.1 = some (.int (Int32.ofInt 0)) := by
  obtain ⟨n, hh⟩ := rn_i rfl rfl rfl rfl hh
  rw [(rn_ret rfl (Or.inl rfl) hh).2]
theorem xr_1 (hn : n0 ≤ 80) (hc : cc ≤ 6) (x : pX h n0 cc f) (hh : pm_run PT n fr lo 129 (12, [some (.ref 0), none, none, none, none, none], [], h, 198, sl) = some R) : R.1 = some (.int (xA n0 (spL f (min n0 41) cc (7 - cc) 0 0))) := by
  obtain ⟨n, hh⟩ := rn_i rfl rfl rfl rfl hh
  obtain ⟨n, hh⟩ := rn_i rfl rfl rfl rfl hh
  obtain ⟨n, hh⟩ := rn_i rfl rfl rfl rfl hh
  obtain ⟨n, hh⟩ := rn_i rfl rfl rfl rfl hh
  have hh : pm_run PT n fr lo 129 (16, [some (.ref 0), some (.int (nI 0)), some (.int (nI 0)), none, none, none], [], h, 198, sl) = some R := hh
  exact xr_loop hn (7 - cc) 0 0 n h none none none (by omega) (by omega) (Nat.zero_le _) x hh
def xR (n0 cc : Nat) (f : Nat → Int32) : Int32 := if n0 = 0 then Int32.ofInt 0 else xA n0 (spL f (min n0 41) cc (7 - cc) 0 0)
theorem xr_run (hn : n0 ≤ 80) (hc : cc ≤ 6) (x : pX h n0 cc f) (hh : pm_run PT n fr lo 129 (0, pm_l0 [.ref 0] 6, [], h, 198, sl) = some R) : R.1 = some (.int (xR n0 cc f)) := by
  obtain ⟨⟨fs, a1, a2, a3⟩, ⟨gs, g1, g2, g3⟩, -⟩ := id x
  obtain ⟨n, hh⟩ := rn_i rfl rfl rfl rfl hh
  obtain ⟨n, hh⟩ := rn_gfo (g := 0) rfl rfl (by decide) a1 a2 hh
  obtain ⟨n, hh⟩ := rn_gfo (g := 1) rfl rfl (by decide) g1 g3 hh
  obtain ⟨n, hh⟩ := rn_if (cc := .ne) (off := 5) (t := 12) rfl rfl hh
  have en : pm_cmp .ne (nI n0) 0 = decide (¬ n0 = 0) := hI_ne (a := n0) (b := 0) (by omega) (by omega)
  rw [en] at hh
  unfold xR
  by_cases z : n0 = 0
  · rw [decide_eq_false (fun q => q z)] at hh
    rw [if_pos z]
    exact xr_0 hh
  · rw [decide_eq_true z] at hh
    rw [if_neg z]
    exact xr_1 hn hc x hh
/-- both answers are one -/
theorem neg_ge {a : Nat} (ha : a ≤ 80) : pm_cmp .ge (Int32.ofInt (-1) - nI a) 0 = false := by
  have e : (Int32.ofInt (-1) - nI a).toInt = -1 - (a : Int) := by
    rw [Int32.toInt_sub, nI_toInt (by omega), show (Int32.ofInt (-1)).toInt = -1 by decide, Int.bmod_eq_of_le (by omega) (by omega)]
  generalize Int32.ofInt (-1) - nI a = y at e ⊢
  simp only [pm_cmp]
  rw [decide_eq_false_iff_not]
  intro q
  rw [Int32.le_iff_toInt_le, e, show (0 : Int32).toInt = 0 by decide] at q
  omega
theorem fO_eq {at_ : Nat} {is : Bool} (hn : n0 ≤ 80) (ha : at_ ≤ min n0 41) : fO n0 41 (min n0 41) at_ is = cond (is && decide (at_ = n0)) (Int32.ofInt 0) (Int32.ofInt (-1) - nI at_) := by
  unfold fO fO2
  by_cases z : at_ = n0
  · have ht : at_ = min n0 41 := by omega
    rw [decide_eq_true z, decide_eq_true ht, if_neg (by omega)]
  · rw [decide_eq_false z, Bool.and_false]
    by_cases y : at_ = min n0 41
    · have e41 : at_ = 41 := by omega
      rw [if_pos ⟨by omega, Or.inr (by omega)⟩, e41]
      rfl
    · rw [decide_eq_false y, Bool.and_false, if_neg (fun q => by rcases q.2 with q | q; cases q; omega)]
theorem rcD_cong {tp : Nat → Int32} {t : Nat} (hf : ∀ j, j < t → f j = tp j) : ∀ (k a : Nat), rcD f t k a = rcD tp t k a
  | 0, a => rfl
  | k + 1, a => by
    unfold rcD
    have e : dg f a t = dg tp a t := by
      unfold dg
      by_cases z : a < t
      · rw [hf a z]
      · rw [decide_eq_false z, Bool.false_and, Bool.false_and]
    rw [e, rcD_cong hf k (a + 1)]
theorem rcC_cong {tp : Nat → Int32} {t a : Nat} (hf : ∀ j, j < t → f j = tp j) : rcC f t a = rcC tp t a := by
  unfold rcC
  have e : dgi f a t 1 9 = dgi tp a t 1 9 := by
    unfold dgi
    by_cases z : a < t
    · rw [hf a z]
    · rw [decide_eq_false z, Bool.false_and, Bool.false_and]
  rw [e, rcD_cong hf 5 (a + 1)]
theorem spL_cong {tp : Nat → Int32} {t : Nat} (hf : ∀ j, j < t → f j = tp j) : ∀ (k rm a : Nat), spL f t cc k rm a = spL tp t cc k rm a
  | 0, rm, a => rfl
  | k + 1, rm, a => by
    unfold spL
    rw [rcC_cong hf, spL_cong hf k (rm + 1) ((rcC tp t a).2 + 1)]
    have e : decide ((rcC tp t a).2 < t ∧ f (rcC tp t a).2 = 59) = decide ((rcC tp t a).2 < t ∧ tp (rcC tp t a).2 = 59) := by
      by_cases z : (rcC tp t a).2 < t
      · rw [hf _ z]
      · rw [decide_eq_false (fun q => z q.1), decide_eq_false (fun q => z q.1)]
    rw [e]
theorem neg_le {a : Nat} (ha : a ≤ 80) : pm_cmp .le (Int32.ofInt (-1) - nI a) 0 = true := by
  have e : (Int32.ofInt (-1) - nI a).toInt = -1 - (a : Int) := by
    rw [Int32.toInt_sub, nI_toInt (by omega), show (Int32.ofInt (-1)).toInt = -1 by decide, Int.bmod_eq_of_le (by omega) (by omega)]
  generalize Int32.ofInt (-1) - nI a = y at e ⊢
  simp only [pm_cmp]
  rw [decide_eq_true_iff, Int32.le_iff_toInt_le, e, show (0 : Int32).toInt = 0 by decide]
  omega
/-- the reference's answer and how many came, by the class's -/
theorem cm_both {tp : Nat → Int32} (hn : n0 ≤ 80) (hc : cc ≤ 6) (hf : ∀ j, j < n0 → f j = tp j) : cmA tp n0 cc = xR n0 cc f ∧ ((xR n0 cc f = nI (cmN tp n0 cc) ∧ cc + cmN tp n0 cc ≤ 6) ∨ (pm_cmp .le (xR n0 cc f) 0 = true ∧ cmN tp n0 cc = 0)) := by
  have e0 : pm_cmp .ge (Int32.ofInt 0) 0 = true := by decide
  unfold cmA cmN cmF xR
  by_cases z : n0 = 0
  · have es : cmS tp n0 cc = (true, 0, 0) := by
      unfold cmS
      rw [z]
      rfl
    rw [es, if_pos z]
    dsimp only
    rw [fO_eq hn (Nat.zero_le _), show (true && decide (0 = n0)) = true by rw [z]; rfl]
    generalize Int32.ofInt (-1) - nI 0 = y
    simp only [cond_true]
    rw [e0]
    simp only [cond_true]
    exact ⟨(by decide), Or.inl ⟨(by decide), hc⟩⟩
  · have es : cmS tp n0 cc = spL tp (min n0 41) cc (7 - cc) 0 0 := by
      unfold cmS
      rw [nb_ne z]
      rfl
    have e2 := spL_cong (cc := cc) (t := min n0 41) (fun j hj => hf j (by omega)) (7 - cc) 0 0
    obtain ⟨b1, b2, b3⟩ := spL_bd (tp := tp) (cc := cc) (7 - cc) 0 0 (Nat.zero_le (min n0 41))
    have b3 := b3 (by omega)
    rw [es, if_neg z, e2]
    generalize spL tp (min n0 41) cc (7 - cc) 0 0 = s at *
    rw [fO_eq hn b1]
    unfold xA
    have y1 := neg_ge (a := s.2.1) (by omega)
    have y2 := neg_le (a := s.2.1) (by omega)
    generalize Int32.ofInt (-1) - nI s.2.1 = y at *
    cases hs : (s.1 && decide (s.2.1 = n0)) with
    | true =>
      simp only [cond_true]
      rw [e0]
      simp only [cond_true]
      exact ⟨trivial, Or.inl ⟨trivial, b3⟩⟩
    | false =>
      simp only [cond_false]
      rw [y1]
      simp only [cond_false]
      exact ⟨trivial, Or.inr ⟨y2, trivial⟩⟩
end CXF
end MG95xex1
section MG95xex2
/-! the class's courts: the LINES come -/
section CXG
variable {n fr lo sl n0 cc N : Nat} {h h' : pm_H} {R : pm_Rs} {f : Nat → Int32}
def rC (h : pm_H) (v : Value) : Prop := ∃ rs, h 5 = .inr (3, rs) ∧ rs[0]? = some v
def pY (h : pm_H) (c : Nat) : Prop := (∃ fs, h 0 = .inr (10, fs) ∧ fs[2]? = some (.ref 5)) ∧ rC h (.int (nI c))
theorem pY_fm {c : Nat} (q : fm (sfF sQ) h h') (x : pY h c) : pY h' c := by
  obtain ⟨⟨fs, a1, a2⟩, rs, d1, d2⟩ := x
  obtain ⟨fs', e1, -, e2⟩ := q.2 0 10 fs a1
  obtain ⟨rs', i1, -, i2⟩ := q.2 5 3 rs d1
  exact ⟨⟨fs', e1, (e2 2 rfl).trans a2⟩, rs', i1, (i2 0 rfl).trans d2⟩
theorem xc_fin {c : Nat} {v x2 : Int32} (x : pY h c) (hh : pm_run PT n fr lo 88 (54, [some (.ref 0), some (.int v), some (.int x2)], [], h, 198, sl) = some R) : R.1 = some (.int v) ∧ rC R.2.1 (.int (nI c)) := by
  obtain ⟨n, hh⟩ := rn_i rfl rfl rfl rfl hh
  obtain ⟨n, fr', lo', r1, hr1, hh⟩ := rn_call (w := 0) (t := 133) rfl rfl hh
  have hf := sf_run sQ_ok _ _ _ 133 _ r1 rfl hr1
  have hz := sz_run sQ_ok _ _ _ 133 _ r1 rfl hr1
  have hv := vd_run rfl hr1
  obtain ⟨rv, h1, s1⟩ := r1
  dsimp only at hf hz hv
  subst hz
  subst hv
  have hh : pm_run PT n fr lo 88 (58, [some (.ref 0), some (.int v), some (.int x2)], [], h1, 198, sl) = some R := hh
  obtain ⟨n, hh⟩ := rn_i rfl rfl rfl rfl hh
  have e := (rn_ret rfl (Or.inl rfl) hh).2
  subst e
  exact ⟨rfl, (pY_fm hf x).2⟩
theorem xc_loop (hN : N ≤ 6) (hc : cc ≤ 6) : ∀ (d k n : Nat) (h : pm_H), k + d = N → pY h (cc + k) → pm_run PT n fr lo 88 (19, [some (.ref 0), some (.int (nI N)), some (.int (nI k))], [], h, 198, sl) = some R → R.1 = some (.int (nI N)) ∧ rC R.2.1 (.int (nI (cc + N))) := by
  intro d
  induction d with
  | zero =>
    intro k n h hk x hh
    have hk : k = N := by omega
    subst hk
    obtain ⟨n, hh⟩ := rn_i rfl rfl rfl rfl hh
    obtain ⟨n, hh⟩ := rn_i rfl rfl rfl rfl hh
    obtain ⟨n, hh⟩ := rn_icmp (cc := .ge) (off := 33) (t := 54) rfl rfl hh
    rw [hI_ge (by omega) (by omega), decide_eq_true (Nat.le_refl _)] at hh
    exact xc_fin x hh
  | succ d ih =>
    intro k n h hk x hh
    obtain ⟨n, hh⟩ := rn_i rfl rfl rfl rfl hh
    obtain ⟨n, hh⟩ := rn_i rfl rfl rfl rfl hh
    obtain ⟨n, hh⟩ := rn_icmp (cc := .ge) (off := 33) (t := 54) rfl rfl hh
    rw [hI_ge (by omega) (by omega), decide_eq_false (by omega)] at hh
    obtain ⟨⟨fs, a1, a2⟩, rs, d1, d2⟩ := id x
    obtain ⟨n, hh⟩ := rn_i rfl rfl rfl rfl hh
    obtain ⟨n, hh⟩ := rn_i rfl rfl rfl rfl hh
    obtain ⟨n, hh⟩ := rn_gfo (g := 2) rfl rfl (by decide) a1 a2 hh
    obtain ⟨n, hh⟩ := rn_gfo (g := 0) rfl rfl (by decide) d1 d2 hh
    obtain ⟨n, fr', lo', r1, hr1, hh⟩ := rn_call (w := 0) (t := 132) rfl rfl hh
    have hf := sf_run sQ_ok _ _ _ 132 _ r1 rfl hr1
    have hz := sz_run sQ_ok _ _ _ 132 _ r1 rfl hr1
    have hv := vd_run rfl hr1
    obtain ⟨rv, h1, s1⟩ := r1
    dsimp only at hf hz hv
    subst hz
    subst hv
    obtain ⟨⟨gs, b1, b2⟩, qs, c1, c2⟩ := pY_fm hf x
    have hh : pm_run PT n fr lo 88 (35, [some (.ref 0), some (.int (nI N)), some (.int (nI k))], [], h1, 198, sl) = some R := hh
    obtain ⟨n, hh⟩ := rn_i rfl rfl rfl rfl hh
    obtain ⟨n, hh⟩ := rn_gfo (g := 2) rfl rfl (by decide) b1 b2 hh
    obtain ⟨n, hh⟩ := rn_i rfl rfl rfl rfl hh
    obtain ⟨n, hh⟩ := rn_gfo (g := 0) rfl rfl (by decide) c1 c2 hh
    obtain ⟨n, hh⟩ := rn_i rfl rfl rfl rfl hh
    obtain ⟨n, hh⟩ := rn_i rfl rfl rfl rfl hh
    obtain ⟨n, hh⟩ := rn_i rfl rfl rfl (pf_eq (f := 0) rfl rfl (by decide) (by decide) c1 c2) hh
    obtain ⟨n, hh⟩ := rn_i rfl rfl rfl rfl hh
    obtain ⟨n, hh⟩ := rn_i rfl rfl rfl rfl hh
    have e1 : nI (cc + k) + Int32.ofInt 1 = nI (cc + (k + 1)) := (Int32.ofNat_add (cc + k) 1).symm
    have e2 : nI k + Int32.ofInt 1 = nI (k + 1) := (Int32.ofNat_add k 1).symm
    have hh : pm_run PT n fr lo 88 (19, [some (.ref 0), some (.int (nI N)), some (.int (nI k + Int32.ofInt 1))], [], va_up h1 5 (.inr (3, qs.set 0 (.int (nI (cc + k) + Int32.ofInt 1)))), 198, sl) = some R := hh
    rw [e1, e2] at hh
    refine ih (k + 1) n _ (by omega) ⟨⟨gs, by simp [va_up, b1], b2⟩, qs.set 0 (.int (nI (cc + (k + 1)))), by simp [va_up], ?_⟩ hh
    rw [List.getElem?_set_self (List.getElem?_eq_some_iff.mp c2).1]
theorem xc_run (hn : n0 ≤ 80) (hc : cc ≤ 6) (x : pX h n0 cc f) (hN : (xR n0 cc f = nI N ∧ cc + N ≤ 6) ∨ (pm_cmp .le (xR n0 cc f) 0 = true ∧ N = 0)) (hh : pm_run PT n fr lo 88 (0, pm_l0 [.ref 0] 3, [], h, 198, sl) = some R) : R.1 = some (.int (xR n0 cc f)) ∧ rC R.2.1 (.int (nI (cc + N))) := by
  obtain ⟨n, hh⟩ := rn_i rfl rfl rfl rfl hh
  obtain ⟨n, fr', lo', r1, hr1, hh⟩ := rn_call (w := 0) (t := 129) rfl rfl hh
  have hf := sf_run sQ_ok _ _ _ 129 _ r1 rfl hr1
  have hk := ak_run (by decide) sQ_ak _ _ _ 129 _ r1 rfl hr1
  have hz := sz_run sQ_ok _ _ _ 129 _ r1 rfl hr1
  have hv := xr_run hn hc x hr1
  obtain ⟨rv, h1, s1⟩ := r1
  dsimp only at hf hk hz hv
  subst hz
  subst hv
  obtain ⟨⟨fs, a1, a2, a3⟩, ⟨gs, g1, g2, g3⟩, c1, rs, d1, d2⟩ := pX_fm hf hk x
  generalize xR n0 cc f = v at *
  have hh : pm_run PT n fr lo 88 (4, [some (.ref 0), none, none], [.int v], h1, 198, sl) = some R := hh
  obtain ⟨n, hh⟩ := rn_i rfl rfl rfl rfl hh
  obtain ⟨n, hh⟩ := rn_i rfl rfl rfl rfl hh
  obtain ⟨n, hh⟩ := rn_gfo (g := 0) rfl rfl (by decide) a1 a2 hh
  obtain ⟨n, hh⟩ := rn_i rfl rfl rfl rfl hh
  obtain ⟨n, hh⟩ := rn_i rfl rfl rfl (pf_eq (f := 1) rfl rfl (by decide) (by decide) g1 g3) hh
  have y : pY (va_up h1 1 (.inr (8, gs.set 1 (.int (Int32.ofInt 0))))) cc := ⟨⟨fs, by simp [va_up, a1], a3⟩, rs, by simp [va_up, d1], d2⟩
  generalize va_up h1 1 (.inr (8, gs.set 1 (.int (Int32.ofInt 0)))) = h2 at *
  have hh : pm_run PT n fr lo 88 (13, [some (.ref 0), some (.int v), none], [], h2, 198, sl) = some R := hh
  obtain ⟨n, hh⟩ := rn_i rfl rfl rfl rfl hh
  obtain ⟨n, hh⟩ := rn_if (cc := .le) (off := 44) (t := 58) rfl rfl hh
  have fin0 : ∀ n : Nat, pm_run PT n fr lo 88 (58, [some (.ref 0), some (.int v), none], [], h2, 198, sl) = some R → R.1 = some (.int v) ∧ rC R.2.1 (.int (nI cc)) := by
    intro n hh
    obtain ⟨n, hh⟩ := rn_i rfl rfl rfl rfl hh
    have e := (rn_ret rfl (Or.inl rfl) hh).2
    subst e
    exact ⟨rfl, y.2⟩
  rcases hN with ⟨e1, e2⟩ | ⟨e1, e2⟩
  · by_cases z : N = 0
    · subst z
      rw [show pm_cmp .le v 0 = true by rw [e1]; decide] at hh
      exact fin0 n hh
    · have ec : pm_cmp .le v 0 = false := by
        rw [e1]
        have := hI_le (a := N) (b := 0) (by omega) (by omega)
        rw [decide_eq_false (by omega)] at this
        exact this
      rw [ec] at hh
      rw [e1] at hh ⊢
      obtain ⟨n, hh⟩ := rn_i rfl rfl rfl rfl hh
      obtain ⟨n, hh⟩ := rn_i rfl rfl rfl rfl hh
      exact xc_loop (by omega) hc N 0 n h2 (by omega) y hh
  · subst e2
    rw [e1] at hh
    exact fin0 n hh
end CXG
end MG95xex2
section MG95xex3
/-! sign: the same four signs come behind both texts -/
section SGN
variable {n fr lo sl n0 k pc : Nat} {h h' : pm_H} {R : pm_Rs} {f : Nat → Int32} {L : pm_L} {r : List Value} {v s : Int32}
/-- a sign as the class writes it, as the reference does -/
def chX (v s : Int32) : Int32 := vp_nar .char ((((v.toUInt32 >>> (s.toUInt32 &&& Int32.toUInt32 31)).toInt32 &&& (Int16.ofInt 255).toInt32).toUInt32 % 65536).toInt32)
def chM (v : Int32) (s : Int32) : Int32 := (v >>> (s &&& 31)) &&& (Int16.ofInt 255).toInt32
def pT (h : pm_H) (n0 : Nat) (f : Nat → Int32) : Prop := (∃ gs, h 1 = .inr (8, gs) ∧ gs[0]? = some (.ref 2) ∧ gs[1]? = some (.int (nI n0))) ∧ h 2 = .inl (1, 80, .inl f)
theorem rn_csm {a m : Nat} {i x : Int32} {g : Nat → Int32} (hi : pm_ins PT k pc = some (.castore, 1)) (ha : h a = .inl (1, m, .inl g)) (hin : pm_in i m = true) (hl : a < 198) (hh : pm_run PT n fr lo k (pc, L, .int x :: .int i :: .ref a :: r, h, 198, sl) = some R) : ∃ q, pm_run PT q fr lo k (pc + 1, L, r, va_up h a (.inl (1, m, .inl (upd g i.toNatClampNeg (vp_nar .char x)))), 198, sl) = some R := by
  refine rn_i hi rfl rfl ?_ hh
  show pm_iS PT .char (fun x => vp_nar .char x) pc L (.int x :: .int i :: .ref a :: r) h 198 sl = _
  unfold pm_iS
  dsimp only
  have e : pm_iar PT .char h 198 a = some (1, m, g) := by
    unfold pm_iar
    rw [if_pos hl, ha]
    exact if_pos rfl
  rw [e]
  dsimp only
  rw [if_pos hin]
theorem ad_step (hs : pm_cmp .lt s 0 = false) (hn : n0 < 80) (x : pT h n0 f) (hh : pm_run PT n fr lo 79 (16, [some (.ref 1), some (.int v), some (.int s)], [], h, 198, sl) = some R) : ∃ m h', pT h' (n0 + 1) (upd f n0 (chX v s)) ∧ pm_run PT m fr lo 79 (16, [some (.ref 1), some (.int v), some (.int (s + Int32.ofInt (-8)))], [], h', 198, sl) = some R := by
  obtain ⟨⟨gs, g1, g2, g3⟩, c1⟩ := x
  obtain ⟨n, hh⟩ := rn_i rfl rfl rfl rfl hh
  obtain ⟨n, hh⟩ := rn_if (cc := .lt) (off := 36) (t := 53) rfl rfl hh
  rw [hs] at hh
  obtain ⟨n, hh⟩ := rn_i rfl rfl rfl rfl hh
  obtain ⟨n, hh⟩ := rn_gfo (g := 0) rfl rfl (by decide) g1 g2 hh
  obtain ⟨n, hh⟩ := rn_i rfl rfl rfl rfl hh
  obtain ⟨n, hh⟩ := rn_gfo (g := 1) rfl rfl (by decide) g1 g3 hh
  obtain ⟨n, hh⟩ := rn_i rfl rfl rfl rfl hh
  obtain ⟨n, hh⟩ := rn_i rfl rfl rfl rfl hh
  obtain ⟨n, hh⟩ := rn_i rfl rfl rfl rfl hh
  obtain ⟨n, hh⟩ := rn_i rfl rfl rfl rfl hh
  obtain ⟨n, hh⟩ := rn_i rfl rfl rfl rfl hh
  obtain ⟨n, hh⟩ := rn_i rfl rfl rfl rfl hh
  obtain ⟨n, hh⟩ := rn_csm rfl c1 (hI_in hn (by decide)) (by decide) hh
  rw [nI_clamp (by omega)] at hh
  have g1' : va_up h 2 (.inl (1, 80, .inl (upd f n0 (chX v s)))) 1 = .inr (8, gs) := by simp [va_up, g1]
  have hh : pm_run PT n fr lo 79 (37, [some (.ref 1), some (.int v), some (.int s)], [], va_up h 2 (.inl (1, 80, .inl (upd f n0 (chX v s)))), 198, sl) = some R := hh
  obtain ⟨n, hh⟩ := rn_i rfl rfl rfl rfl hh
  obtain ⟨n, hh⟩ := rn_i rfl rfl rfl rfl hh
  obtain ⟨n, hh⟩ := rn_gfo (g := 1) rfl rfl (by decide) g1' g3 hh
  obtain ⟨n, hh⟩ := rn_i rfl rfl rfl rfl hh
  obtain ⟨n, hh⟩ := rn_i rfl rfl rfl rfl hh
  obtain ⟨n, hh⟩ := rn_i rfl rfl rfl (pf_eq (f := 1) rfl rfl (by decide) (by decide) g1' g3) hh
  obtain ⟨n, hh⟩ := rn_i rfl rfl rfl rfl hh
  obtain ⟨n, hh⟩ := rn_i rfl rfl rfl rfl hh
  have e1 : nI n0 + Int32.ofInt 1 = nI (n0 + 1) := (Int32.ofNat_add n0 1).symm
  have hh : pm_run PT n fr lo 79 (16, [some (.ref 1), some (.int v), some (.int (s + Int32.ofInt (-8)))], [], va_up (va_up h 2 (.inl (1, 80, .inl (upd f n0 (chX v s))))) 1 (.inr (8, gs.set 1 (.int (nI n0 + Int32.ofInt 1)))), 198, sl) = some R := hh
  rw [e1] at hh
  refine ⟨n, _, ⟨⟨gs.set 1 (.int (nI (n0 + 1))), by simp [va_up], ?_, ?_⟩, by simp [va_up]⟩, hh⟩
  · rw [List.getElem?_set_ne (by decide)]; exact g2
  · rw [List.getElem?_set_self (List.getElem?_eq_some_iff.mp g3).1]
/-- the class's addFour -/
theorem ad_run (hn : n0 ≤ 80) (x : pT h n0 f) (hh : pm_run PT n fr lo 79 (0, pm_l0 [.ref 1, .int v] 3, [], h, 198, sl) = some R) : cond (decide (n0 ≤ 76)) (R.1 = some (.int 1) ∧ R.2.2 = (198, sl) ∧ pT R.2.1 (n0 + 4) (upd (upd (upd (upd f n0 (chX v 24)) (n0 + 1) (chX v 16)) (n0 + 2) (chX v 8)) (n0 + 3) (chX v 0))) (R = (some (.int (Int32.ofInt 0)), h, 198, sl)) := by
  obtain ⟨⟨gs, g1, g2, g3⟩, c1⟩ := id x
  obtain ⟨n, hh⟩ := rn_i rfl rfl rfl rfl hh
  obtain ⟨n, hh⟩ := rn_gfo (g := 1) rfl rfl (by decide) g1 g3 hh
  obtain ⟨n, hh⟩ := rn_i rfl rfl rfl rfl hh
  obtain ⟨n, hh⟩ := rn_i rfl rfl rfl rfl hh
  obtain ⟨n, hh⟩ := rn_i rfl rfl rfl rfl hh
  obtain ⟨n, hh⟩ := rn_icmp (cc := .le) (off := 5) (t := 13) rfl rfl hh
  have e4 : nI n0 + Int32.ofInt 4 = nI (n0 + 4) := (Int32.ofNat_add n0 4).symm
  have hh : pm_run PT n fr lo 79 (cond (pm_cmp .le (nI n0 + Int32.ofInt 4) (nI 80)) 13 11, [some (.ref 1), some (.int v), none], [], h, 198, sl) = some R := hh
  rw [e4, hI_le (by omega) (by omega)] at hh
  by_cases z : n0 ≤ 76
  · rw [decide_eq_true (show n0 + 4 ≤ 80 by omega)] at hh
    rw [decide_eq_true z]
    obtain ⟨n, hh⟩ := rn_i rfl rfl rfl rfl hh
    obtain ⟨n, hh⟩ := rn_i rfl rfl rfl rfl hh
    have hh : pm_run PT n fr lo 79 (16, [some (.ref 1), some (.int v), some (.int 24)], [], h, 198, sl) = some R := hh
    obtain ⟨n, h1, x1, hh⟩ := ad_step (by decide) (by omega) x hh
    have hh : pm_run PT n fr lo 79 (16, [some (.ref 1), some (.int v), some (.int 16)], [], h1, 198, sl) = some R := hh
    obtain ⟨n, h2, x2, hh⟩ := ad_step (by decide) (by omega) x1 hh
    have hh : pm_run PT n fr lo 79 (16, [some (.ref 1), some (.int v), some (.int 8)], [], h2, 198, sl) = some R := hh
    obtain ⟨n, h3, x3, hh⟩ := ad_step (by decide) (by omega) x2 hh
    have hh : pm_run PT n fr lo 79 (16, [some (.ref 1), some (.int v), some (.int 0)], [], h3, 198, sl) = some R := hh
    obtain ⟨n, h4, x4, hh⟩ := ad_step (by decide) (by omega) x3 hh
    have hh : pm_run PT n fr lo 79 (16, [some (.ref 1), some (.int v), some (.int (-8))], [], h4, 198, sl) = some R := hh
    obtain ⟨n, hh⟩ := rn_i rfl rfl rfl rfl hh
    obtain ⟨n, hh⟩ := rn_if (cc := .lt) (off := 36) (t := 53) rfl rfl hh
    have hh : pm_run PT n fr lo 79 (53, [some (.ref 1), some (.int v), some (.int (-8))], [], h4, 198, sl) = some R := hh
    obtain ⟨n, hh⟩ := rn_i rfl rfl rfl rfl hh
    have e := (rn_ret rfl (Or.inr rfl) hh).2
    subst e
    exact ⟨rfl, rfl, x4⟩
  · rw [decide_eq_false (show ¬ n0 + 4 ≤ 80 by omega)] at hh
    rw [decide_eq_false z]
    obtain ⟨n, hh⟩ := rn_i rfl rfl rfl rfl hh
    exact (rn_ret rfl (Or.inr rfl) hh).2
end SGN
end MG95xex3
section MG95xex4
/-! sign, both sides -/
section SGM
variable {n fr lo sl n0 k pc : Nat} {h h' : pm_H} {R : pm_Rs} {f g : Nat → Int32} {L : pm_L} {r : List Value} {v s : Int32}
def f4 (f : Nat → Int32) (n0 : Nat) (a b c d : Int32) : Nat → Int32 := upd (upd (upd (upd f n0 a) (n0 + 1) b) (n0 + 2) c) (n0 + 3) d
def s1P (ci f : Nat) : Bool := Nat.beq ci 10
def s1K (k : Nat) : Bool := Nat.beq k 79
theorem s1_ok : sf_ok s1P s1K := sf_of (N := [79]) (fun k h => by rw [Nat.eq_of_beq_eq_true h]; decide) (by decide +kernel)
theorem sf1_run {st : pm_St} (hh : pm_run PT n fr lo 79 st = some R) : fm (sfF s1P) st.2.2.2.1 R.2.1 := sf_run s1_ok n fr lo 79 st R rfl hh
theorem sgx_run (hn : n0 ≤ 80) (h0 : x0 h) (x : pT h n0 f) (hh : pm_run PT n fr lo 86 (0, pm_l0 [.ref 0, .int v] 2, [], h, 198, sl) = some R) : cond (decide (n0 ≤ 76)) (R.1 = some (.int (nI (n0 + 4))) ∧ pT R.2.1 (n0 + 4) (f4 f n0 (chX v 24) (chX v 16) (chX v 8) (chX v 0))) (R.1 = some (.int (Int32.ofInt (-1))) ∧ R.2.1 = h) := by
  obtain ⟨fs, a1, a2⟩ := h0
  obtain ⟨n, hh⟩ := rn_i rfl rfl rfl rfl hh
  obtain ⟨n, hh⟩ := rn_gfo (g := 0) rfl rfl (by decide) a1 a2 hh
  obtain ⟨n, hh⟩ := rn_i rfl rfl rfl rfl hh
  obtain ⟨n, fr', lo', r1, hr1, hh⟩ := rn_call (w := 0) (t := 79) rfl rfl hh
  have hx := ad_run hn x hr1
  by_cases z : n0 ≤ 76
  · rw [decide_eq_true z] at hx ⊢
    obtain ⟨e1, e2, x'⟩ := hx
    have hf2 := sf1_run hr1
    obtain ⟨rv, h1, s1⟩ := r1
    dsimp only at e1 e2 x' hf2
    subst e1
    subst e2
    obtain ⟨fs', b1, -, b2⟩ := hf2.2 0 10 fs a1
    obtain ⟨⟨gs, g1, g2, g3⟩, c1⟩ := id x'
    have hh : pm_run PT n fr lo 86 (8, [some (.ref 0), some (.int v)], [.int 1], h1, 198, sl) = some R := hh
    obtain ⟨n, hh⟩ := rn_if (cc := .eq) (off := 13) (t := 21) rfl rfl hh
    have hh : pm_run PT n fr lo 86 (11, [some (.ref 0), some (.int v)], [], h1, 198, sl) = some R := hh
    obtain ⟨n, hh⟩ := rn_i rfl rfl rfl rfl hh
    obtain ⟨n, hh⟩ := rn_gfo (g := 0) rfl rfl (by decide) b1 ((b2 0 rfl).trans a2) hh
    obtain ⟨n, hh⟩ := rn_gfo (g := 1) rfl rfl (by decide) g1 g3 hh
    obtain ⟨n, hh⟩ := rn_i rfl rfl rfl rfl hh
    have e := (rn_ret rfl (Or.inl rfl) hh).2
    subst e
    exact ⟨rfl, x'⟩
  · rw [decide_eq_false z] at hx ⊢
    subst hx
    have hh : pm_run PT n fr lo 86 (8, [some (.ref 0), some (.int v)], [.int 0], h, 198, sl) = some R := hh
    obtain ⟨n, hh⟩ := rn_if (cc := .eq) (off := 13) (t := 21) rfl rfl hh
    have hh : pm_run PT n fr lo 86 (21, [some (.ref 0), some (.int v)], [], h, 198, sl) = some R := hh
    obtain ⟨n, hh⟩ := rn_i rfl rfl rfl rfl hh
    have e := (rn_ret rfl (Or.inl rfl) hh).2
    subst e
    exact ⟨rfl, rfl⟩
/-- one sign of the reference -/
theorem sm_step {i : Nat} {e : Int32} (hi : i < 4) (hn : n0 ≤ 76) (he : (Int8.ofInt 24).toInt32 - (Int8.ofInt 8).toInt32 * nI i = e) (h15 : mF h 15 (.int (nI n0))) (h14 : mF h 14 (.ref 172)) (hA : h 172 = .inl (0, 80, .inl g)) (hh : pm_run PT n fr lo 178 (18, [some (.ref 162), some (.int v), some (.int (nI i))], [], h, 198, sl) = some R) : ∃ m, pm_run PT m fr lo 178 (18, [some (.ref 162), some (.int v), some (.int (nI (i + 1)))], [], aset h 172 80 (upd g (n0 + i) (chM v e)), 198, sl) = some R := by
  obtain ⟨n, hh⟩ := rn_i rfl rfl rfl rfl hh
  obtain ⟨n, hh⟩ := rn_i rfl rfl rfl rfl hh
  obtain ⟨n, hh⟩ := rn_icmp (cc := .ge) (off := 33) (t := 53) rfl rfl hh
  have ec : pm_cmp .ge (nI i) (Int32.ofInt 4) = false := by
    have := hI_ge (a := i) (b := 4) (by omega) (by omega)
    rw [decide_eq_false (by omega)] at this
    exact this
  rw [ec] at hh
  obtain ⟨n, hh⟩ := rn_i rfl rfl rfl rfl hh
  obtain ⟨n, hh⟩ := rn_gfm rfl rfl h14 hh
  obtain ⟨n, hh⟩ := rn_i rfl rfl rfl rfl hh
  obtain ⟨n, hh⟩ := rn_gfm rfl rfl h15 hh
  obtain ⟨n, hh⟩ := rn_i rfl rfl rfl rfl hh
  obtain ⟨n, hh⟩ := rn_i rfl rfl rfl rfl hh
  obtain ⟨n, hh⟩ := rn_i rfl rfl rfl rfl hh
  obtain ⟨n, hh⟩ := rn_i rfl rfl rfl rfl hh
  obtain ⟨n, hh⟩ := rn_i rfl rfl rfl rfl hh
  obtain ⟨n, hh⟩ := rn_i rfl rfl rfl rfl hh
  obtain ⟨n, hh⟩ := rn_i rfl rfl rfl rfl hh
  obtain ⟨n, hh⟩ := rn_i rfl rfl rfl rfl hh
  obtain ⟨n, hh⟩ := rn_i rfl rfl rfl rfl hh
  obtain ⟨n, hh⟩ := rn_i rfl rfl rfl rfl hh
  obtain ⟨n, hh⟩ := rn_i rfl rfl rfl rfl hh
  have e1 : nI n0 + nI i = nI (n0 + i) := nI_add n0 i
  have hh : pm_run PT n fr lo 178 (46, [some (.ref 162), some (.int v), some (.int (nI i))], [.int (chM v ((Int8.ofInt 24).toInt32 - (Int8.ofInt 8).toInt32 * nI i)), .int (nI n0 + nI i), .ref 172], h, 198, sl) = some R := hh
  rw [e1, he] at hh
  obtain ⟨n, hh⟩ := rn_ism rfl hA (hI_in (by omega) (by decide)) (by decide) hh
  rw [nI_clamp (by omega)] at hh
  obtain ⟨n, hh⟩ := rn_i rfl rfl rfl rfl hh
  obtain ⟨n, hh⟩ := rn_i rfl rfl rfl rfl hh
  have e2 : nI i + Int32.ofInt 1 = nI (i + 1) := (Int32.ofNat_add i 1).symm
  have hh : pm_run PT n fr lo 178 (18, [some (.ref 162), some (.int v), some (.int (nI i + Int32.ofInt 1))], [], aset h 172 80 (upd g (n0 + i) (chM v e)), 198, sl) = some R := hh
  rw [e2] at hh
  exact ⟨n, hh⟩
theorem sm_run {w : Int32} (hn : n0 ≤ 80) (h0 : mF h 0 (.int w)) (h15 : mF h 15 (.int (nI n0))) (h14 : mF h 14 (.ref 172)) (hA : h 172 = .inl (0, 80, .inl g)) (hh : pm_run PT n fr lo 178 (0, pm_l0 [.ref 162, .int v] 3, [], h, 198, sl) = some R) : cond (decide (n0 ≤ 76)) (R.1 = some (.int (nI (n0 + 4))) ∧ mF R.2.1 15 (.int (nI (n0 + 4))) ∧ R.2.1 172 = .inl (0, 80, .inl (f4 g n0 (chM v 24) (chM v 16) (chM v 8) (chM v 0)))) (R.1 = some (.int (Int32.ofInt (-1))) ∧ mF R.2.1 15 (.int (nI n0)) ∧ R.2.1 172 = .inl (0, 80, .inl g)) := by
  obtain ⟨n, hh⟩ := rn_i rfl rfl rfl rfl hh
  obtain ⟨n, hh⟩ := rn_i rfl rfl rfl rfl hh
  obtain ⟨n, hh⟩ := rn_pfm (w := .int w) rfl rfl rfl (by decide) h0 hh
  have q15 : mF (mset h 0 (.int (Int32.ofInt 0))) 15 (.int (nI n0)) := mF_ne (by decide) h15
  have q14 : mF (mset h 0 (.int (Int32.ofInt 0))) 14 (.ref 172) := mF_ne (by decide) h14
  have qA : mset h 0 (.int (Int32.ofInt 0)) 172 = .inl (0, 80, .inl g) := mset_arr (by decide) hA
  generalize mset h 0 (.int (Int32.ofInt 0)) = h1 at *
  obtain ⟨n, hh⟩ := rn_i rfl rfl rfl rfl hh
  obtain ⟨n, hh⟩ := rn_gfm rfl rfl q15 hh
  obtain ⟨n, hh⟩ := rn_i rfl rfl rfl rfl hh
  obtain ⟨n, hh⟩ := rn_icmp (cc := .le) (off := 5) (t := 16) rfl rfl hh
  have hh : pm_run PT n fr lo 178 (cond (pm_cmp .le (nI n0) (nI 76)) 16 14, [some (.ref 162), some (.int v), none], [], h1, 198, sl) = some R := hh
  rw [hI_le (by omega) (by omega)] at hh
  by_cases z : n0 ≤ 76
  · rw [decide_eq_true z] at hh ⊢
    obtain ⟨n, hh⟩ := rn_i rfl rfl rfl rfl hh
    obtain ⟨n, hh⟩ := rn_i rfl rfl rfl rfl hh
    have hh : pm_run PT n fr lo 178 (18, [some (.ref 162), some (.int v), some (.int (nI 0))], [], h1, 198, sl) = some R := hh
    obtain ⟨n, hh⟩ := sm_step (i := 0) (e := 24) (by decide) z (by decide) q15 q14 qA hh
    obtain ⟨n, hh⟩ := sm_step (i := 1) (e := 16) (by decide) z (by decide) (aset_mF (by decide) q15) (aset_mF (by decide) q14) asR_self hh
    obtain ⟨n, hh⟩ := sm_step (i := 2) (e := 8) (by decide) z (by decide) (aset_mF (by decide) (aset_mF (by decide) q15)) (aset_mF (by decide) (aset_mF (by decide) q14)) asR_self hh
    obtain ⟨n, hh⟩ := sm_step (i := 3) (e := 0) (by decide) z (by decide) (aset_mF (by decide) (aset_mF (by decide) (aset_mF (by decide) q15))) (aset_mF (by decide) (aset_mF (by decide) (aset_mF (by decide) q14))) asR_self hh
    have q15' : mF (aset (aset (aset (aset h1 172 80 (upd g (n0 + 0) (chM v 24))) 172 80 (upd (upd g (n0 + 0) (chM v 24)) (n0 + 1) (chM v 16))) 172 80 (upd (upd (upd g (n0 + 0) (chM v 24)) (n0 + 1) (chM v 16)) (n0 + 2) (chM v 8))) 172 80 (upd (upd (upd (upd g (n0 + 0) (chM v 24)) (n0 + 1) (chM v 16)) (n0 + 2) (chM v 8)) (n0 + 3) (chM v 0))) 15 (.int (nI n0)) := aset_mF (by decide) (aset_mF (by decide) (aset_mF (by decide) (aset_mF (by decide) q15)))
    obtain ⟨n, hh⟩ := rn_i rfl rfl rfl rfl hh
    obtain ⟨n, hh⟩ := rn_i rfl rfl rfl rfl hh
    obtain ⟨n, hh⟩ := rn_icmp (cc := .ge) (off := 33) (t := 53) rfl rfl hh
    have hh : pm_run PT n fr lo 178 (53, [some (.ref 162), some (.int v), some (.int (nI 4))], [], _, 198, sl) = some R := hh
    obtain ⟨n, hh⟩ := rn_i rfl rfl rfl rfl hh
    obtain ⟨n, hh⟩ := rn_i rfl rfl rfl rfl hh
    obtain ⟨n, hh⟩ := rn_gfm rfl rfl q15' hh
    obtain ⟨n, hh⟩ := rn_i rfl rfl rfl rfl hh
    obtain ⟨n, hh⟩ := rn_i rfl rfl rfl rfl hh
    obtain ⟨n, hh⟩ := rn_pfm (w := .int (nI n0)) rfl rfl rfl (by decide) q15' hh
    have e4 : nI n0 + Int32.ofInt 4 = nI (n0 + 4) := (Int32.ofNat_add n0 4).symm
    have qq := mF_self (v := .int (nI n0 + Int32.ofInt 4)) q15'
    obtain ⟨n, hh⟩ := rn_i rfl rfl rfl rfl hh
    obtain ⟨n, hh⟩ := rn_gfm rfl rfl qq hh
    have e := (rn_ret rfl (Or.inl rfl) hh).2
    subst e
    refine ⟨congrArg (fun q => some (Value.int q)) e4, e4 ▸ qq, mset_arr (by decide) asR_self⟩
  · rw [decide_eq_false z] at hh ⊢
    obtain ⟨n, hh⟩ := rn_i rfl rfl rfl rfl hh
    have e := (rn_ret rfl (Or.inl rfl) hh).2
    subst e
    exact ⟨rfl, q15, qA⟩
end SGM
end MG95xex4
section MG95xex5
/-! the signs: bits alone -/
section CHE
variable {v s : Int32}
theorem m255 : ∀ i : Fin 32, (255#32).getLsbD i.val = decide (i.val < 8) := by decide
theorem ch_b (x y : BitVec 32) (h : ∀ i, i < 8 → x.getLsbD i = y.getLsbD i) : x &&& 255#32 = y &&& 255#32 := by
  apply BitVec.eq_of_getLsbD_eq
  intro i hi
  rw [BitVec.getLsbD_and, BitVec.getLsbD_and, m255 ⟨i, hi⟩]
  by_cases z : i < 8
  · rw [h i z]
  · simp [z]
theorem ch_s (x : BitVec 32) (k : Nat) (hk : k ≤ 24) : (x >>> k) &&& 255#32 = (x.sshiftRight k) &&& 255#32 := by
  refine ch_b _ _ (fun i hi => ?_)
  rw [BitVec.getLsbD_ushiftRight, BitVec.getLsbD_sshiftRight]
  have h1 : ¬ 32 ≤ i := by omega
  have h2 : k + i < 32 := by omega
  simp [h1, h2]
theorem and_lt (b : BitVec 32) : (b &&& 255#32).toNat < 256 := by
  rw [BitVec.toNat_and]
  exact Nat.lt_of_le_of_lt Nat.and_le_right (by decide)
theorem mod_id {x : UInt32} (h : x.toNat < 256) : x % 65536 = x := by
  apply UInt32.toNat_inj.1
  rw [UInt32.toNat_mod]
  exact Nat.mod_eq_of_lt (by show x.toNat < 65536; omega)
theorem nar_id {y : Int32} (h : y.toUInt32.toNat < 256) : vp_nar .char y = y := by
  show (y.toUInt32 % 65536).toInt32 = y
  rw [mod_id h]
  exact Int32.toInt32_toUInt32 y
theorem ch_gen {k : Nat} (hk : k ≤ 24) (hx : ((v.toUInt32 >>> (s.toUInt32 &&& Int32.toUInt32 31)).toInt32).toBitVec = v.toBitVec >>> k) (hm : (v >>> (s &&& 31)).toBitVec = v.toBitVec.sshiftRight k) : chX v s = chM v s := by
  have e1 : ((v.toUInt32 >>> (s.toUInt32 &&& Int32.toUInt32 31)).toInt32 &&& (Int16.ofInt 255).toInt32).toBitVec = (v.toBitVec >>> k) &&& 255#32 := by
    rw [Int32.toBitVec_and, hx]
    rfl
  have e2 : (chM v s).toBitVec = (v.toBitVec.sshiftRight k) &&& 255#32 := by
    unfold chM
    rw [Int32.toBitVec_and, hm]
    rfl
  unfold chX
  generalize ((v.toUInt32 >>> (s.toUInt32 &&& Int32.toUInt32 31)).toInt32 &&& (Int16.ofInt 255).toInt32) = z at e1 ⊢
  have hz : z.toUInt32.toNat < 256 := by
    show z.toBitVec.toNat < 256
    rw [e1]
    exact and_lt _
  rw [mod_id hz, Int32.toInt32_toUInt32, nar_id hz]
  apply Int32.toBitVec_inj.1
  rw [e1, e2, ch_s _ k hk]
theorem ch_24 : chX v 24 = chM v 24 := ch_gen (k := 24) (by decide) rfl rfl
theorem ch_16 : chX v 16 = chM v 16 := ch_gen (k := 16) (by decide) rfl rfl
theorem ch_8 : chX v 8 = chM v 8 := ch_gen (k := 8) (by decide) rfl rfl
theorem ch_0 : chX v 0 = chM v 0 := ch_gen (k := 0) (by decide) rfl rfl
end CHE
end MG95xex5
end MH95xdx1
section MH95xdx2
/-! THE TEXT of both, and how many COURTS: what is kept beside mInv -/
section RL4
variable {P : pm_St → Prop} {sl bS Ln i pc n fr lo k : Nat} {xs : Nat → Int32} {L : pm_L} {h h1 : pm_H} {R : pm_Rs}
def nrA (i : Nat) : Bool := Nat.beq i 172
def nrG (ci f : Nat) : Bool := Nat.beq ci 11 && Nat.beq f 14
def av_has (a : av) (p : Nat) : Bool := Nat.beq a.1 2 && (av_ids a).contains p
def nr_tc (c : ac) : Bool := match c with
  | .inr (ci, as) => (List.range as.length).all (fun f => nrG ci f || (match as[f]? with
    | some a => !(av_has a 172)
    | none => true))
  | .inl (_, n, a) => (List.range n).all (fun j => !(av_has (aq a j) 172))
theorem nr_tb : (List.range 198).all (fun i => nr_tc (bB i)) = true := by decide +kernel
theorem nrv_av {v : Value} {a : av} (hv : av_ok v a) (ha : av_has a 172 = false) : nrv nrA v := by
  intro p e
  subst e
  cases hp : nrA p with
  | false => rfl
  | true =>
    exfalso
    have ep := Nat.eq_of_beq_eq_true hp
    subst ep
    obtain ⟨h1, h2⟩ := hv
    unfold av_has at ha
    rw [h1] at ha
    have : (av_ids a).contains 172 = true := List.elem_iff.mpr h2
    rw [this] at ha
    cases ha
theorem nrH_ty (hh : ah_ok bB 198 [] h) : nrH nrA nrG h := by
  refine ⟨fun i ci fs hi e f v hv hG => ?_, fun i kd n f hi e j hj => ?_⟩
  · have h0 := hh i hi
    have hb := List.all_eq_true.mp nr_tb i (List.mem_range.mpr hi)
    rw [show ah_get bB [] i = bB i from rfl, e] at h0
    cases hB : bB i with
    | inl q =>
      rw [hB] at h0
      exact h0.elim
    | inr q =>
      obtain ⟨ci', as⟩ := q
      rw [hB] at h0 hb
      obtain ⟨⟨h1, -⟩, h2, h3⟩ := h0
      subst h1
      have hf : f < as.length := by rw [← h2]; exact (List.getElem?_eq_some_iff.mp hv).1
      have hq := List.all_eq_true.mp hb f (List.mem_range.mpr hf)
      rw [hG, Bool.false_or, List.getElem?_eq_getElem hf] at hq
      exact nrv_av (h3 f v _ hv (List.getElem?_eq_getElem hf)) (by simpa using hq)
  · have h0 := hh i hi
    have hb := List.all_eq_true.mp nr_tb i (List.mem_range.mpr hi)
    rw [show ah_get bB [] i = bB i from rfl, e] at h0
    cases hB : bB i with
    | inl q =>
      obtain ⟨kd', n', a⟩ := q
      rw [hB] at h0 hb
      obtain ⟨h1, h2, h3⟩ := h0
      subst h2
      exact nrv_av (h3 j hj) (by simpa using List.all_eq_true.mp hb j (List.mem_range.mpr hj))
    | inr q =>
      rw [hB] at h0
      exact h0.elim
/-- the reference's calls that neither read nor write what the relation speaks of -/
def sM (ci f : Nat) : Bool := Nat.beq ci 11 && (Nat.beq f 15 || (Nat.beq f 3 || Nat.beq f 14))
def sMX : List Nat := [0, 6, 15, 22, 45, 52, 57, 72, 78, 82, 85, 91, 92, 93, 128, 161, 178, 179, 180, 181, 182, 183, 184, 185, 187, 188, 191, 192, 194, 195, 196, 198, 226, 228, 258]
def sMK : Nat → Bool := sf_X sMX
theorem sM_all : ((List.range 271).filter (fun k => !(sMX.any (fun x => Nat.beq x k)))).all (fun k => sf_b sM sMK k && nr_b nrG sMK k) = true := gz_lift (X := sMX) (g := fun k => gz_sg sM sMK k && gz_ng nrG sMK k) (by decide +kernel) (gz_2 gz_sf gz_nr) (by decide +kernel)
theorem sM_ok : sf_ok sM sMK := sf_of sf_X_in (List.all_eq_true.mpr (fun k hk => ((Bool.and_eq_true _ _).mp (List.all_eq_true.mp sM_all k hk)).1))
theorem sM_nr : nr_ok nrG sMK := nr_of sf_X_in (List.all_eq_true.mpr (fun k hk => ((Bool.and_eq_true _ _).mp (List.all_eq_true.mp sM_all k hk)).2))
/-- all calls but courts leave the number of COURTS alone -/
def sC (ci f : Nat) : Bool := (Nat.beq ci 3 && Nat.beq f 0) || (Nat.beq ci 11 && Nat.beq f 3)
def sCX : List Nat := [0, 6, 15, 22, 45, 52, 57, 72, 78, 82, 85, 88, 91, 92, 93, 128, 161, 188]
def sCK : Nat → Bool := sf_X sCX
theorem sC_all : ((List.range 271).filter (fun k => !(sCX.any (fun x => Nat.beq x k)))).all (sf_b sC sCK) = true := gz_lift (X := sCX) (g := gz_sg sC sCK) (by decide +kernel) (fun k q h => gz_sf k q h) (by decide +kernel)
theorem sC_ok : sf_ok sC sCK := sf_of sf_X_in sC_all
def REL4 (h : pm_H) : Prop := ∃ (n0 cc : Nat) (f g : Nat → Int32), n0 ≤ 80 ∧ cc ≤ 6 ∧ (pT h n0 f ∧ rC h (.int (nI cc))) ∧ (mF h 15 (.int (nI n0)) ∧ h 172 = .inl (0, 80, .inl g) ∧ mF h 3 (.int (nI cc))) ∧ ∀ j, j < n0 → f j = g j
def LI4 (h : pm_H) : Prop := mInv h ∧ REL4 h
theorem pT_fm {n0 : Nat} {f : Nat → Int32} (q : fm (sfF sQ) h h1) (a : akp 1 h h1) (x : pT h n0 f) : pT h1 n0 f := by
  obtain ⟨⟨gs, b1, b2, b3⟩, c1⟩ := x
  obtain ⟨gs', g1, -, g2⟩ := q.2 1 8 gs b1
  exact ⟨⟨gs', g1, (g2 0 rfl).trans b2, (g2 1 rfl).trans b3⟩, a 2 _ c1⟩
theorem pT_lo {n0 : Nat} {f : Nat → Int32} (q : ∀ i, i < 162 → h1 i = h i) (x : pT h n0 f) : pT h1 n0 f := by
  obtain ⟨⟨gs, b1, b2, b3⟩, c1⟩ := x
  exact ⟨⟨gs, (q 1 (by decide)).trans b1, b2, b3⟩, (q 2 (by decide)).trans c1⟩
theorem rC_lo {v : Value} (q : ∀ i, i < 162 → h1 i = h i) (x : rC h v) : rC h1 v := by
  obtain ⟨rs, b1, b2⟩ := x
  exact ⟨rs, (q 5 (by decide)).trans b1, b2⟩
theorem rC_fm {F : Nat → Nat → Bool} (hF : F 3 0 = true) {v : Value} (q : fm (sfF F) h h1) (x : rC h v) : rC h1 v := by
  obtain ⟨rs, b1, b2⟩ := x
  obtain ⟨rs', g1, -, g2⟩ := q.2 5 3 rs b1
  exact ⟨rs', g1, (g2 0 hF).trans b2⟩
theorem mF_hi {g : Nat} {v : Value} (q : fm cxF h h1) (x : mF h g v) : mF h1 g v := by
  obtain ⟨fs, e1, e2⟩ := x
  exact ⟨fs, (q.1 162 rfl).trans e1, e2⟩
theorem twX_LI4 (hI : LI4 h) (q : twX h h1) : LI4 h1 := by
  refine ⟨twX_inv hI.1 q, ?_⟩
  obtain ⟨n0, cc, f, g, r1, r2, ⟨⟨⟨gs, b1, b2, b3⟩, c1⟩, rs, d1, d2⟩, ⟨⟨ms, m1, m2⟩, t1, ms', m1', m2'⟩, hj⟩ := hI.2
  exact ⟨n0, cc, f, g, r1, r2, ⟨⟨⟨gs, (q.1 1 (by decide)).trans b1, b2, b3⟩, (q.1 2 (by decide)).trans c1⟩, rs, (q.1 5 (by decide)).trans d1, d2⟩, ⟨⟨ms, (q.1 162 (by decide)).trans m1, m2⟩, (q.1 172 (by decide)).trans t1, ms', (q.1 162 (by decide)).trans m1', m2'⟩, hj⟩
/-- what a call of the reference outside of sMX leaves alone -/
theorem m_keeps {As : List Value} {mx : Nat} (hk : sMK k = true) (hI : mInv h) (hA : nrS nrA As) (hh : pm_run PT n fr lo k (0, pm_l0 As mx, [], h, 198, sl) = some R) : fm (sfF sM) h R.2.1 ∧ R.2.1 172 = h 172 := by
  refine ⟨sf_run sM_ok n fr lo k _ R hk hh, ?_⟩
  exact (nr_run sM_nr sM_ok n fr lo k _ R hk (Nat.le_refl _) ⟨nrL_l0 hA, fun v hv => absurd hv (by simp), nrH_ty hI.1⟩ hh).2 172 rfl
theorem nrS_ints (vs : List Int32) : nrS nrA (.ref 162 :: vs.map Value.int) := by
  refine nrS_cons.mpr ⟨fun p e => by cases e; rfl, fun v hv => ?_⟩
  obtain ⟨x, -, rfl⟩ := List.mem_map.mp hv
  exact nrv_i x
end RL4
end MH95xdx2
section MH95xdx3
/-! turns that keep both texts and both numbers of COURTS alike -/
section TR4
variable {P : pm_St → Prop} {sl bS Ln i pc n fr lo : Nat} {xs : Nat → Int32} {L : pm_L} {h h1 h2 : pm_H} {R : pm_Rs}
theorem REL_x (q : fm cxF h h1) (p : fm (sfF sQ) h h1 ∧ akp 1 h h1) (r : REL4 h) : REL4 h1 := by
  obtain ⟨n0, cc, f, g, r1, r2, ⟨x1, x2⟩, ⟨y1, y2, y3⟩, hj⟩ := r
  exact ⟨n0, cc, f, g, r1, r2, ⟨pT_fm p.1 p.2 x1, rC_fm rfl p.1 x2⟩, ⟨mF_hi q y1, (q.1 172 rfl).trans y2, mF_hi q y3⟩, hj⟩
theorem REL_m (q : ∀ i, i < 162 → h2 i = h1 i) (p : fm (sfF sM) h1 h2 ∧ h2 172 = h1 172) (r : REL4 h1) : REL4 h2 := by
  obtain ⟨n0, cc, f, g, r1, r2, ⟨x1, x2⟩, ⟨y1, y2, y3⟩, hj⟩ := r
  exact ⟨n0, cc, f, g, r1, r2, ⟨pT_lo q x1, rC_lo q x2⟩, ⟨fm_mF p.1 rfl y1, p.2.trans y2, fm_mF p.1 rfl y3⟩, hj⟩
/-- what both calls do -/
def twoWP4 (sl : Nat) (h : pm_H) (kx km : Nat) (As : List Value) : Prop := pm_WP PT 2047 (84000 - (19 + pm_max PT kx)) kx (0, pm_l0 (.ref 0 :: As) (pm_max PT kx), [], h, 198, sl) (fun q => q.2.2 = (198, sl) ∧ ∃ v : Int32, q.1 = some (.int v) ∧ (∃ f2, q.2.1 162 = .inr (11, f2)) ∧ pm_WP PT 2047 (84000 - (19 + pm_max PT km)) km (0, pm_l0 (.ref 162 :: As) (pm_max PT km), [], q.2) (fun y => y.1 = some (.int v) ∧ y.2.2 = (198, sl) ∧ LI4 y.2.1))
theorem ty_gs (hh : ah_ok bB 198 [] h) : ∃ gs w, h 1 = .inr (8, gs) ∧ gs[0]? = some (.ref 2) ∧ gs[1]? = some w := by
  have h0 := hh 1 (by decide)
  obtain ⟨fs, ef, hl, hg⟩ := aE_obj (ci := 8) (as := asT) h0 (by decide)
  have hlf : 0 < fs.length := by rw [hl]; exact Nat.le_of_ble_eq_true rfl
  have hlf1 : 1 < fs.length := by rw [hl]; exact Nat.le_of_ble_eq_true rfl
  have ev : fs[0]? = some fs[0] := List.getElem?_eq_getElem hlf
  have hv := hg 0 _ (2, 2, 1) ev rfl
  have hr : fs[0] = .ref 2 := by
    cases e : fs[0] with
    | ref p =>
      rw [e] at hv
      have := hv.2
      rw [show p = 2 from List.mem_singleton.mp this]
    | null => rw [e] at hv; exact absurd (show (2 : Nat) = 3 from hv) (by decide)
    | _ => rw [e] at hv; first | exact hv.elim | (cases hv.1)
  exact ⟨fs, fs[1], ef, by rw [ev, hr], List.getElem?_eq_getElem hlf1⟩
def asCh : av := match bB 2 with
  | .inl (_, _, a) => a
  | _ => (0, 0, 0)
def asTp : av := match bB 172 with
  | .inl (_, _, a) => a
  | _ => (0, 0, 0)
def asRd : List av := match bB 173 with
  | .inr (_, as) => as
  | _ => []
theorem ty_2 (hh : ah_ok bB 198 [] h) : ∃ f, h 2 = .inl (1, 80, .inl f) := by
  obtain ⟨f, e, -⟩ := aE_int (kd := 1) (n := 80) (a := asCh) (hh 2 (by decide)) rfl (by decide)
  exact ⟨f, e⟩
theorem ty_172 (hh : ah_ok bB 198 [] h) : ∃ f, h 172 = .inl (0, 80, .inl f) := by
  obtain ⟨f, e, -⟩ := aE_int (kd := 0) (n := 80) (a := asTp) (hh 172 (by decide)) rfl (by decide)
  exact ⟨f, e⟩
theorem ac_ely {e : pm_E} {kd : Nat} {as : List av} (q : ac_ok e (.inr (1000 + kd, as))) : ∃ f, e = .inl (kd, as.length, .inl f) := by
  obtain ⟨k, m, f | f | f | f | f⟩ | ⟨ci, fs⟩ := e
  · obtain ⟨h1, h2, -⟩ := q
    have : k = kd := by omega
    subst this
    subst h2
    exact ⟨f, rfl⟩
  · exact q.elim
  · exact q.elim
  · exact q.elim
  · exact q.elim
  · obtain ⟨⟨h1, h2⟩, -⟩ := q
    exact absurd h2 (by omega)
theorem ty_173 (hh : ah_ok bB 198 [] h) : ∃ f, h 173 = .inl (0, 36, .inl f) := by
  obtain ⟨f, e⟩ := ac_ely (kd := 0) (as := asRd) (hh 173 (by decide))
  exact ⟨f, e⟩
theorem ty_mi (hh : ah_ok bB 198 [] h) (g : Nat) (hg : Nat.beq ((asM.getD g (3, 0, 0)).1) 0 = true) (hl : g < asM.length) : ∃ w : Int32, mF h g (.int w) := by
  have e : asM[g]? = some (asM.getD g (3, 0, 0)) := by rw [List.getD_eq_getElem?_getD, List.getElem?_eq_getElem hl]; rfl
  obtain ⟨v, m, a⟩ := ob_fld (o := []) hh asM_eq e
  obtain ⟨x, rfl, -⟩ := av_int (Nat.eq_of_beq_eq_true hg) a
  exact ⟨x, m⟩
theorem ty_mr (hh : ah_ok bB 198 [] h) {g c : Nat} (e : asM[g]? = some (2, (c : Int), 1)) (hc : av_ids (2, (c : Int), 1) = [c]) : mF h g (.ref c) := by
  obtain ⟨v, m, a⟩ := ob_fld (o := []) hh asM_eq e
  cases v with
  | ref p =>
    have := a.2
    rw [hc] at this
    rw [List.mem_singleton.mp this] at m
    exact m
  | null => exact absurd (show (2 : Nat) = 3 from a) (by decide)
  | _ => first | exact a.elim | (cases a.1)
theorem ty_m14 (hh : ah_ok bB 198 [] h) : mF h 14 (.ref 172) := ty_mr (c := 172) hh rfl rfl
theorem ty_m19 (hh : ah_ok bB 198 [] h) : mF h 19 (.ref 173) := ty_mr (c := 173) hh rfl rfl
end TR4
end MH95xdx3
section MH95xdx4
/-! sign, end, courts and the other readers of THE TEXT: their turns -/
section TU4
variable {P : pm_St → Prop} {sl bS Ln i pc n fr lo : Nat} {xs : Nat → Int32} {L : pm_L} {h h1 h2 : pm_H} {R : pm_Rs}
theorem pT_ty {m : Nat} {f : Nat → Int32} (hh : ah_ok bB 198 [] h) (c : cT h (.int (nI m))) (e : h 2 = .inl (1, 80, .inl f)) : pT h m f := by
  obtain ⟨gs, w, a1, a2, a3⟩ := ty_gs hh
  obtain ⟨gs', b1, b2⟩ := c
  rw [a1] at b1
  cases b1
  exact ⟨⟨gs, a1, a2, b2⟩, e⟩
theorem pT_cT {m : Nat} {f : Nat → Int32} (x : pT h m f) : cT h (.int (nI m)) := by
  obtain ⟨⟨gs, a1, a2, a3⟩, -⟩ := x
  exact ⟨gs, a1, a3⟩
theorem f4_eq {f g : Nat → Int32} {n0 : Nat} {a b c d : Int32} (hj : ∀ j, j < n0 → f j = g j) : ∀ j, j < n0 + 4 → f4 f n0 a b c d j = f4 g n0 a b c d j := by
  intro j hlt
  unfold f4 upd
  by_cases z : j < n0
  · rw [if_neg (by omega), if_neg (by omega), if_neg (by omega), if_neg (by omega), if_neg (by omega), if_neg (by omega), if_neg (by omega), if_neg (by omega)]
    exact hj j z
  · by_cases z3 : j = n0 + 3
    · rw [if_pos z3, if_pos z3]
    · rw [if_neg z3, if_neg z3]
      by_cases z2 : j = n0 + 2
      · rw [if_pos z2, if_pos z2]
      · rw [if_neg z2, if_neg z2]
        by_cases z1 : j = n0 + 1
        · rw [if_pos z1, if_pos z1]
        · rw [if_neg z1, if_neg z1, if_pos (by omega), if_pos (by omega)]
theorem rC_runs {k mx : Nat} {As : List Value} {v : Value} (hk : sCK k = true) (x : rC h v) (hh : pm_run PT n fr lo k (0, pm_l0 As mx, [], h, 198, sl) = some R) : rC R.2.1 v := rC_fm rfl (sf_run sC_ok n fr lo k _ R hk hh) x
theorem m3_runs {k mx : Nat} {As : List Value} {v : Value} (hk : sCK k = true) (x : mF h 3 v) (hh : pm_run PT n fr lo k (0, pm_l0 As mx, [], h, 198, sl) = some R) : mF R.2.1 3 v := fm_mF (sf_run sC_ok n fr lo k _ R hk hh) rfl x
theorem sg_two4 (hI : LI4 h) (v : Int32) : twoWP4 sl h 86 178 [.int v] := by
  obtain ⟨hI0, n0, cc, f, g, hn, hc, ⟨x1, x2⟩, ⟨y1, y2, y3⟩, hj⟩ := hI
  refine wp_mono (wp_runs (Z := fun r => cond (decide (n0 ≤ 76)) (r.1 = some (.int (nI (n0 + 4))) ∧ pT r.2.1 (n0 + 4) (f4 f n0 (chX v 24) (chX v 16) (chX v 8) (chX v 0))) (r.1 = some (.int (Int32.ofInt (-1))) ∧ r.2.1 = h) ∧ rC r.2.1 (.int (nI cc))) (cxw_sign [.ref 0, .int v] h 2047 (84000 - (19 + pm_max PT 86)) sl ⟨⟨rfl, List.mem_singleton_self _⟩, ai_top_ok _, trivial⟩ hI0.1 trivial (Nat.le_of_ble_eq_true rfl) (Nat.le_of_ble_eq_true rfl)) (fun m r hh => ⟨sgx_run hn (ty_x0 hI0.1) x1 hh, rC_runs rfl x2 hh⟩)) ?_
  rintro ⟨rv, h1, s1⟩ ⟨⟨-, q1, ⟨q2, -⟩, q3⟩, p1, p2⟩
  cases q1
  dsimp only at p1 p2
  have hI1 := cx_inv hI0 q2 q3
  obtain ⟨w, hw⟩ := ty_m0 hI1.1
  have hr := wp_runs (Z := fun r => cond (decide (n0 ≤ 76)) (r.1 = some (.int (nI (n0 + 4))) ∧ mF r.2.1 15 (.int (nI (n0 + 4))) ∧ r.2.1 172 = .inl (0, 80, .inl (f4 g n0 (chM v 24) (chM v 16) (chM v 8) (chM v 0)))) (r.1 = some (.int (Int32.ofInt (-1))) ∧ mF r.2.1 15 (.int (nI n0)) ∧ r.2.1 172 = .inl (0, 80, .inl g)) ∧ mF r.2.1 3 (.int (nI cc))) (hm_sign hI1 v (sl := sl) (fr := 2047) (lo := 84000 - (19 + pm_max PT 178)) (Nat.le_of_ble_eq_true rfl) (Nat.le_of_ble_eq_true rfl)) (fun m r hh => ⟨sm_run hn hw (mF_hi q2 y1) (ty_m14 hI1.1) ((q2.1 172 rfl).trans y2) hh, m3_runs rfl (mF_hi q2 y3) hh⟩)
  by_cases z : n0 ≤ 76
  · rw [decide_eq_true z] at p1 hr
    obtain ⟨e1, e2⟩ := p1
    subst e1
    refine ⟨rfl, _, rfl, ty_162 hI1.1, wp_mono hr ?_⟩
    rintro ⟨rv2, h2, s2⟩ ⟨⟨a1, a2, a3, a4⟩, ⟨b1, b2, b3⟩, b4⟩
    dsimp only at a2 a3 a4 b1 b2 b3 b4
    cases a2
    refine ⟨b1, rfl, a4, n0 + 4, cc, _, _, by omega, hc, ⟨pT_lo a3 e2, rC_lo a3 p2⟩, ⟨b2, b3, b4⟩, ?_⟩
    rw [ch_24, ch_16, ch_8, ch_0]
    exact f4_eq hj
  · rw [decide_eq_false z] at p1 hr
    obtain ⟨e1, e2⟩ := p1
    subst e1
    subst e2
    refine ⟨rfl, _, rfl, ty_162 hI1.1, wp_mono hr ?_⟩
    rintro ⟨rv2, h2, s2⟩ ⟨⟨a1, a2, a3, a4⟩, ⟨b1, b2, b3⟩, b4⟩
    dsimp only at a2 a3 a4 b1 b2 b3 b4
    cases a2
    exact ⟨b1, rfl, a4, n0, cc, f, g, hn, hc, ⟨pT_lo a3 x1, rC_lo a3 p2⟩, ⟨b2, b3, b4⟩, hj⟩
/-- methods that write no char array; methods that can't reach the reference's tape -/
def akX : List Nat := [0, 6, 15, 22, 45, 52, 57, 72, 78, 79, 82, 85, 86, 91, 92, 93, 128, 161]
theorem ak2_all : ((List.range 271).filter (fun k => !(akX.any (fun x => Nat.beq x k)))).all (ak_b 1 (sf_X akX)) = true := gz_lift (X := akX) (g := gz_ag 1 (sf_X akX)) (by decide +kernel) (fun k q h => gz_ak k q h) (by decide +kernel)
theorem ak2_ok : ak_ok 1 (sf_X akX) := ak_of sf_X_in ak2_all
def nrX : List Nat := [0, 6, 15, 22, 45, 52, 57, 72, 78, 82, 85, 91, 92, 93, 128, 161, 178, 181, 182, 183, 184, 185, 187, 188, 191, 192, 194, 195, 196, 198, 226, 228, 258]
theorem nr2_all : ((List.range 271).filter (fun k => !(nrX.any (fun x => Nat.beq x k)))).all (fun k => sf_b (fun _ _ => false) (sf_X nrX) k && nr_b nrG (sf_X nrX) k) = true := gz_lift (X := nrX) (g := fun k => gz_sg (fun _ _ => false) (sf_X nrX) k && gz_ng nrG (sf_X nrX) k) (by decide +kernel) (gz_2 gz_sf gz_nr) (by decide +kernel)
theorem nr2_sf : sf_ok (fun _ _ => false) (sf_X nrX) := sf_of sf_X_in (List.all_eq_true.mpr (fun k hk => ((Bool.and_eq_true _ _).mp (List.all_eq_true.mp nr2_all k hk)).1))
theorem nr2_ok : nr_ok nrG (sf_X nrX) := nr_of sf_X_in (List.all_eq_true.mpr (fun k hk => ((Bool.and_eq_true _ _).mp (List.all_eq_true.mp nr2_all k hk)).2))
theorem en_two4 (hI : LI4 h) (y : Int32) : twoWP4 sl h 87 179 [.int y] := by
  obtain ⟨hI0, c, cc, f, g, hc, hcc, ⟨x1, x2⟩, ⟨r2, y2, y3⟩, hj⟩ := hI
  refine wp_mono (wp_runs (Z := fun r => akp 1 h r.2.1 ∧ rC r.2.1 (.int (nI cc))) (wp_det (cxw_end [.ref 0, .int y] h 2047 (84000 - (19 + pm_max PT 87)) sl ⟨⟨rfl, List.mem_singleton_self _⟩, ai_top_ok _, trivial⟩ hI0.1 trivial (Nat.le_of_ble_eq_true rfl) (Nat.le_of_ble_eq_true rfl)) (en_x (fs := []) hc (ty_x0 hI0.1) (pT_cT x1) y)) (fun m r hh => ⟨ak_run (by decide) ak2_ok m _ _ 87 _ r rfl hh, rC_runs rfl x2 hh⟩)) ?_
  rintro ⟨rv, h1, s1⟩ ⟨⟨⟨-, q1, ⟨q2, -⟩, q3⟩, p1, p2⟩, u1, u2⟩
  cases q1
  dsimp only at p1 p2 u1 u2
  have hI1 := cx_inv hI0 q2 q3
  obtain ⟨w, hw⟩ := ty_m0 hI1.1
  have r2' : mF h1 15 (.int (nI c)) := mF_hi q2 r2
  refine ⟨rfl, _, p1, ty_162 hI1.1, ?_⟩
  refine wp_mono (wp_runs (Z := fun r => r.2.1 172 = h1 172 ∧ mF r.2.1 3 (.int (nI cc))) (wp_det (hm_end hI1 y (fr := 2047) (lo := 84000 - (19 + pm_max PT 179)) (Nat.le_of_ble_eq_true rfl) (Nat.le_of_ble_eq_true rfl)) (en_m hc hw r2' y (Nat.le_of_ble_eq_true rfl) (Nat.le_of_ble_eq_true rfl))) (fun m r hh => ⟨(nr_run nr2_ok nr2_sf m _ _ 179 _ r rfl (Nat.le_refl _) ⟨nrL_l0 (nrS_ints [y]), fun v hv => absurd hv (by simp), nrH_ty hI1.1⟩ hh).2 172 rfl, m3_runs rfl (mF_hi q2 y3) hh⟩)) ?_
  rintro ⟨rv2, h2, s2⟩ ⟨⟨⟨a1, a2, a3, a4⟩, b1, b2⟩, v1, v2⟩
  dsimp only at a2 a3 a4 b1 b2 v1 v2
  cases a2
  refine ⟨b1, rfl, a4, ?_⟩
  have e2 : h1 2 = .inl (1, 80, .inl f) := u1 2 _ x1.2
  have e172 : h2 172 = .inl (0, 80, .inl g) := v1.trans ((q2.1 172 rfl).trans y2)
  cases hd : decide (0 ≤ y.toInt ∧ y.toInt ≤ (c : Int)) with
  | false =>
    rw [hd] at p2 b2
    exact ⟨c, cc, f, g, hc, hcc, ⟨pT_lo a3 (pT_ty hI1.1 p2 e2), rC_lo a3 u2⟩, ⟨b2, e172, v2⟩, hj⟩
  | true =>
    rw [hd] at p2 b2
    have hd := of_decide_eq_true hd
    obtain ⟨j, rfl, hjj, ej⟩ := hI_of (show 0 ≤ y.toInt by omega)
    exact ⟨j, cc, f, g, by omega, hcc, ⟨pT_lo a3 (pT_ty hI1.1 p2 e2), rC_lo a3 u2⟩, ⟨b2, e172, v2⟩, fun q hq => hj q (by omega)⟩
/-- what holds when both texts are empty -/
theorem REL_0 {cc : Nat} (hI1 : mInv h1) (hI2 : mInv h2) (hc : cc ≤ 6) (a3 : ∀ i, i < 162 → h2 i = h1 i) (c : cT h1 (.int 0)) (r : rC h1 (.int (nI cc))) (z : zT h2) (m : mF h2 3 (.int (nI cc))) : REL4 h2 := by
  obtain ⟨f, e2⟩ := ty_2 hI1.1
  obtain ⟨g, e172⟩ := ty_172 hI2.1
  exact ⟨0, cc, f, g, by decide, hc, ⟨pT_lo a3 (pT_ty (m := 0) hI1.1 c e2), rC_lo a3 r⟩, ⟨z, e172, m⟩, fun j hj => absurd hj (by omega)⟩
theorem ty_x2 (hh : ah_ok bB 198 [] h) : ∃ fs, h 0 = .inr (10, fs) ∧ fs[0]? = some (.ref 1) ∧ fs[2]? = some (.ref 5) := by
  obtain ⟨fs, a1, a2⟩ := ty_x0 hh
  have h0 := hh 0 (by decide)
  obtain ⟨fs', ef, hl, hg⟩ := aE_obj (ci := 10) (as := asX0) h0 (by decide)
  rw [a1] at ef
  cases ef
  have hlf : 2 < fs.length := by rw [hl]; exact Nat.le_of_ble_eq_true rfl
  have ev : fs[2]? = some fs[2] := List.getElem?_eq_getElem hlf
  have hv := hg 2 _ (2, 5, 1) ev rfl
  have hr : fs[2] = .ref 5 := by
    cases e : fs[2] with
    | ref p =>
      rw [e] at hv
      have := hv.2
      rw [show p = 5 from List.mem_singleton.mp this]
    | null => rw [e] at hv; exact absurd (show (2 : Nat) = 3 from hv) (by decide)
    | _ => rw [e] at hv; first | exact hv.elim | (cases hv.1)
  exact ⟨fs, a1, a2, by rw [ev, hr]⟩
theorem co_two4 (hI : LI4 h) : twoWP4 sl h 88 188 [] := by
  obtain ⟨hI0, n0, cc, f, g, hn, hc, ⟨x1, x2⟩, ⟨y1, y2, y3⟩, hj⟩ := hI
  obtain ⟨eA, eN⟩ := cm_both hn hc hj
  have hN6 : cc + cmN g n0 cc ≤ 6 := by
    rcases eN with ⟨-, q⟩ | ⟨-, q⟩
    · exact q
    · omega
  have px : pX h n0 cc f := by
    obtain ⟨fs, a1, a2, a3⟩ := ty_x2 hI0.1
    exact ⟨⟨fs, a1, a2, a3⟩, x1.1, x1.2, x2⟩
  refine wp_mono (wp_runs (Z := fun r => (r.1 = some (.int (xR n0 cc f)) ∧ rC r.2.1 (.int (nI (cc + cmN g n0 cc)))) ∧ cT r.2.1 (.int 0)) (cxw_courts [.ref 0] h 2047 (84000 - (19 + pm_max PT 88)) sl ⟨⟨rfl, List.mem_singleton_self _⟩, trivial⟩ hI0.1 trivial (Nat.le_of_ble_eq_true rfl) (Nat.le_of_ble_eq_true rfl)) (fun m r hh => ⟨xc_run hn hc px eN hh, zx_courts (ty_x0 hI0.1) (pT_cT x1) hh⟩)) ?_
  rintro ⟨rv, h1, s1⟩ ⟨⟨-, q1, ⟨q2, -⟩, q3⟩, ⟨p1, p2⟩, p3⟩
  cases q1
  dsimp only at p1 p2 p3
  have hI1 := cx_inv hI0 q2 q3
  obtain ⟨w, hw⟩ := ty_m0 hI1.1
  obtain ⟨w16, h16⟩ := ty_mi hI1.1 16 (by decide +kernel) (by decide +kernel)
  obtain ⟨w17, h17⟩ := ty_mi hI1.1 17 (by decide +kernel) (by decide +kernel)
  obtain ⟨w18, h18⟩ := ty_mi hI1.1 18 (by decide +kernel) (by decide +kernel)
  obtain ⟨w20, h20⟩ := ty_mi hI1.1 20 (by decide +kernel) (by decide +kernel)
  obtain ⟨fr0, hB⟩ := ty_173 hI1.1
  refine ⟨rfl, _, p1, ty_162 hI1.1, ?_⟩
  refine wp_mono (wp_runs (Z := fun r => (r.1 = some (.int (cmA g n0 cc)) ∧ mF r.2.1 3 (.int (nI (cc + cmN g n0 cc)))) ∧ zT r.2.1) (hm_courts hI1 (fr := 2047) (lo := 84000 - (19 + pm_max PT 188)) (Nat.le_of_ble_eq_true rfl) (Nat.le_of_ble_eq_true rfl)) (fun m r hh => ⟨cm_run hn hc hw (mF_hi q2 y1) h16 h17 h18 h20 (mF_hi q2 y3) (ty_m14 hI1.1) ((q2.1 172 rfl).trans y2) (ty_m19 hI1.1) hB hh, z_courts hw (mF_hi q2 y1) hh⟩)) ?_
  rintro ⟨rv2, h2, s2⟩ ⟨⟨a1, a2, a3, a4⟩, ⟨b1, b2⟩, b3⟩
  dsimp only at a2 a3 a4 b1 b2 b3
  cases a2
  rw [eA] at b1
  exact ⟨b1, rfl, a4, REL_0 hI1 a4 hN6 a3 p3 p2 b3 b2⟩
end TU4
end MH95xdx4
section MH95xdx5
section MG95zgx0
/-! the reference's readsGift -/
section GMM
variable {n fr lo sl t cc gc a rm : Nat} {h : pm_H} {tp : Nat → Int32} {R : pm_Rs}
def pG (h : pm_H) (tp : Nat → Int32) (t cc gc a rm : Nat) : Prop := pR h tp t cc a rm ∧ mF h 4 (.int (nI gc))
theorem pG_16 {b : Nat} (p : pG h tp t cc gc a rm) : pG (mset h 16 (.int (nI b))) tp t cc gc b rm := ⟨pR_16 p.1, mF_ne (by decide) p.2⟩
theorem pG_20 {b : Nat} (p : pG h tp t cc gc a rm) : pG (mset h 20 (.int (nI b))) tp t cc gc a b := ⟨pR_20 p.1, mF_ne (by decide) p.2⟩
theorem pG_rd {e : Nat → Int32} (p : pG h tp t cc gc a rm) : pG (aset h 173 36 e) tp t cc gc a rm := ⟨pR_rd p.1, aset_mF (by decide) p.2⟩
/-- the last digit of a LINE: a court that is there -/
def rgE (tp : Nat → Int32) (t cc a : Nat) : Bool × Nat := cond (dg tp a t) (cond (dgi tp (a + 1) t (Int32.ofInt 0) (nI cc - Int32.ofInt 1)) (true, a + 2) (false, a + 1)) (false, a)
def rgC (tp : Nat → Int32) (t cc a : Nat) : Bool × Nat := cond (decide (a < t ∧ tp a = 44)) (rgE tp t cc (a + 1)) (false, a)
/-- a LINE of GIFTS: does it stand, where it ends -/
def rgW (tp : Nat → Int32) (t cc : Nat) (w : Nat × Int32) : Bool × Nat := cond (decide (w.2 = 0)) (false, w.1 - 1) (rgC tp t cc w.1)
def rgL (tp : Nat → Int32) (t cc a : Nat) : Bool × Nat := cond (dgi tp a t (Int32.ofInt 0) (Int32.ofInt 4)) (cond (dg tp (a + 1) t) (rgW tp t cc (nbr tp t 2 (a + 1) 0)) (false, a + 1)) (false, a)
theorem rg_0 (p : pG h tp t cc gc a rm) {k1 : Int32} (hh : pm_run PT n fr lo 191 (44, [some (.ref 162), some (.int k1)], [], h, 198, sl) = some R) : R.1 = some (.int 0) ∧ pG R.2.1 tp t cc gc a rm ∧ R.2.2 = (198, sl) := by
  obtain ⟨n, hh⟩ := rn_i rfl rfl rfl rfl hh
  have e := (rn_ret rfl (Or.inr rfl) hh).2
  subst e
  exact ⟨rfl, p, rfl⟩
theorem rg_102 (p : pG h tp t cc gc a rm) {k1 : Int32} (hh : pm_run PT n fr lo 191 (102, [some (.ref 162), some (.int k1)], [], h, 198, sl) = some R) : R.1 = some (.int 0) ∧ pG R.2.1 tp t cc gc a rm ∧ R.2.2 = (198, sl) := by
  obtain ⟨n, hh⟩ := rn_i rfl rfl rfl rfl hh
  have e := (rn_ret rfl (Or.inr rfl) hh).2
  subst e
  exact ⟨rfl, p, rfl⟩
/-- from 151 on: the LINE is counted; does its court stand -/
theorem rg_151 {v : Int32} {b : Bool} (hb : pm_cmp .lt v 0 = !b) (hrm : rm < 8) (p : pG h tp t cc gc a rm) {e : Nat → Int32} (hA : h 173 = .inl (0, 36, .inl e)) (ev : e (4 * rm + 3) = v) (hh : pm_run PT n fr lo 191 (151, [some (.ref 162), some (.int (nI (4 * rm)))], [], h, 198, sl) = some R) : R.1 = some (.int (cond b 1 0)) ∧ pG R.2.1 tp t cc gc a (rm + 1) ∧ R.2.2 = (198, sl) := by
  obtain ⟨n, hh⟩ := rn_i rfl rfl rfl rfl hh
  obtain ⟨n, hh⟩ := rn_i rfl rfl rfl rfl hh
  obtain ⟨n, hh⟩ := rn_gfm rfl rfl p.1.2.1 hh
  obtain ⟨n, hh⟩ := rn_i rfl rfl rfl rfl hh
  obtain ⟨n, hh⟩ := rn_i rfl rfl rfl rfl hh
  obtain ⟨n, hh⟩ := rn_pfm (w := .int (nI rm)) rfl rfl rfl (by decide) p.1.2.1 hh
  have e1 : nI rm + Int32.ofInt 1 = nI (rm + 1) := (Int32.ofNat_add rm 1).symm
  have hh : pm_run PT n fr lo 191 (161, [some (.ref 162), some (.int (nI (4 * rm)))], [], mset h 20 (.int (nI rm + Int32.ofInt 1)), 198, sl) = some R := hh
  rw [e1] at hh
  have p' := pG_20 (b := rm + 1) p
  obtain ⟨n, hh⟩ := rn_i rfl rfl rfl rfl hh
  obtain ⟨n, hh⟩ := rn_gfm rfl rfl p'.1.2.2.2.1 hh
  obtain ⟨n, hh⟩ := rn_i rfl rfl rfl rfl hh
  obtain ⟨n, hh⟩ := rn_i rfl rfl rfl rfl hh
  obtain ⟨n, hh⟩ := rn_i rfl rfl rfl rfl hh
  have e3 : nI (4 * rm) + Int32.ofInt 3 = nI (4 * rm + 3) := (Int32.ofNat_add (4 * rm) 3).symm
  have hh : pm_run PT n fr lo 191 (168, [some (.ref 162), some (.int (nI (4 * rm)))], [.int (nI (4 * rm) + Int32.ofInt 3), .ref 173], mset h 20 (.int (nI (rm + 1))), 198, sl) = some R := hh
  rw [e3] at hh
  obtain ⟨n, hh⟩ := rn_iam rfl (mset_arr (by decide) hA) (hI_in (by omega) (by decide)) (by decide) hh
  rw [nI_clamp (by omega), ev] at hh
  obtain ⟨n, hh⟩ := rn_if (cc := .lt) (off := 7) (t := 176) rfl rfl hh
  rw [hb] at hh
  cases b with
  | true =>
    obtain ⟨n, hh⟩ := rn_i rfl rfl rfl rfl hh
    obtain ⟨n, hh⟩ := rn_i rfl rfl rfl rfl hh
    have e := (rn_ret rfl (Or.inr rfl) hh).2
    subst e
    exact ⟨rfl, p', rfl⟩
  | false =>
    obtain ⟨n, hh⟩ := rn_i rfl rfl rfl rfl hh
    have e := (rn_ret rfl (Or.inr rfl) hh).2
    subst e
    exact ⟨rfl, p', rfl⟩
theorem dgi_g0 {u : Int32} (q : dgi tp a t (Int32.ofInt 0) u = true) : a < t ∧ 0 ≤ (tp a - 48).toInt := by
  unfold dgi in_b at q
  rw [Bool.and_eq_true, Bool.and_eq_true] at q
  refine ⟨of_decide_eq_true q.1, ?_⟩
  have e1 : ¬ (tp a - 48).toInt64 < (Int32.ofInt 0).toInt64 := by simpa using q.2.1
  rw [Int64.lt_iff_toInt_lt, Int32.toInt_toInt64, Int32.toInt_toInt64, show (Int32.ofInt 0).toInt = 0 by decide] at e1
  omega
theorem ge0_val {x : Int32} (q : 0 ≤ x.toInt) : pm_cmp .ge x 0 = true := by
  simp only [pm_cmp]
  rw [decide_eq_true_iff, Int32.le_iff_toInt_le, show (0 : Int32).toInt = 0 by decide]
  exact q
theorem rg_150 {v : Int32} {b : Bool} (hb : pm_cmp .lt v 0 = !b) (hrm : rm < 8) (p : pG h tp t cc gc a rm) (hh : pm_run PT n fr lo 191 (150, [some (.ref 162), some (.int (nI (4 * rm)))], [.int v, .int (nI (4 * rm + 3)), .ref 173], h, 198, sl) = some R) : R.1 = some (.int (cond b 1 0)) ∧ pG R.2.1 tp t cc gc a (rm + 1) ∧ R.2.2 = (198, sl) := by
  obtain ⟨e, hA⟩ := p.1.2.2.2.2
  obtain ⟨n, hh⟩ := rn_ism rfl hA (hI_in (by omega) (by decide)) (by decide) hh
  rw [nI_clamp (by omega)] at hh
  exact rg_151 hb hrm (pG_rd p) asR_self (by simp [upd]) hh
/-- from 104 on: what it eats, and its court -/
theorem rg_104 (ht : t ≤ 80) (ha : a < 98) (hrm : rm < 8) (p : pG h tp t cc gc a rm) (hh : pm_run PT n fr lo 191 (104, [some (.ref 162), some (.int (nI (4 * rm)))], [], h, 198, sl) = some R) : R.1 = some (.int (cond (rgE tp t cc a).1 1 0)) ∧ pG R.2.1 tp t cc gc (rgE tp t cc a).2 (rm + 1) ∧ R.2.2 = (198, sl) := by
  obtain ⟨⟨⟨q1, q2, q3, q4⟩, q5, q6, q7, f, q8⟩, q9⟩ := id p
  obtain ⟨n, hh⟩ := rn_i rfl rfl rfl rfl hh
  obtain ⟨n, hh⟩ := rn_gfm rfl rfl q7 hh
  obtain ⟨n, hh⟩ := rn_i rfl rfl rfl rfl hh
  obtain ⟨n, hh⟩ := rn_i rfl rfl rfl rfl hh
  obtain ⟨n, hh⟩ := rn_i rfl rfl rfl rfl hh
  obtain ⟨n, hh⟩ := rn_i rfl rfl rfl rfl hh
  obtain ⟨n, hh⟩ := rn_i rfl rfl rfl rfl hh
  obtain ⟨n, fr', lo', r1, hr1, hh⟩ := rn_call (w := 0) (t := 184) rfl rfl hh
  have er := rn_dt (F := 10) (Lo := 1000) (hd_number (fr := 10) (lo := 1000) (sl := sl) q1 q2 q3 q4 ht (by omega) (by decide) (by decide) (d := 1) (by decide)) hr1
  have e2 : nI (4 * rm) + Int32.ofInt 2 = nI (4 * rm + 2) := (Int32.ofNat_add (4 * rm) 2).symm
  have e3 : nI (4 * rm) + Int32.ofInt 3 = nI (4 * rm + 3) := (Int32.ofNat_add (4 * rm) 3).symm
  have hin : pm_in (nI (4 * rm + 2)) 36 = true := hI_in (by omega) (by decide)
  unfold rgE
  cases hd : dg tp a t with
  | false =>
    rw [hd] at er
    dsimp only [cond] at er
    subst er
    have hh : pm_run PT n fr lo 191 (116, [some (.ref 162), some (.int (nI (4 * rm)))], [.int (-1), .int (nI (4 * rm) + Int32.ofInt 2), .ref 173], h, 198, sl) = some R := hh
    rw [e2] at hh
    obtain ⟨n, hh⟩ := rn_ism rfl q8 hin (by decide) hh
    have p' := pG_rd (e := upd f (nI (4 * rm + 2)).toNatClampNeg (-1)) p
    obtain ⟨n, hh⟩ := rn_i rfl rfl rfl rfl hh
    obtain ⟨n, hh⟩ := rn_gfm rfl rfl p'.1.2.2.2.1 hh
    obtain ⟨n, hh⟩ := rn_i rfl rfl rfl rfl hh
    obtain ⟨n, hh⟩ := rn_i rfl rfl rfl rfl hh
    obtain ⟨n, hh⟩ := rn_i rfl rfl rfl rfl hh
    obtain ⟨n, hh⟩ := rn_i rfl rfl rfl rfl hh
    obtain ⟨n, hh⟩ := rn_gfm rfl rfl p'.1.2.2.2.1 hh
    obtain ⟨n, hh⟩ := rn_i rfl rfl rfl rfl hh
    obtain ⟨n, hh⟩ := rn_i rfl rfl rfl rfl hh
    obtain ⟨n, hh⟩ := rn_i rfl rfl rfl rfl hh
    have hh : pm_run PT n fr lo 191 (131, [some (.ref 162), some (.int (nI (4 * rm)))], [.int (nI (4 * rm) + Int32.ofInt 2), .ref 173, .int (nI (4 * rm) + Int32.ofInt 3), .ref 173], _, 198, sl) = some R := hh
    rw [e2, e3] at hh
    obtain ⟨n, hh⟩ := rn_iam rfl asR_self hin (by decide) hh
    have eu : upd f (nI (4 * rm + 2)).toNatClampNeg (-1) (nI (4 * rm + 2)).toNatClampNeg = (-1 : Int32) := by simp [upd]
    rw [eu] at hh
    obtain ⟨n, hh⟩ := rn_if (cc := .ge) (off := 7) (t := 139) rfl rfl hh
    rw [show pm_cmp .ge (-1 : Int32) 0 = false by decide] at hh
    obtain ⟨n, hh⟩ := rn_i rfl rfl rfl rfl hh
    obtain ⟨n, hh⟩ := rn_i rfl rfl rfl rfl hh
    exact rg_150 (v := Int32.ofInt (-1)) (b := false) (by decide) hrm p' hh
  | true =>
    rw [hd] at er
    dsimp only [cond] at er
    subst er
    have en : nbr tp t 1 a 0 = (a + 1, 10 * 0 + tp a - 48) := by
      show nbr tp t (0 + 1) a 0 = _
      rw [nbr_gt t hd]
      rfl
    have ev : (10 * 0 + tp a - 48 : Int32) = tp a - 48 := by simp
    rw [en, ev] at hh
    obtain ⟨v1, v2⟩ := dg_val hd
    have hat := dg_lt hd
    have p0 : pG (mset h 16 (.int (nI (a + 1)))) tp t cc gc (a + 1) rm := pG_16 p
    have hh : pm_run PT n fr lo 191 (116, [some (.ref 162), some (.int (nI (4 * rm)))], [.int (tp a - 48), .int (nI (4 * rm) + Int32.ofInt 2), .ref 173], mset h 16 (.int (nI (a + 1))), 198, sl) = some R := hh
    rw [e2] at hh
    obtain ⟨f0, q80⟩ := p0.1.2.2.2.2
    obtain ⟨n, hh⟩ := rn_ism rfl q80 hin (by decide) hh
    have p' := pG_rd (e := upd f0 (nI (4 * rm + 2)).toNatClampNeg (tp a - 48)) p0
    obtain ⟨n, hh⟩ := rn_i rfl rfl rfl rfl hh
    obtain ⟨n, hh⟩ := rn_gfm rfl rfl p'.1.2.2.2.1 hh
    obtain ⟨n, hh⟩ := rn_i rfl rfl rfl rfl hh
    obtain ⟨n, hh⟩ := rn_i rfl rfl rfl rfl hh
    obtain ⟨n, hh⟩ := rn_i rfl rfl rfl rfl hh
    obtain ⟨n, hh⟩ := rn_i rfl rfl rfl rfl hh
    obtain ⟨n, hh⟩ := rn_gfm rfl rfl p'.1.2.2.2.1 hh
    obtain ⟨n, hh⟩ := rn_i rfl rfl rfl rfl hh
    obtain ⟨n, hh⟩ := rn_i rfl rfl rfl rfl hh
    obtain ⟨n, hh⟩ := rn_i rfl rfl rfl rfl hh
    have hh : pm_run PT n fr lo 191 (131, [some (.ref 162), some (.int (nI (4 * rm)))], [.int (nI (4 * rm) + Int32.ofInt 2), .ref 173, .int (nI (4 * rm) + Int32.ofInt 3), .ref 173], _, 198, sl) = some R := hh
    rw [e2, e3] at hh
    obtain ⟨n, hh⟩ := rn_iam rfl asR_self hin (by decide) hh
    have eu : upd f0 (nI (4 * rm + 2)).toNatClampNeg (tp a - 48) (nI (4 * rm + 2)).toNatClampNeg = tp a - 48 := by simp [upd]
    rw [eu] at hh
    obtain ⟨n, hh⟩ := rn_if (cc := .ge) (off := 7) (t := 139) rfl rfl hh
    rw [ge0_val v1] at hh
    obtain ⟨⟨⟨u1, u2, u3, u4⟩, u5, u6, -⟩, -⟩ := id p'
    have hh : pm_run PT n fr lo 191 (139, [some (.ref 162), some (.int (nI (4 * rm)))], [.int (nI (4 * rm + 3)), .ref 173], aset (mset h 16 (.int (nI (a + 1)))) 173 36 (upd f0 (nI (4 * rm + 2)).toNatClampNeg (tp a - 48)), 198, sl) = some R := hh
    generalize aset (mset h 16 (.int (nI (a + 1)))) 173 36 (upd f0 (nI (4 * rm + 2)).toNatClampNeg (tp a - 48)) = hq at *
    obtain ⟨n, hh⟩ := rn_i rfl rfl rfl rfl hh
    obtain ⟨n, hh⟩ := rn_i rfl rfl rfl rfl hh
    obtain ⟨n, hh⟩ := rn_i rfl rfl rfl rfl hh
    obtain ⟨n, hh⟩ := rn_gfm rfl rfl u6 hh
    obtain ⟨n, hh⟩ := rn_i rfl rfl rfl rfl hh
    obtain ⟨n, hh⟩ := rn_i rfl rfl rfl rfl hh
    obtain ⟨n, fr', lo', r1, hr1, hh⟩ := rn_call (w := 0) (t := 185) rfl rfl hh
    have er := rn_dt (F := 10) (Lo := 1000) (hd_digitIn (fr := 10) (lo := 1000) (sl := sl) u1 u2 u3 u4 ht (by omega) (by decide) (by decide) (Int32.ofInt 0) (nI cc - Int32.ofInt 1)) hr1
    dsimp only [cond]
    cases hi : dgi tp (a + 1) t (Int32.ofInt 0) (nI cc - Int32.ofInt 1) with
    | false =>
      rw [hi] at er
      dsimp only [cond] at er
      subst er
      exact rg_150 (v := -1) (b := false) (by decide) hrm p' hh
    | true =>
      rw [hi] at er
      dsimp only [cond] at er
      subst er
      obtain ⟨w0, w1⟩ := dgi_g0 hi
      exact rg_150 (v := tp (a + 1) - 48) (b := true) (lt0_val w1) hrm (pG_16 p') hh
theorem rg_82 {w : Int32} (ht : t ≤ 80) (ha : a < 97) (hrm : rm < 8) (p : pG h tp t cc gc a rm) {e : Nat → Int32} (hA : h 173 = .inl (0, 36, .inl e)) (ev : e (4 * rm + 1) = w) (hw : 0 ≤ w.toInt) (hh : pm_run PT n fr lo 191 (82, [some (.ref 162), some (.int (nI (4 * rm)))], [], h, 198, sl) = some R) : R.1 = some (.int (cond (rgC tp t cc a).1 1 0)) ∧ (∃ rm', pG R.2.1 tp t cc gc (rgC tp t cc a).2 rm' ∧ ((rgC tp t cc a).1 = true → rm' = rm + 1)) ∧ R.2.2 = (198, sl) := by
  obtain ⟨⟨⟨q1, q2, q3, q4⟩, q5, q6, q7, f, q8⟩, q9⟩ := id p
  obtain ⟨n, hh⟩ := rn_i rfl rfl rfl rfl hh
  obtain ⟨n, hh⟩ := rn_gfm rfl rfl q7 hh
  obtain ⟨n, hh⟩ := rn_i rfl rfl rfl rfl hh
  obtain ⟨n, hh⟩ := rn_i rfl rfl rfl rfl hh
  obtain ⟨n, hh⟩ := rn_i rfl rfl rfl rfl hh
  have e1 : nI (4 * rm) + Int32.ofInt 1 = nI (4 * rm + 1) := (Int32.ofNat_add (4 * rm) 1).symm
  have hh : pm_run PT n fr lo 191 (89, [some (.ref 162), some (.int (nI (4 * rm)))], [.int (nI (4 * rm) + Int32.ofInt 1), .ref 173], h, 198, sl) = some R := hh
  rw [e1] at hh
  obtain ⟨n, hh⟩ := rn_iam rfl hA (hI_in (by omega) (by decide)) (by decide) hh
  rw [nI_clamp (by omega), ev] at hh
  obtain ⟨n, hh⟩ := rn_if (cc := .lt) (off := 12) (t := 102) rfl rfl hh
  rw [lt0_val hw] at hh
  obtain ⟨n, hh⟩ := rn_i rfl rfl rfl rfl hh
  obtain ⟨n, hh⟩ := rn_i rfl rfl rfl rfl hh
  obtain ⟨n, fr', lo', r1, hr1, hh⟩ := rn_call (w := 0) (t := 181) rfl rfl hh
  have er := rn_dt (F := 10) (Lo := 1000) (hd_takes (fr := 10) (lo := 1000) (sl := sl) q1 q2 q3 q4 ht (by omega) (by decide) (by decide) 44) hr1
  unfold rgC
  cases x : decide (a < t ∧ tp a = 44) with
  | false =>
    rw [x] at er
    dsimp only [cond] at er
    subst er
    have hh : pm_run PT n fr lo 191 (99, [some (.ref 162), some (.int (nI (4 * rm)))], [.int 0], mset h 16 (.int (nI (a + 0))), 198, sl) = some R := hh
    obtain ⟨n, hh⟩ := rn_if (cc := .ne) (off := 5) (t := 104) rfl rfl hh
    have hh : pm_run PT n fr lo 191 (102, [some (.ref 162), some (.int (nI (4 * rm)))], [], mset h 16 (.int (nI (a + 0))), 198, sl) = some R := hh
    obtain ⟨r1, r2, r3⟩ := rg_102 (pG_16 p) hh
    exact ⟨r1, ⟨rm, r2, fun q => by cases q⟩, r3⟩
  | true =>
    rw [x] at er
    dsimp only [cond] at er
    subst er
    have xx := of_decide_eq_true x
    have hh : pm_run PT n fr lo 191 (99, [some (.ref 162), some (.int (nI (4 * rm)))], [.int 1], mset h 16 (.int (nI (a + 1))), 198, sl) = some R := hh
    obtain ⟨n, hh⟩ := rn_if (cc := .ne) (off := 5) (t := 104) rfl rfl hh
    have hh : pm_run PT n fr lo 191 (104, [some (.ref 162), some (.int (nI (4 * rm)))], [], mset h 16 (.int (nI (a + 1))), 198, sl) = some R := hh
    obtain ⟨r1, r2, r3⟩ := rg_104 ht (by omega) hrm (pG_16 p) hh
    exact ⟨r1, ⟨rm + 1, r2, fun _ => rfl⟩, r3⟩
theorem rg_46 (ht : t ≤ 80) (ha : a < 90) (hrm : rm < 8) (p : pG h tp t cc gc a rm) (hh : pm_run PT n fr lo 191 (46, [some (.ref 162), some (.int (nI (4 * rm)))], [], h, 198, sl) = some R) : R.1 = some (.int (cond (cond (dg tp a t) (rgW tp t cc (nbr tp t 2 a 0)) (false, a)).1 1 0)) ∧ (∃ rm', pG R.2.1 tp t cc gc (cond (dg tp a t) (rgW tp t cc (nbr tp t 2 a 0)) (false, a)).2 rm' ∧ ((cond (dg tp a t) (rgW tp t cc (nbr tp t 2 a 0)) (false, a)).1 = true → rm' = rm + 1)) ∧ R.2.2 = (198, sl) := by
  obtain ⟨⟨⟨q1, q2, q3, q4⟩, q5, q6, q7, f, q8⟩, q9⟩ := id p
  obtain ⟨n, hh⟩ := rn_i rfl rfl rfl rfl hh
  obtain ⟨n, hh⟩ := rn_gfm rfl rfl q7 hh
  obtain ⟨n, hh⟩ := rn_i rfl rfl rfl rfl hh
  obtain ⟨n, hh⟩ := rn_i rfl rfl rfl rfl hh
  obtain ⟨n, hh⟩ := rn_i rfl rfl rfl rfl hh
  obtain ⟨n, hh⟩ := rn_i rfl rfl rfl rfl hh
  obtain ⟨n, hh⟩ := rn_i rfl rfl rfl rfl hh
  obtain ⟨n, fr', lo', r1, hr1, hh⟩ := rn_call (w := 0) (t := 184) rfl rfl hh
  have er := rn_dt (F := 10) (Lo := 1000) (hd_number (fr := 10) (lo := 1000) (sl := sl) q1 q2 q3 q4 ht (by omega) (by decide) (by decide) (d := 2) (by decide)) hr1
  have e1 : nI (4 * rm) + Int32.ofInt 1 = nI (4 * rm + 1) := (Int32.ofNat_add (4 * rm) 1).symm
  have hin : pm_in (nI (4 * rm + 1)) 36 = true := hI_in (by omega) (by decide)
  cases hd : dg tp a t with
  | false =>
    rw [hd] at er
    dsimp only [cond] at er
    subst er
    have hh : pm_run PT n fr lo 191 (58, [some (.ref 162), some (.int (nI (4 * rm)))], [.int (-1), .int (nI (4 * rm) + Int32.ofInt 1), .ref 173], h, 198, sl) = some R := hh
    rw [e1] at hh
    obtain ⟨n, hh⟩ := rn_ism rfl q8 hin (by decide) hh
    have p' := pG_rd (e := upd f (nI (4 * rm + 1)).toNatClampNeg (-1)) p
    have eu : upd f (nI (4 * rm + 1)).toNatClampNeg (-1) (nI (4 * rm + 1)).toNatClampNeg = (-1 : Int32) := by simp [upd]
    obtain ⟨n, hh⟩ := rn_i rfl rfl rfl rfl hh
    obtain ⟨n, hh⟩ := rn_gfm rfl rfl p'.1.2.2.2.1 hh
    obtain ⟨n, hh⟩ := rn_i rfl rfl rfl rfl hh
    obtain ⟨n, hh⟩ := rn_i rfl rfl rfl rfl hh
    obtain ⟨n, hh⟩ := rn_i rfl rfl rfl rfl hh
    have hh : pm_run PT n fr lo 191 (66, [some (.ref 162), some (.int (nI (4 * rm)))], [.int (nI (4 * rm) + Int32.ofInt 1), .ref 173], _, 198, sl) = some R := hh
    rw [e1] at hh
    obtain ⟨n, hh⟩ := rn_iam rfl asR_self hin (by decide) hh
    rw [eu] at hh
    obtain ⟨n, hh⟩ := rn_if (cc := .ne) (off := 15) (t := 82) rfl rfl hh
    rw [show pm_cmp .ne (-1 : Int32) 0 = true by decide] at hh
    have hh : pm_run PT n fr lo 191 (82, [some (.ref 162), some (.int (nI (4 * rm)))], [], aset h 173 36 (upd f (nI (4 * rm + 1)).toNatClampNeg (-1)), 198, sl) = some R := hh
    obtain ⟨n, hh⟩ := rn_i rfl rfl rfl rfl hh
    obtain ⟨n, hh⟩ := rn_gfm rfl rfl p'.1.2.2.2.1 hh
    obtain ⟨n, hh⟩ := rn_i rfl rfl rfl rfl hh
    obtain ⟨n, hh⟩ := rn_i rfl rfl rfl rfl hh
    obtain ⟨n, hh⟩ := rn_i rfl rfl rfl rfl hh
    have hh : pm_run PT n fr lo 191 (89, [some (.ref 162), some (.int (nI (4 * rm)))], [.int (nI (4 * rm) + Int32.ofInt 1), .ref 173], aset h 173 36 (upd f (nI (4 * rm + 1)).toNatClampNeg (-1)), 198, sl) = some R := hh
    rw [e1] at hh
    obtain ⟨n, hh⟩ := rn_iam rfl asR_self hin (by decide) hh
    rw [eu] at hh
    obtain ⟨n, hh⟩ := rn_if (cc := .lt) (off := 12) (t := 102) rfl rfl hh
    rw [lt0_m1] at hh
    obtain ⟨r1, r2, r3⟩ := rg_102 p' hh
    exact ⟨r1, ⟨rm, r2, fun q => by cases q⟩, r3⟩
  | true =>
    rw [hd] at er
    dsimp only [cond] at er
    subst er
    obtain ⟨b1, b2, b3, b4, -⟩ := nbr_bd (tp := tp) t 2 a 0 0 (by decide) (by decide) (by decide) (by decide)
    have b0 : a + 1 ≤ (nbr tp t 2 a 0).1 := by
      rw [show nbr tp t 2 a 0 = nbr tp t (1 + 1) a 0 from rfl, nbr_gt t hd]
      have hv := dg_val hd
      have ez : (10 * 0 + tp a - 48 : Int32) = tp a - 48 := by simp
      rw [ez]
      exact (nbr_bd (tp := tp) t 1 (a + 1) (tp a - 48) 9 hv.1 hv.2 (by decide) (by decide)).1
    have p0 : pG (mset h 16 (.int (nI (nbr tp t 2 a 0).1))) tp t cc gc (nbr tp t 2 a 0).1 rm := pG_16 p
    have hh : pm_run PT n fr lo 191 (58, [some (.ref 162), some (.int (nI (4 * rm)))], [.int (nbr tp t 2 a 0).2, .int (nI (4 * rm) + Int32.ofInt 1), .ref 173], mset h 16 (.int (nI (nbr tp t 2 a 0).1)), 198, sl) = some R := hh
    rw [e1] at hh
    show R.1 = some (.int (cond (rgW tp t cc (nbr tp t 2 a 0)).1 1 0)) ∧ (∃ rm', pG R.2.1 tp t cc gc (rgW tp t cc (nbr tp t 2 a 0)).2 rm' ∧ ((rgW tp t cc (nbr tp t 2 a 0)).1 = true → rm' = rm + 1)) ∧ R.2.2 = (198, sl)
    generalize nbr tp t 2 a 0 = w at *
    obtain ⟨f0, q80⟩ := p0.1.2.2.2.2
    obtain ⟨n, hh⟩ := rn_ism rfl q80 hin (by decide) hh
    have p' := pG_rd (e := upd f0 (nI (4 * rm + 1)).toNatClampNeg w.2) p0
    have eu : upd f0 (nI (4 * rm + 1)).toNatClampNeg w.2 (nI (4 * rm + 1)).toNatClampNeg = w.2 := by simp [upd]
    obtain ⟨n, hh⟩ := rn_i rfl rfl rfl rfl hh
    obtain ⟨n, hh⟩ := rn_gfm rfl rfl p'.1.2.2.2.1 hh
    obtain ⟨n, hh⟩ := rn_i rfl rfl rfl rfl hh
    obtain ⟨n, hh⟩ := rn_i rfl rfl rfl rfl hh
    obtain ⟨n, hh⟩ := rn_i rfl rfl rfl rfl hh
    have hh : pm_run PT n fr lo 191 (66, [some (.ref 162), some (.int (nI (4 * rm)))], [.int (nI (4 * rm) + Int32.ofInt 1), .ref 173], _, 198, sl) = some R := hh
    rw [e1] at hh
    obtain ⟨n, hh⟩ := rn_iam rfl asR_self hin (by decide) hh
    rw [eu] at hh
    obtain ⟨n, hh⟩ := rn_if (cc := .ne) (off := 15) (t := 82) rfl rfl hh
    unfold rgW
    by_cases z : w.2 = 0
    · rw [show pm_cmp .ne w.2 0 = false from decide_eq_false (fun q => q z)] at hh
      rw [decide_eq_true z]
      have hh : pm_run PT n fr lo 191 (70, [some (.ref 162), some (.int (nI (4 * rm)))], [], aset (mset h 16 (.int (nI w.1))) 173 36 (upd f0 (nI (4 * rm + 1)).toNatClampNeg w.2), 198, sl) = some R := hh
      generalize aset (mset h 16 (.int (nI w.1))) 173 36 (upd f0 (nI (4 * rm + 1)).toNatClampNeg w.2) = hq at *
      obtain ⟨n, hh⟩ := rn_i rfl rfl rfl rfl hh
      obtain ⟨n, hh⟩ := rn_i rfl rfl rfl rfl hh
      obtain ⟨n, hh⟩ := rn_gfm rfl rfl p'.1.1.1 hh
      obtain ⟨n, hh⟩ := rn_i rfl rfl rfl rfl hh
      obtain ⟨n, hh⟩ := rn_i rfl rfl rfl rfl hh
      obtain ⟨n, hh⟩ := rn_pfm (w := .int (nI w.1)) rfl rfl rfl (by decide) p'.1.1.1 hh
      have em : nI w.1 - Int32.ofInt 1 = nI (w.1 - 1) := by
        have e : nI w.1 = nI (w.1 - 1) + Int32.ofInt 1 := by
          rw [show nI (w.1 - 1) + Int32.ofInt 1 = nI (w.1 - 1 + 1) from (Int32.ofNat_add (w.1 - 1) 1).symm, Nat.sub_add_cancel (by omega)]
        rw [e]
        simp
      have hh : pm_run PT n fr lo 191 (80, [some (.ref 162), some (.int (nI (4 * rm)))], [], mset hq 16 (.int (nI w.1 - Int32.ofInt 1)), 198, sl) = some R := hh
      rw [em] at hh
      obtain ⟨n, hh⟩ := rn_i rfl rfl rfl rfl hh
      have e := (rn_ret rfl (Or.inr rfl) hh).2
      subst e
      exact ⟨rfl, ⟨rm, pG_16 p', fun q => by cases q⟩, rfl⟩
    · rw [show pm_cmp .ne w.2 0 = true from decide_eq_true z] at hh
      rw [decide_eq_false z]
      exact rg_82 (w := w.2) ht (by omega) hrm p' asR_self (by rw [nI_clamp (by omega)]; simp [upd]) b4 hh
end GMM
end MG95zgx0
section MG95zgx1
/-! the reference's gifts: all LINES -/
section GML
variable {n fr lo sl t cc gc a rm : Nat} {h : pm_H} {tp : Nat → Int32} {R : pm_Rs}
theorem rg_reads (ht : t ≤ 80) (ha : a < 89) (hgr : gc + rm ≤ 8) (p : pG h tp t cc gc a rm) (hh : pm_run PT n fr lo 191 (0, pm_l0 [.ref 162] 2, [], h, 198, sl) = some R) : R.1 = some (.int (cond (cond (decide (gc + rm = 8)) (false, a) (rgL tp t cc a)).1 1 0)) ∧ (∃ rm', pG R.2.1 tp t cc gc (cond (decide (gc + rm = 8)) (false, a) (rgL tp t cc a)).2 rm' ∧ ((cond (decide (gc + rm = 8)) (false, a) (rgL tp t cc a)).1 = true → rm' = rm + 1)) ∧ R.2.2 = (198, sl) := by
  obtain ⟨⟨⟨q1, q2, q3, q4⟩, q5, q6, q7, f, q8⟩, q9⟩ := id p
  obtain ⟨n, hh⟩ := rn_i rfl rfl rfl rfl hh
  obtain ⟨n, hh⟩ := rn_gfm rfl rfl q9 hh
  obtain ⟨n, hh⟩ := rn_i rfl rfl rfl rfl hh
  obtain ⟨n, hh⟩ := rn_gfm rfl rfl q5 hh
  obtain ⟨n, hh⟩ := rn_i rfl rfl rfl rfl hh
  obtain ⟨n, hh⟩ := rn_i rfl rfl rfl rfl hh
  obtain ⟨n, hh⟩ := rn_icmp (cc := .ne) (off := 5) (t := 16) rfl rfl hh
  have ec : pm_cmp .ne ((fun x y => x + y) (nI gc) (nI rm)) (Int8.ofInt 8).toInt32 = decide (¬ (gc + rm = 8)) := by
    show pm_cmp .ne (nI gc + nI rm) (nI 8) = _
    rw [nI_add]
    exact hI_ne (by omega) (by omega)
  rw [ec] at hh
  by_cases z : gc + rm = 8
  · rw [decide_eq_false (fun q => q z)] at hh
    rw [decide_eq_true z]
    obtain ⟨n, hh⟩ := rn_i rfl rfl rfl rfl hh
    have e := (rn_ret rfl (Or.inr rfl) hh).2
    subst e
    exact ⟨rfl, ⟨rm, p, fun q => by cases q⟩, rfl⟩
  · rw [decide_eq_true z] at hh
    rw [decide_eq_false z]
    have hh : pm_run PT n fr lo 191 (16, [some (.ref 162), none], [], h, 198, sl) = some R := hh
    obtain ⟨n, hh⟩ := rn_i rfl rfl rfl rfl hh
    obtain ⟨n, hh⟩ := rn_i rfl rfl rfl rfl hh
    obtain ⟨n, hh⟩ := rn_gfm rfl rfl q5 hh
    obtain ⟨n, hh⟩ := rn_i rfl rfl rfl rfl hh
    obtain ⟨n, hh⟩ := rn_i rfl rfl rfl rfl hh
    have e6 : Int32.ofInt 4 * nI rm = nI (4 * rm) := hI_mul 4 rm
    have hh : pm_run PT n fr lo 191 (23, [some (.ref 162), some (.int (Int32.ofInt 4 * nI rm))], [], h, 198, sl) = some R := hh
    rw [e6] at hh
    obtain ⟨n, hh⟩ := rn_i rfl rfl rfl rfl hh
    obtain ⟨n, hh⟩ := rn_gfm rfl rfl q7 hh
    obtain ⟨n, hh⟩ := rn_i rfl rfl rfl rfl hh
    obtain ⟨n, hh⟩ := rn_i rfl rfl rfl rfl hh
    obtain ⟨n, hh⟩ := rn_i rfl rfl rfl rfl hh
    obtain ⟨n, hh⟩ := rn_i rfl rfl rfl rfl hh
    obtain ⟨n, fr', lo', r1, hr1, hh⟩ := rn_call (w := 0) (t := 185) rfl rfl hh
    have er := rn_dt (F := 10) (Lo := 1000) (hd_digitIn (fr := 10) (lo := 1000) (sl := sl) q1 q2 q3 q4 ht (by omega) (by decide) (by decide) (Int32.ofInt 0) (Int32.ofInt 4)) hr1
    have hin : pm_in (nI (4 * rm)) 36 = true := hI_in (by omega) (by decide)
    dsimp only [cond]
    unfold rgL
    cases hd : dgi tp a t (Int32.ofInt 0) (Int32.ofInt 4) with
    | false =>
      rw [hd] at er
      dsimp only [cond] at er
      subst er
      have hh : pm_run PT n fr lo 191 (34, [some (.ref 162), some (.int (nI (4 * rm)))], [.int (-1), .int (nI (4 * rm)), .ref 173], h, 198, sl) = some R := hh
      obtain ⟨n, hh⟩ := rn_ism rfl q8 hin (by decide) hh
      have p' := pG_rd (e := upd f (nI (4 * rm)).toNatClampNeg (-1)) p
      obtain ⟨n, hh⟩ := rn_i rfl rfl rfl rfl hh
      obtain ⟨n, hh⟩ := rn_gfm rfl rfl p'.1.2.2.2.1 hh
      obtain ⟨n, hh⟩ := rn_i rfl rfl rfl rfl hh
      obtain ⟨n, hh⟩ := rn_iam rfl asR_self hin (by decide) hh
      have eu : upd f (nI (4 * rm)).toNatClampNeg (-1) (nI (4 * rm)).toNatClampNeg = (-1 : Int32) := by simp [upd]
      rw [eu] at hh
      obtain ⟨n, hh⟩ := rn_if (cc := .ge) (off := 5) (t := 46) rfl rfl hh
      rw [show pm_cmp .ge (-1 : Int32) 0 = false by decide] at hh
      obtain ⟨r1, r2, r3⟩ := rg_0 p' hh
      exact ⟨r1, ⟨rm, r2, fun q => by cases q⟩, r3⟩
    | true =>
      rw [hd] at er
      dsimp only [cond] at er
      subst er
      obtain ⟨v0, v1⟩ := dgi_g0 hd
      have p0 : pG (mset h 16 (.int (nI (a + 1)))) tp t cc gc (a + 1) rm := pG_16 p
      have hh : pm_run PT n fr lo 191 (34, [some (.ref 162), some (.int (nI (4 * rm)))], [.int (tp a - 48), .int (nI (4 * rm)), .ref 173], mset h 16 (.int (nI (a + 1))), 198, sl) = some R := hh
      obtain ⟨f0, q80⟩ := p0.1.2.2.2.2
      obtain ⟨n, hh⟩ := rn_ism rfl q80 hin (by decide) hh
      have p' := pG_rd (e := upd f0 (nI (4 * rm)).toNatClampNeg (tp a - 48)) p0
      obtain ⟨n, hh⟩ := rn_i rfl rfl rfl rfl hh
      obtain ⟨n, hh⟩ := rn_gfm rfl rfl p'.1.2.2.2.1 hh
      obtain ⟨n, hh⟩ := rn_i rfl rfl rfl rfl hh
      obtain ⟨n, hh⟩ := rn_iam rfl asR_self hin (by decide) hh
      have eu : upd f0 (nI (4 * rm)).toNatClampNeg (tp a - 48) (nI (4 * rm)).toNatClampNeg = tp a - 48 := by simp [upd]
      rw [eu] at hh
      obtain ⟨n, hh⟩ := rn_if (cc := .ge) (off := 5) (t := 46) rfl rfl hh
      rw [ge0_val v1] at hh
      exact rg_46 ht (by omega) (by omega) p' hh
theorem rgL_le (ha : a ≤ t) : (rgL tp t cc a).2 ≤ t := by
  unfold rgL
  cases hd : dgi tp a t (Int32.ofInt 0) (Int32.ofInt 4) with
  | false => exact ha
  | true =>
    have h1 := (dgi_g0 hd).1
    dsimp only [cond]
    cases hb : dg tp (a + 1) t with
    | false => exact h1
    | true =>
      have h2 := dg_lt hb
      obtain ⟨b1, b2, b3, -⟩ := nbr_bd (tp := tp) t 2 (a + 1) 0 0 (by decide) (by decide) (by decide) (by decide)
      have b3 := b3 (by omega)
      dsimp only
      generalize nbr tp t 2 (a + 1) 0 = w at *
      unfold rgW
      by_cases z : w.2 = 0
      · rw [decide_eq_true z]
        show w.1 - 1 ≤ t
        omega
      · rw [decide_eq_false z]
        show (rgC tp t cc w.1).2 ≤ t
        unfold rgC
        cases x : decide (w.1 < t ∧ tp w.1 = 44) with
        | false => exact b3
        | true =>
          have xx := of_decide_eq_true x
          show (rgE tp t cc (w.1 + 1)).2 ≤ t
          unfold rgE
          cases y : dg tp (w.1 + 1) t with
          | false => exact (by show w.1 + 1 ≤ t; omega)
          | true =>
            have yy := dg_lt y
            cases u : dgi tp (w.1 + 1 + 1) t (Int32.ofInt 0) (nI cc - Int32.ofInt 1) with
            | false => exact (by show w.1 + 1 + 1 ≤ t; omega)
            | true =>
              have := (dgi_g0 u).1
              exact (by show w.1 + 1 + 2 ≤ t; omega)
/-- all LINES of GIFTS -/
def sgL (tp : Nat → Int32) (t cc gc : Nat) : Nat → Nat → Nat → Bool × Nat × Nat
  | 0, rm, a => (false, a, rm)
  | k + 1, rm, a => cond (decide (gc + rm = 8)) (false, a, rm) (cond (rgL tp t cc a).1 (cond (decide ((rgL tp t cc a).2 < t ∧ tp (rgL tp t cc a).2 = 59)) (sgL tp t cc gc k (rm + 1) ((rgL tp t cc a).2 + 1)) (true, (rgL tp t cc a).2, rm + 1)) (false, (rgL tp t cc a).2, rm))
theorem gm_loop (ht : t ≤ 80) {n0 : Int32} : ∀ (k rm a n : Nat) (h : pm_H), gc + rm + k = 9 → 0 < k → a ≤ t → pG h tp t cc gc a rm → pm_run PT n fr lo 192 (29, [some (.ref 162), some (.int n0), some (.int 1), some (.int 1), none, none], [], h, 198, sl) = some R → ∃ m h' rm', pm_run PT m fr lo 192 (60, [some (.ref 162), some (.int n0), some (.int (cond (sgL tp t cc gc k rm a).1 1 0)), some (.int 0), none, none], [], h', 198, sl) = some R ∧ pG h' tp t cc gc (sgL tp t cc gc k rm a).2.1 rm' ∧ ((sgL tp t cc gc k rm a).1 = true → rm' = (sgL tp t cc gc k rm a).2.2) := by
  have out : ∀ (n : Nat) (b : Int32) (h : pm_H), pm_run PT n fr lo 192 (29, [some (.ref 162), some (.int n0), some (.int b), some (.int 0), none, none], [], h, 198, sl) = some R → ∃ m, pm_run PT m fr lo 192 (60, [some (.ref 162), some (.int n0), some (.int b), some (.int 0), none, none], [], h, 198, sl) = some R := by
    intro n b h hh
    obtain ⟨n, hh⟩ := rn_i rfl rfl rfl rfl hh
    obtain ⟨n, hh⟩ := rn_if (cc := .eq) (off := 30) (t := 60) rfl rfl hh
    exact ⟨n, hh⟩
  have bad : ∀ (n : Nat) (h1 : pm_H), pm_run PT n fr lo 192 (37, [some (.ref 162), some (.int n0), some (.int 1), some (.int 1), none, none], [.int 0], h1, 198, sl) = some R → ∃ m, pm_run PT m fr lo 192 (60, [some (.ref 162), some (.int n0), some (.int 0), some (.int 0), none, none], [], h1, 198, sl) = some R := by
    intro n h1 hh
    obtain ⟨n, hh⟩ := rn_i rfl rfl rfl rfl hh
    obtain ⟨n, hh⟩ := rn_i rfl rfl rfl rfl hh
    obtain ⟨n, hh⟩ := rn_if (cc := .eq) (off := 16) (t := 55) rfl rfl hh
    have hh : pm_run PT n fr lo 192 (55, [some (.ref 162), some (.int n0), some (.int 0), some (.int 1), none, none], [], h1, 198, sl) = some R := hh
    obtain ⟨n, hh⟩ := rn_i rfl rfl rfl rfl hh
    obtain ⟨n, hh⟩ := rn_i rfl rfl rfl rfl hh
    obtain ⟨n, hh⟩ := rn_i rfl rfl rfl rfl hh
    exact out n 0 h1 hh
  intro k
  induction k with
  | zero => intro rm a n h hk h0; exact absurd h0 (by omega)
  | succ k ih =>
    intro rm a n h hk h0 ha p hh
    obtain ⟨n, hh⟩ := rn_i rfl rfl rfl rfl hh
    obtain ⟨n, hh⟩ := rn_if (cc := .eq) (off := 30) (t := 60) rfl rfl hh
    have hh : pm_run PT n fr lo 192 (33, [some (.ref 162), some (.int n0), some (.int 1), some (.int 1), none, none], [], h, 198, sl) = some R := hh
    obtain ⟨n, hh⟩ := rn_i rfl rfl rfl rfl hh
    obtain ⟨n, fr', lo', r1, hr1, hh⟩ := rn_call (w := 0) (t := 191) rfl rfl hh
    obtain ⟨e1, ⟨rm', e2, e4⟩, e3⟩ := rg_reads ht (by omega) (by omega) p hr1
    obtain ⟨rv, h1, s1⟩ := r1
    dsimp only at e1 e2 e3 e4
    subst e1
    subst e3
    show ∃ m h' rm', pm_run PT m fr lo 192 (60, [some (.ref 162), some (.int n0), some (.int (cond (sgL tp t cc gc (k + 1) rm a).1 1 0)), some (.int 0), none, none], [], h', 198, sl) = some R ∧ pG h' tp t cc gc (sgL tp t cc gc (k + 1) rm a).2.1 rm' ∧ ((sgL tp t cc gc (k + 1) rm a).1 = true → rm' = (sgL tp t cc gc (k + 1) rm a).2.2)
    unfold sgL
    cases z : decide (gc + rm = 8) with
    | true =>
      rw [z] at e2 e4 hh
      obtain ⟨m, hm⟩ := bad n h1 hh
      exact ⟨m, h1, rm', hm, e2, fun q => by cases q⟩
    | false =>
      rw [z] at e2 e4 hh
      dsimp only [cond] at e2 e4 ⊢
      cases y : (rgL tp t cc a).1 with
      | false =>
        have hh : pm_run PT n fr lo 192 (37, [some (.ref 162), some (.int n0), some (.int 1), some (.int 1), none, none], [.int 0], h1, 198, sl) = some R := by rw [← hh]; dsimp only [cond]; rw [y]; rfl
        obtain ⟨m, hm⟩ := bad n h1 hh
        exact ⟨m, h1, rm', hm, e2, fun q => by cases q⟩
      | true =>
        have hh : pm_run PT n fr lo 192 (37, [some (.ref 162), some (.int n0), some (.int 1), some (.int 1), none, none], [.int 1], h1, 198, sl) = some R := by rw [← hh]; dsimp only [cond]; rw [y]; rfl
        have hle : (rgL tp t cc a).2 ≤ t := rgL_le ha
        have e4 := e4 y
        subst e4
        generalize (rgL tp t cc a).2 = b at *
        obtain ⟨n, hh⟩ := rn_i rfl rfl rfl rfl hh
        obtain ⟨n, hh⟩ := rn_i rfl rfl rfl rfl hh
        obtain ⟨n, hh⟩ := rn_if (cc := .eq) (off := 16) (t := 55) rfl rfl hh
        have hh : pm_run PT n fr lo 192 (42, [some (.ref 162), some (.int n0), some (.int 1), some (.int 1), none, none], [], h1, 198, sl) = some R := hh
        obtain ⟨n, hh⟩ := rn_i rfl rfl rfl rfl hh
        obtain ⟨n, hh⟩ := rn_i rfl rfl rfl rfl hh
        obtain ⟨n, fr', lo', r1, hr1, hh⟩ := rn_call (w := 0) (t := 181) rfl rfl hh
        obtain ⟨⟨⟨q1, q2, q3, q4⟩, -⟩, -⟩ := id e2
        have er := rn_dt (F := 10) (Lo := 1000) (hd_takes (fr := 10) (lo := 1000) (sl := sl) q1 q2 q3 q4 ht (by omega) (by decide) (by decide) 59) hr1
        cases x : decide (b < t ∧ tp b = 59) with
        | false =>
          rw [x] at er
          dsimp only [cond] at er
          subst er
          have hh : pm_run PT n fr lo 192 (48, [some (.ref 162), some (.int n0), some (.int 1), some (.int 1), none, none], [.int 0], mset h1 16 (.int (nI (b + 0))), 198, sl) = some R := hh
          obtain ⟨n, hh⟩ := rn_if (cc := .eq) (off := 7) (t := 55) rfl rfl hh
          have hh : pm_run PT n fr lo 192 (55, [some (.ref 162), some (.int n0), some (.int 1), some (.int 1), none, none], [], mset h1 16 (.int (nI (b + 0))), 198, sl) = some R := hh
          obtain ⟨n, hh⟩ := rn_i rfl rfl rfl rfl hh
          obtain ⟨n, hh⟩ := rn_i rfl rfl rfl rfl hh
          obtain ⟨n, hh⟩ := rn_i rfl rfl rfl rfl hh
          obtain ⟨m, hm⟩ := out n 1 _ hh
          exact ⟨m, _, rm + 1, hm, pG_16 e2, fun _ => rfl⟩
        | true =>
          rw [x] at er
          dsimp only [cond] at er
          subst er
          have xx := of_decide_eq_true x
          have hh : pm_run PT n fr lo 192 (48, [some (.ref 162), some (.int n0), some (.int 1), some (.int 1), none, none], [.int 1], mset h1 16 (.int (nI (b + 1))), 198, sl) = some R := hh
          obtain ⟨n, hh⟩ := rn_if (cc := .eq) (off := 7) (t := 55) rfl rfl hh
          have hh : pm_run PT n fr lo 192 (51, [some (.ref 162), some (.int n0), some (.int 1), some (.int 1), none, none], [], mset h1 16 (.int (nI (b + 1))), 198, sl) = some R := hh
          obtain ⟨n, hh⟩ := rn_i rfl rfl rfl rfl hh
          obtain ⟨n, hh⟩ := rn_i rfl rfl rfl rfl hh
          obtain ⟨n, hh⟩ := rn_i rfl rfl rfl rfl hh
          obtain ⟨n, hh⟩ := rn_i rfl rfl rfl rfl hh
          have zz := of_decide_eq_false z
          exact ih (rm + 1) (b + 1) n _ (by omega) (by omega) (by omega) (pG_16 e2) hh
end GML
end MG95zgx1
section MG95zgx2
/-! the reference's gifts, whole -/
section GMN
variable {n fr lo sl k pc sz j cc gc r n0 : Nat} {h : pm_H} {L : pm_L} {S : List Value} {R : pm_Rs} {tp : Nat → Int32}
def gmP (ci f : Nat) : Bool := Nat.beq ci 11 && (Nat.beq f 4 || Nat.beq f 20)
theorem gm_ok : sf_ok gmP cmK := sf_of cmK_in (by decide +kernel)
theorem gm_blk : blk_ok gmP cmK cmJ 192 90 214 := blk_of (by decide +kernel)
theorem gm_add (hr : r ≤ 8) (hc : gc ≤ 8) : ∀ (d k n : Nat) (L : pm_L) (S : List Value) (h : pm_H), k + d = r → pm_get L 0 = some (.ref 162) → pm_get L 5 = some (.int (nI k)) → mF h 20 (.int (nI r)) → mF h 4 (.int (nI (gc + k))) → pm_run PT n fr lo 192 (81, L, S, h, 198, sl) = some R → R.1 = some (.int (nI r)) ∧ mF R.2.1 4 (.int (nI (gc + r))) := by
  intro d
  induction d with
  | zero =>
    intro k n L S h hk h0 h5 q20 q3 hh
    have hk : k = r := by omega
    subst hk
    obtain ⟨n, hh⟩ := rn_il rfl h5 rfl hh
    obtain ⟨n, hh⟩ := rn_aln rfl h0 rfl hh
    obtain ⟨n, hh⟩ := rn_gfm rfl rfl q20 hh
    obtain ⟨n, hh⟩ := rn_icmp (cc := .ge) (off := 143) (t := 230) rfl rfl hh
    rw [hI_ge (by omega) (by omega), decide_eq_true (Nat.le_refl _)] at hh
    have hh : pm_run PT n fr lo 192 (230, L, S, h, 198, sl) = some R := hh
    obtain ⟨n, hh⟩ := rn_aln rfl h0 rfl hh
    obtain ⟨n, fr', lo', r1, hr1, hh⟩ := rn_call (w := 0) (t := 190) rfl rfl hh
    have hf := sf_run gm_ok _ _ _ 190 _ r1 rfl hr1
    have hz := sz_run gm_ok _ _ _ 190 _ r1 rfl hr1
    have hv := vd_run rfl hr1
    obtain ⟨rv, h1, s1⟩ := r1
    dsimp only at hf hz hv
    subst hz
    subst hv
    have hh : pm_run PT n fr lo 192 (234, L, S, h1, 198, sl) = some R := hh
    obtain ⟨n, hh⟩ := rn_aln rfl h0 rfl hh
    obtain ⟨n, hh⟩ := rn_gfm rfl rfl (fm_mF hf rfl q20) hh
    obtain ⟨-, rfl⟩ := rn_ret rfl (Or.inl rfl) hh
    exact ⟨rfl, fm_mF hf rfl q3⟩
  | succ d ih =>
    intro k n L S h hk h0 h5 q20 q3 hh
    obtain ⟨n, hh⟩ := rn_il rfl h5 rfl hh
    obtain ⟨n, hh⟩ := rn_aln rfl h0 rfl hh
    obtain ⟨n, hh⟩ := rn_gfm rfl rfl q20 hh
    obtain ⟨n, hh⟩ := rn_icmp (cc := .ge) (off := 143) (t := 230) rfl rfl hh
    rw [hI_ge (by omega) (by omega), decide_eq_false (by omega)] at hh
    have hh : pm_run PT n fr lo 192 (90, L, S, h, 198, sl) = some R := hh
    obtain ⟨n, L', S', h', hh, hl, hf⟩ := blk_run gm_ok gm_blk n fr lo _ R (Nat.le_of_ble_eq_true rfl) (Nat.le_of_ble_eq_true rfl) hh
    dsimp only at hl hf hh
    have g0 := hl 0 _ rfl h0 rfl
    have g5 := hl 5 _ rfl h5 rfl
    have q3' := fm_mF hf rfl q3
    have q20' := fm_mF hf rfl q20
    have hh : pm_run PT n fr lo 192 (214, L', S', h', 198, sl) = some R := hh
    obtain ⟨n, hh⟩ := rn_aln rfl g0 rfl hh
    obtain ⟨n, hh⟩ := rn_i rfl rfl rfl rfl hh
    obtain ⟨n, hh⟩ := rn_gfm rfl rfl q3' hh
    obtain ⟨n, hh⟩ := rn_i rfl rfl rfl rfl hh
    obtain ⟨n, hh⟩ := rn_i rfl rfl rfl rfl hh
    obtain ⟨n, hh⟩ := rn_pfm (w := .int (nI (gc + k))) rfl rfl rfl (by decide) q3' hh
    obtain ⟨n, hh⟩ := rn_i rfl rfl rfl (iinc_eq g5 (Nat.le_of_ble_eq_true rfl)) hh
    obtain ⟨n, hh⟩ := rn_i rfl rfl rfl rfl hh
    have e1 : nI (gc + k) + Int32.ofInt 1 = nI (gc + (k + 1)) := (Int32.ofNat_add (gc + k) 1).symm
    have e2 : nI k + Int32.ofInt 1 = nI (k + 1) := (Int32.ofNat_add k 1).symm
    have hh : pm_run PT n fr lo 192 (81, pm_st1 L' 5 (.int (nI k + Int32.ofInt 1)), S', mset h' 4 (.int (nI (gc + k) + Int32.ofInt 1)), 198, sl) = some R := hh
    rw [e1, e2] at hh
    exact ih (k + 1) n _ S' _ (by omega) (lkp_st1 (J := fun j => Nat.beq j 0) rfl 0 _ rfl g0 rfl) (get_st1 g5) (mF_ne (by decide) q20') (mF_self q3') hh
def gmS (tp : Nat → Int32) (n0 cc gc : Nat) : Bool × Nat × Nat := cond (Nat.beq n0 0) (true, 0, 0) (sgL tp (min n0 55) cc gc (9 - gc) 0 0)
def gmF (tp : Nat → Int32) (n0 cc gc : Nat) : Int32 := fO n0 55 (min n0 55) (gmS tp n0 cc gc).2.1 (gmS tp n0 cc gc).1
def gmA (tp : Nat → Int32) (n0 cc gc : Nat) : Int32 := cond (pm_cmp .ge (gmF tp n0 cc gc) 0) (nI (gmS tp n0 cc gc).2.2) (gmF tp n0 cc gc)
def gmN (tp : Nat → Int32) (n0 cc gc : Nat) : Nat := cond (pm_cmp .ge (gmF tp n0 cc gc) 0) (gmS tp n0 cc gc).2.2 0
theorem sgL_bd {t : Nat} : ∀ (k rm a : Nat), a ≤ t → (sgL tp t cc gc k rm a).2.1 ≤ t ∧ (gc + rm ≤ 8 → gc + (sgL tp t cc gc k rm a).2.2 ≤ 8)
  | 0, rm, a, ha => ⟨ha, fun q => q⟩
  | k + 1, rm, a, ha => by
    unfold sgL
    cases z : decide (gc + rm = 8) with
    | true => exact ⟨ha, fun q => q⟩
    | false =>
      have zz := of_decide_eq_false z
      have hle := rgL_le (tp := tp) (cc := cc) ha
      dsimp only [cond]
      cases (rgL tp t cc a).1 with
      | false => exact ⟨hle, fun q => q⟩
      | true =>
        dsimp only
        cases x : decide ((rgL tp t cc a).2 < t ∧ tp (rgL tp t cc a).2 = 59) with
        | false => exact ⟨hle, fun q => by show gc + (rm + 1) ≤ 8; omega⟩
        | true =>
          have xx := of_decide_eq_true x
          obtain ⟨a1, a3⟩ := sgL_bd (t := t) k (rm + 1) ((rgL tp t cc a).2 + 1) (by omega)
          exact ⟨a1, fun q => a3 (by omega)⟩
/-- a fault is below 0 unless the LINES stand -/
theorem fO_ge {m t at_ : Nat} {is : Bool} (hm : m ≤ 80) (ha : at_ ≤ 80) (q : pm_cmp .ge (fO n0 m t at_ is) 0 = true) : is = true := by
  cases is with
  | true => rfl
  | false =>
    exfalso
    unfold fO fO2 at q
    rw [Bool.false_and] at q
    split at q
    · rw [neg_ge hm] at q
      cases q
    · rw [cond_false, neg_ge ha] at q
      cases q
theorem gm_run {w x16 x17 x18 x20 : Int32} {f : Nat → Int32} (hn : n0 ≤ 80) (hc : gc ≤ 8) (h0 : mF h 0 (.int w)) (h15 : mF h 15 (.int (nI n0))) (h16 : mF h 16 (.int x16)) (h17 : mF h 17 (.int x17)) (h18 : mF h 18 (.int x18)) (h20 : mF h 20 (.int x20)) (h3 : mF h 3 (.int (nI cc))) (h4 : mF h 4 (.int (nI gc))) (h14 : mF h 14 (.ref 172)) (hA : h 172 = .inl (0, 80, .inl tp)) (h19 : mF h 19 (.ref 173)) (hB : h 173 = .inl (0, 36, .inl f)) (hh : pm_run PT n fr lo 192 (0, pm_l0 [.ref 162] 6, [], h, 198, sl) = some R) : R.1 = some (.int (gmA tp n0 cc gc)) ∧ mF R.2.1 4 (.int (nI (gc + gmN tp n0 cc gc))) := by
  obtain ⟨n, hh⟩ := rn_i rfl rfl rfl rfl hh
  obtain ⟨n, hh⟩ := rn_i rfl rfl rfl rfl hh
  obtain ⟨n, hh⟩ := rn_pfm (w := .int w) rfl rfl rfl (by decide) h0 hh
  obtain ⟨n, hh⟩ := rn_i rfl rfl rfl rfl hh
  obtain ⟨n, hh⟩ := rn_i rfl rfl rfl rfl hh
  obtain ⟨n, fr', lo', r1, hr1, hh⟩ := rn_call (w := 0) (t := 180) rfl rfl hh
  have g15 : mF (mset h 0 (.int (Int32.ofInt 0))) 15 (.int (nI n0)) := mF_ne (by decide) h15
  have er := rn_dt (F := 10) (Lo := 1000) (hd_begins (fr := 10) (lo := 1000) (sl := sl) (m := 55) g15 (mF_ne (by decide) h16) (mF_ne (by decide) h17) (mF_ne (by decide) h18) hn (by decide) (by decide) (by decide)) hr1
  subst er
  have mm : ∀ (g : Nat) (v : Value), g ≠ 0 → g ≠ 15 → g ≠ 16 → g ≠ 18 → g ≠ 17 → mF h g v → mF (hbeg (mset h 0 (.int (Int32.ofInt 0))) n0 55) g v := fun g v a0 a1 a2 a3 a4 q => mF_ne (Ne.symm a4) (mF_ne (Ne.symm a3) (mF_ne (Ne.symm a2) (mF_ne (Ne.symm a1) (mF_ne (Ne.symm a0) q))))
  have p20 : mF (hbeg (mset h 0 (.int (Int32.ofInt 0))) n0 55) 20 (.int x20) := mm 20 _ (by decide) (by decide) (by decide) (by decide) (by decide) h20
  have pp : pG (mset (hbeg (mset h 0 (.int (Int32.ofInt 0))) n0 55) 20 (.int (nI 0))) tp (min n0 55) cc gc 0 0 := by
    refine ⟨⟨⟨mF_ne (by decide) ?_, mF_ne (by decide) ?_, mF_ne (by decide) (mm 14 _ (by decide) (by decide) (by decide) (by decide) (by decide) h14), ?_⟩, mF_self p20, mF_ne (by decide) (mm 3 _ (by decide) (by decide) (by decide) (by decide) (by decide) h3), mF_ne (by decide) (mm 19 _ (by decide) (by decide) (by decide) (by decide) (by decide) h19), f, ?_⟩, mF_ne (by decide) (mm 4 _ (by decide) (by decide) (by decide) (by decide) (by decide) h4)⟩
    · exact mF_ne (by decide) (mF_ne (by decide) (mF_self (w := .int x16) (mF_ne (by decide) (mF_ne (by decide) h16))))
    · exact mF_self (w := .int x17) (mF_ne (by decide) (mF_ne (by decide) (mF_ne (by decide) (mF_ne (by decide) h17))))
    · exact mset_arr (by decide) (mset_arr (by decide) (mset_arr (by decide) (mset_arr (by decide) (mset_arr (by decide) (mset_arr (by decide) hA)))))
    · exact mset_arr (by decide) (mset_arr (by decide) (mset_arr (by decide) (mset_arr (by decide) (mset_arr (by decide) (mset_arr (by decide) hB)))))
  have hh : pm_run PT n fr lo 192 (11, [some (.ref 162), none, none, none, none, none], [.int (nI n0)], hbeg (mset h 0 (.int (Int32.ofInt 0))) n0 55, 198, sl) = some R := hh
  generalize hbeg (mset h 0 (.int (Int32.ofInt 0))) n0 55 = hb at *
  obtain ⟨n, hh⟩ := rn_i rfl rfl rfl rfl hh
  obtain ⟨n, hh⟩ := rn_i rfl rfl rfl rfl hh
  obtain ⟨n, hh⟩ := rn_i rfl rfl rfl rfl hh
  obtain ⟨n, hh⟩ := rn_pfm (w := .int x20) rfl rfl rfl (by decide) p20 hh
  obtain ⟨n, hh⟩ := rn_i rfl rfl rfl rfl hh
  obtain ⟨n, hh⟩ := rn_i rfl rfl rfl rfl hh
  obtain ⟨n, hh⟩ := rn_i rfl rfl rfl rfl hh
  obtain ⟨n, hh⟩ := rn_if (cc := .le) (off := 7) (t := 27) rfl rfl hh
  have sec : ∀ (n : Nat) (hq : pm_H) (b : Bool) (at_ rm rm' : Nat) (x3 : Int32), at_ ≤ min n0 55 → gc + rm ≤ 8 → pG hq tp (min n0 55) cc gc at_ rm' → (b = true → rm' = rm) → pm_run PT n fr lo 192 (60, [some (.ref 162), some (.int (nI n0)), some (.int (cond b 1 0)), some (.int x3), none, none], [], hq, 198, sl) = some R → R.1 = some (.int (cond (pm_cmp .ge (fO n0 55 (min n0 55) at_ b) 0) (nI rm) (fO n0 55 (min n0 55) at_ b))) ∧ mF R.2.1 4 (.int (nI (gc + cond (pm_cmp .ge (fO n0 55 (min n0 55) at_ b) 0) rm 0))) := by
    intro n hq b at_ rm rm' x3 hat hrm p hbr hh
    obtain ⟨n, hh⟩ := rn_i rfl rfl rfl rfl hh
    obtain ⟨n, hh⟩ := rn_i rfl rfl rfl rfl hh
    obtain ⟨n, hh⟩ := rn_i rfl rfl rfl rfl hh
    obtain ⟨n, hh⟩ := rn_i rfl rfl rfl rfl hh
    obtain ⟨n, fr', lo', r1, hr1, hh⟩ := rn_call (w := 0) (t := 186) rfl rfl hh
    have er := fo_run (m := 55) hn (by decide) (by omega) (by omega) p.1.1.1 p.1.1.2.1 hr1
    subst er
    have hfg := fO_ge (n0 := n0) (m := 55) (t := min n0 55) (at_ := at_) (is := b) (by decide) (by omega)
    generalize hF : fO n0 55 (min n0 55) at_ b = F at *
    have hh : pm_run PT n fr lo 192 (68, [some (.ref 162), some (.int (nI n0)), some (.int (cond b 1 0)), some (.int x3), none, none], [.int F], hq, 198, sl) = some R := hh
    obtain ⟨n, hh⟩ := rn_i rfl rfl rfl rfl hh
    obtain ⟨n, hh⟩ := rn_i rfl rfl rfl rfl hh
    obtain ⟨n, hh⟩ := rn_if (cc := .ge) (off := 6) (t := 78) rfl rfl hh
    cases hge : pm_cmp .ge F 0 with
    | false =>
      rw [hge] at hh
      obtain ⟨n, hh⟩ := rn_i rfl rfl rfl rfl hh
      obtain ⟨-, rfl⟩ := rn_ret rfl (Or.inl rfl) hh
      exact ⟨rfl, p.2⟩
    | true =>
      rw [hge] at hh
      have er := hbr (hfg hge)
      subst er
      obtain ⟨n, hh⟩ := rn_i rfl rfl rfl rfl hh
      obtain ⟨n, hh⟩ := rn_i rfl rfl rfl rfl hh
      exact gm_add (r := rm') (by omega) hc rm' 0 n _ [] hq (by omega) rfl rfl p.1.2.1 p.2 hh
  by_cases z : n0 = 0
  · have es : gmS tp n0 cc gc = (true, 0, 0) := by
      unfold gmS
      rw [z]
      rfl
    unfold gmA gmN gmF
    rw [es]
    rw [show pm_cmp .le (nI n0) 0 = true by rw [z]; decide] at hh
    have hh : pm_run PT n fr lo 192 (27, [some (.ref 162), some (.int (nI n0)), some (.int 1), none, none, none], [], mset hb 20 (.int (nI 0)), 198, sl) = some R := hh
    obtain ⟨n, hh⟩ := rn_i rfl rfl rfl rfl hh
    obtain ⟨n, hh⟩ := rn_i rfl rfl rfl rfl hh
    have hh : pm_run PT n fr lo 192 (29, [some (.ref 162), some (.int (nI n0)), some (.int 1), some (.int 0), none, none], [], mset hb 20 (.int (nI 0)), 198, sl) = some R := hh
    obtain ⟨n, hh⟩ := rn_i rfl rfl rfl rfl hh
    obtain ⟨n, hh⟩ := rn_if (cc := .eq) (off := 30) (t := 60) rfl rfl hh
    exact sec n _ true 0 0 0 0 (Nat.zero_le _) (by omega) pp (fun _ => rfl) hh
  · have ec : pm_cmp .le (nI n0) 0 = false := by
      have := hI_le (a := n0) (b := 0) (by omega) (by omega)
      rw [decide_eq_false (by omega)] at this
      exact this
    rw [ec] at hh
    have hh : pm_run PT n fr lo 192 (23, [some (.ref 162), some (.int (nI n0)), some (.int 1), none, none, none], [], mset hb 20 (.int (nI 0)), 198, sl) = some R := hh
    obtain ⟨n, hh⟩ := rn_i rfl rfl rfl rfl hh
    obtain ⟨n, hh⟩ := rn_i rfl rfl rfl rfl hh
    obtain ⟨n, hh⟩ := rn_i rfl rfl rfl rfl hh
    obtain ⟨m, h', rm', hm, p', hrm'⟩ := gm_loop (t := min n0 55) (by omega) (9 - gc) 0 0 n _ (by omega) (by omega) (Nat.zero_le _) pp hh
    have hb0 : Nat.beq n0 0 = false := nb_ne z
    have es : gmS tp n0 cc gc = sgL tp (min n0 55) cc gc (9 - gc) 0 0 := by
      unfold gmS
      rw [hb0]
      rfl
    obtain ⟨b1, b3⟩ := sgL_bd (tp := tp) (cc := cc) (gc := gc) (9 - gc) 0 0 (Nat.zero_le (min n0 55))
    unfold gmA gmN gmF
    rw [es]
    exact sec m h' _ _ _ rm' 0 b1 (b3 (by omega)) p' hrm' hm
end GMN
end MG95zgx2
section MG95zgx3
/-! the class's readGift -/
section GXR
variable {n fr lo sl n0 cc p t : Nat} {h : pm_H} {R : pm_Rs} {f : Nat → Int32}
theorem dgi_rng {u : Int32} {c : Nat} (hc : c ≤ 10) (hu : u.toInt = (c : Int) - 1) : dgi f p t (Int32.ofInt 0) u = (dg f p t && decide ((f p - 48).toInt < (c : Int))) := by
  have n0' : ((Int32.ofInt 0).toInt64).toInt = 0 := by decide
  have nu : (u.toInt64).toInt = (c : Int) - 1 := by rw [Int32.toInt_toInt64]; exact hu
  cases hd : dg f p t with
  | true =>
    obtain ⟨v1, v2⟩ := dg_val hd
    unfold dgi in_b
    rw [decide_eq_true (dg_lt hd)]
    have a1 : ¬ (f p - 48).toInt64 < (Int32.ofInt 0).toInt64 := by
      rw [Int64.lt_iff_toInt_lt, n0', Int32.toInt_toInt64]
      omega
    rw [decide_eq_false a1]
    by_cases z : (f p - 48).toInt < (c : Int)
    · have a2 : ¬ u.toInt64 < (f p - 48).toInt64 := by
        rw [Int64.lt_iff_toInt_lt, nu, Int32.toInt_toInt64]
        omega
      rw [decide_eq_false a2, decide_eq_true z]
      rfl
    · have a2 : u.toInt64 < (f p - 48).toInt64 := by
        rw [Int64.lt_iff_toInt_lt, nu, Int32.toInt_toInt64]
        omega
      rw [decide_eq_true a2, decide_eq_false z]
      rfl
  | false =>
    rw [Bool.false_and]
    cases hi : dgi f p t (Int32.ofInt 0) u with
    | false => rfl
    | true =>
      exfalso
      unfold dgi in_b at hi
      rw [Bool.and_eq_true, Bool.and_eq_true] at hi
      have hlt := of_decide_eq_true hi.1
      have e1 : ¬ (f p - 48).toInt64 < (Int32.ofInt 0).toInt64 := by simpa using hi.2.1
      have e2 : ¬ u.toInt64 < (f p - 48).toInt64 := by simpa using hi.2.2
      rw [Int64.lt_iff_toInt_lt, n0', Int32.toInt_toInt64] at e1
      rw [Int64.lt_iff_toInt_lt, nu, Int32.toInt_toInt64] at e2
      have ef : f p = (f p - 48) + 48 := by simp
      have ei : (f p).toInt = (f p - 48).toInt + 48 := by
        have q := congrArg Int32.toInt ef
        rw [Int32.toInt_add, show (48 : Int32).toInt = 48 by decide, Int.bmod_eq_of_le (by omega) (by omega)] at q
        exact q
      have : dg f p t = true := by
        unfold dg
        rw [decide_eq_true hlt]
        refine (Bool.true_and _).trans (dg_in ?_ ?_)
        · refine decide_eq_false (fun q => ?_)
          rw [Int32.lt_iff_toInt_lt, nI_toInt (by decide)] at q
          omega
        · refine decide_eq_false (fun q => ?_)
          rw [Int32.lt_iff_toInt_lt, nI_toInt (by decide)] at q
          omega
      rw [this] at hd
      cases hd
theorem cc_m1 (hc : cc ≤ 6) : (nI cc - Int32.ofInt 1).toInt = (cc : Int) - 1 := by
  have : ∀ c : Nat, c ≤ 6 → (nI c - Int32.ofInt 1).toInt = (c : Int) - 1 := by decide
  exact this cc hc
/-- the class's isCourt -/
theorem ic_run {v : Int32} {rs : List Value} (hc : cc ≤ 6) (d1 : h 5 = .inr (3, rs)) (d2 : rs[0]? = some (.int (nI cc))) (hh : pm_run PT n fr lo 23 (0, pm_l0 [.ref 5, .int v] 2, [], h, 198, sl) = some R) : R = (some (.int (cond (decide (0 ≤ v.toInt ∧ v.toInt < (cc : Int))) 1 0)), h, 198, sl) := by
  have no : ∀ n : Nat, ¬ (0 ≤ v.toInt ∧ v.toInt < (cc : Int)) → pm_run PT n fr lo 23 (16, [some (.ref 5), some (.int v)], [], h, 198, sl) = some R → R = (some (.int (cond (decide (0 ≤ v.toInt ∧ v.toInt < (cc : Int))) 1 0)), h, 198, sl) := by
    intro n z hh
    obtain ⟨n, hh⟩ := rn_i rfl rfl rfl rfl hh
    rw [decide_eq_false z]
    exact (rn_ret rfl (Or.inr rfl) hh).2
  obtain ⟨n, hh⟩ := rn_i rfl rfl rfl rfl hh
  obtain ⟨n, hh⟩ := rn_if (cc := .lt) (off := 15) (t := 16) rfl rfl hh
  have el : pm_cmp .lt v 0 = decide (v.toInt < 0) := by
    simp only [pm_cmp]
    rw [Bool.eq_iff_iff, decide_eq_true_iff, decide_eq_true_iff, Int32.lt_iff_toInt_lt, show (0 : Int32).toInt = 0 by decide]
  rw [el] at hh
  by_cases z : v.toInt < 0
  · rw [decide_eq_true z] at hh
    exact no n (by omega) hh
  · rw [decide_eq_false z] at hh
    obtain ⟨n, hh⟩ := rn_i rfl rfl rfl rfl hh
    obtain ⟨n, hh⟩ := rn_i rfl rfl rfl rfl hh
    obtain ⟨n, hh⟩ := rn_gfo (g := 0) rfl rfl (by decide) d1 d2 hh
    obtain ⟨n, hh⟩ := rn_icmp (cc := .ge) (off := 7) (t := 16) rfl rfl hh
    have eg : pm_cmp .ge v (nI cc) = decide ((cc : Int) ≤ v.toInt) := by
      simp only [pm_cmp]
      rw [Bool.eq_iff_iff, decide_eq_true_iff, decide_eq_true_iff, Int32.le_iff_toInt_le, nI_toInt (by omega)]
    rw [eg] at hh
    by_cases y : (cc : Int) ≤ v.toInt
    · rw [decide_eq_true y] at hh
      exact no n (by omega) hh
    · rw [decide_eq_false y] at hh
      obtain ⟨n, hh⟩ := rn_i rfl rfl rfl rfl hh
      obtain ⟨n, hh⟩ := rn_i rfl rfl rfl rfl hh
      rw [decide_eq_true (by omega)]
      exact (rn_ret rfl (Or.inr rfl) hh).2
def xgJ (j : Nat) : Bool := Nat.beq j 0 || Nat.beq j 4
theorem xg_blk : blk_ok sQ sQK xgJ 131 178 215 := blk_of (by decide +kernel)
/-- what readGift answers -/
def xgA (s : Bool × Nat) : Int32 := cond s.1 (nI s.2) (Int32.ofInt (-1) - nI s.2)
theorem xg_no {a : Nat} {pc : Nat} {L1 L2 L3 : Int32} {x5 x6 x7 x8 : Option Value} (hi : pm_ins PT 131 pc = some (.iconst (-1), 1)) (hi2 : pm_ins PT 131 (pc + 1) = some (.iload 4, 2)) (hi3 : pm_ins PT 131 (pc + 1 + 2) = some (.isub, 1)) (hi4 : pm_ins PT 131 (pc + 1 + 2 + 1) = some (.ireturn, 1)) (hh : pm_run PT n fr lo 131 (pc, [some (.ref 0), some (.int L1), some (.int L2), some (.int L3), some (.int (nI a)), x5, x6, x7, x8], [], h, 198, sl) = some R) : R.1 = some (.int (Int32.ofInt (-1) - nI a)) := by
  obtain ⟨n, hh⟩ := rn_i hi rfl rfl rfl hh
  obtain ⟨n, hh⟩ := rn_i hi2 rfl rfl rfl hh
  obtain ⟨n, hh⟩ := rn_i hi3 rfl rfl rfl hh
  have e := (rn_ret hi4 (Or.inl rfl) hh).2
  rw [e]
theorem xg_145 {a : Nat} (hn : n0 ≤ 80) (hc : cc ≤ 6) (ha : a < 900) (x : pX h n0 cc f) {L1 L2 L3 L5 L6 L7 : Int32} (hh : pm_run PT n fr lo 131 (145, [some (.ref 0), some (.int L1), some (.int L2), some (.int L3), some (.int (nI a)), some (.int L5), some (.int L6), some (.int L7), none], [], h, 198, sl) = some R) : R.1 = some (.int (xgA (cond (dgi f (a + 1) (min n0 55) (Int32.ofInt 0) (nI cc - Int32.ofInt 1)) (true, a + 2) (false, a + 1)))) := by
  obtain ⟨⟨fs, a1, a2, a3⟩, ⟨gs, g1, g2, g3⟩, c1, rs, d1, d2⟩ := id x
  obtain ⟨n, hh⟩ := rn_i rfl rfl rfl rfl hh
  obtain ⟨n, hh⟩ := rn_i rfl rfl rfl rfl hh
  obtain ⟨n, hh⟩ := rn_gfo (g := 0) rfl rfl (by decide) a1 a2 hh
  obtain ⟨n, hh⟩ := rn_i rfl rfl rfl rfl hh
  obtain ⟨n, hh⟩ := rn_i rfl rfl rfl rfl hh
  have e1 : nI a + Int32.ofInt 1 = nI (a + 1) := (Int32.ofNat_add a 1).symm
  have hh : pm_run PT n fr lo 131 (156, [some (.ref 0), some (.int L1), some (.int L2), some (.int L3), some (.int (nI a + Int32.ofInt 1)), some (.int L5), some (.int L6), some (.int L7), none], [.int (nI 55), .int (nI a + Int32.ofInt 1), .ref 1], h, 198, sl) = some R := hh
  rw [e1] at hh
  obtain ⟨n, fr', lo', r1, hr1, hh⟩ := rn_call (w := 0) (t := 81) rfl rfl hh
  have er := dgA_run (l := 55) hn (by decide) (by omega) x hr1
  subst er
  have hh : pm_run PT n fr lo 131 (159, [some (.ref 0), some (.int L1), some (.int L2), some (.int L3), some (.int (nI (a + 1))), some (.int L5), some (.int L6), some (.int L7), none], [.int (dgA f n0 (a + 1) 55)], h, 198, sl) = some R := hh
  obtain ⟨n, hh⟩ := rn_i rfl rfl rfl rfl hh
  obtain ⟨n, hh⟩ := rn_i rfl rfl rfl rfl hh
  obtain ⟨n, hh⟩ := rn_gfo (g := 2) rfl rfl (by decide) a1 a3 hh
  obtain ⟨n, hh⟩ := rn_i rfl rfl rfl rfl hh
  obtain ⟨n, fr', lo', r1, hr1, hh⟩ := rn_call (w := 0) (t := 23) rfl rfl hh
  have er := ic_run hc d1 d2 hr1
  subst er
  have hh : pm_run PT n fr lo 131 (170, [some (.ref 0), some (.int L1), some (.int L2), some (.int L3), some (.int (nI (a + 1))), some (.int L5), some (.int L6), some (.int L7), some (.int (dgA f n0 (a + 1) 55))], [.int (cond (decide (0 ≤ (dgA f n0 (a + 1) 55).toInt ∧ (dgA f n0 (a + 1) 55).toInt < (cc : Int))) 1 0)], h, 198, sl) = some R := hh
  have ed : decide (0 ≤ (dgA f n0 (a + 1) 55).toInt ∧ (dgA f n0 (a + 1) 55).toInt < (cc : Int)) = dgi f (a + 1) (min n0 55) (Int32.ofInt 0) (nI cc - Int32.ofInt 1) := by
    rw [dgi_rng (by omega) (cc_m1 hc)]
    cases hd : dg f (a + 1) (min n0 55) with
    | false =>
      rw [dgA_no hd, show (Int32.ofInt (-1)).toInt = -1 by decide, decide_eq_false (by omega)]
      rfl
    | true =>
      obtain ⟨v1, v2⟩ := dg_val hd
      rw [dgA_yes hd, Bool.true_and, Bool.eq_iff_iff, decide_eq_true_iff, decide_eq_true_iff]
      omega
  rw [ed] at hh
  obtain ⟨n, hh⟩ := rn_if (cc := .ne) (off := 8) (t := 178) rfl rfl hh
  cases hi : dgi f (a + 1) (min n0 55) (Int32.ofInt 0) (nI cc - Int32.ofInt 1) with
  | false =>
    rw [hi] at hh
    have hh : pm_run PT n fr lo 131 (173, [some (.ref 0), some (.int L1), some (.int L2), some (.int L3), some (.int (nI (a + 1))), some (.int L5), some (.int L6), some (.int L7), some (.int (dgA f n0 (a + 1) 55))], [], h, 198, sl) = some R := hh
    rw [xg_no rfl rfl rfl rfl hh]
    unfold xgA
    simp only [cond_false]
  | true =>
    rw [hi] at hh
    have hh : pm_run PT n fr lo 131 (178, [some (.ref 0), some (.int L1), some (.int L2), some (.int L3), some (.int (nI (a + 1))), some (.int L5), some (.int L6), some (.int L7), some (.int (dgA f n0 (a + 1) 55))], [], h, 198, sl) = some R := hh
    obtain ⟨n, L', S', h', hh, hl, hf⟩ := blk_run sQ_ok xg_blk n fr lo _ R (Nat.le_of_ble_eq_true rfl) (Nat.le_of_ble_eq_true rfl) hh
    dsimp only at hl hf hh
    have g4 := hl 4 (.int (nI (a + 1))) rfl rfl rfl
    have hh : pm_run PT n fr lo 131 (215, L', S', h', 198, sl) = some R := hh
    obtain ⟨n, hh⟩ := rn_il rfl g4 rfl hh
    obtain ⟨n, hh⟩ := rn_i rfl rfl rfl rfl hh
    obtain ⟨n, hh⟩ := rn_i rfl rfl rfl rfl hh
    have e := (rn_ret rfl (Or.inl rfl) hh).2
    rw [e]
    have e2 : nI (a + 1) + Int32.ofInt 1 = nI (a + 2) := (Int32.ofNat_add (a + 1) 1).symm
    exact congrArg (fun q => some (Value.int q)) e2
end GXR
end MG95zgx3
section MG95zgx4
/-! the class's readGift, whole -/
section GXS
variable {n fr lo sl n0 cc p t a : Nat} {h : pm_H} {R : pm_Rs} {f : Nat → Int32} {L1 L2 L3 L5 L6 : Int32}
theorem xg_119 (hn : n0 ≤ 80) (hc : cc ≤ 6) (ha : a < 800) (x : pX h n0 cc f) (hh : pm_run PT n fr lo 131 (119, [some (.ref 0), some (.int L1), some (.int L2), some (.int L3), some (.int (nI a)), some (.int (L5)), some (.int (L6)), none, none], [], h, 198, sl) = some R) : R.1 = some (.int (xgA (rgE f (min n0 55) cc (a + 1)))) := by
  obtain ⟨⟨fs, a1, a2, a3⟩, -⟩ := id x
  obtain ⟨n, hh⟩ := rn_i rfl rfl rfl rfl hh
  obtain ⟨n, hh⟩ := rn_i rfl rfl rfl rfl hh
  obtain ⟨n, hh⟩ := rn_gfo (g := 0) rfl rfl (by decide) a1 a2 hh
  obtain ⟨n, hh⟩ := rn_i rfl rfl rfl rfl hh
  obtain ⟨n, hh⟩ := rn_i rfl rfl rfl rfl hh
  have e1 : nI a + Int32.ofInt 1 = nI (a + 1) := (Int32.ofNat_add a 1).symm
  have hh : pm_run PT n fr lo 131 (130, [some (.ref 0), some (.int L1), some (.int L2), some (.int L3), some (.int (nI a + Int32.ofInt 1)), some (.int (L5)), some (.int (L6)), none, none], [.int (nI 55), .int (nI a + Int32.ofInt 1), .ref 1], h, 198, sl) = some R := hh
  rw [e1] at hh
  obtain ⟨n, fr', lo', r1, hr1, hh⟩ := rn_call (w := 0) (t := 81) rfl rfl hh
  have er := dgA_run (l := 55) hn (by decide) (by omega) x hr1
  subst er
  have hh : pm_run PT n fr lo 131 (133, [some (.ref 0), some (.int L1), some (.int L2), some (.int L3), some (.int (nI (a + 1))), some (.int (L5)), some (.int (L6)), none, none], [.int (dgA f n0 (a + 1) 55)], h, 198, sl) = some R := hh
  obtain ⟨n, hh⟩ := rn_i rfl rfl rfl rfl hh
  obtain ⟨n, hh⟩ := rn_i rfl rfl rfl rfl hh
  obtain ⟨n, hh⟩ := rn_if (cc := .ge) (off := 8) (t := 145) rfl rfl hh
  unfold rgE
  cases hd : dg f (a + 1) (min n0 55) with
  | false =>
    rw [dgA_no hd, show pm_cmp .ge (Int32.ofInt (-1)) 0 = false by decide] at hh
    have hh : pm_run PT n fr lo 131 (140, [some (.ref 0), some (.int L1), some (.int L2), some (.int L3), some (.int (nI (a + 1))), some (.int (L5)), some (.int (L6)), some (.int (Int32.ofInt (-1))), none], [], h, 198, sl) = some R := hh
    rw [xg_no rfl rfl rfl rfl hh]
    unfold xgA
    simp only [cond_false]
  | true =>
    obtain ⟨v1, v2⟩ := dg_val hd
    rw [dgA_yes hd, ge0_val v1] at hh
    simp only [cond_true]
    have hh : pm_run PT n fr lo 131 (145, [some (.ref 0), some (.int L1), some (.int L2), some (.int L3), some (.int (nI (a + 1))), some (.int (L5)), some (.int (L6)), some (.int (f (a + 1) - 48)), none], [], h, 198, sl) = some R := hh
    exact xg_145 hn hc (by omega) x hh
theorem xg_95 (hn : n0 ≤ 80) (hc : cc ≤ 6) (ha : a < 700) (x : pX h n0 cc f) (hh : pm_run PT n fr lo 131 (95, [some (.ref 0), some (.int L1), some (.int L2), some (.int L3), some (.int (nI a)), some (.int (L5)), some (.int (L6)), none, none], [], h, 198, sl) = some R) : R.1 = some (.int (xgA (rgC f (min n0 55) cc (a + 1)))) := by
  obtain ⟨⟨fs, a1, a2, a3⟩, -⟩ := id x
  obtain ⟨n, hh⟩ := rn_i rfl rfl rfl rfl hh
  obtain ⟨n, hh⟩ := rn_i rfl rfl rfl rfl hh
  obtain ⟨n, hh⟩ := rn_gfo (g := 0) rfl rfl (by decide) a1 a2 hh
  obtain ⟨n, hh⟩ := rn_i rfl rfl rfl rfl hh
  obtain ⟨n, hh⟩ := rn_i rfl rfl rfl rfl hh
  have e1 : nI a + Int32.ofInt 1 = nI (a + 1) := (Int32.ofNat_add a 1).symm
  have hh : pm_run PT n fr lo 131 (106, [some (.ref 0), some (.int L1), some (.int L2), some (.int L3), some (.int (nI a + Int32.ofInt 1)), some (.int (L5)), some (.int (L6)), none, none], [.int (nI 55), .int (nI a + Int32.ofInt 1), .ref 1], h, 198, sl) = some R := hh
  rw [e1] at hh
  obtain ⟨n, fr', lo', r1, hr1, hh⟩ := rn_call (w := 0) (t := 80) rfl rfl hh
  have er := sgA_run (l := 55) hn (by decide) (by omega) x hr1
  subst er
  have hh : pm_run PT n fr lo 131 (109, [some (.ref 0), some (.int L1), some (.int L2), some (.int L3), some (.int (nI (a + 1))), some (.int (L5)), some (.int (L6)), none, none], [.int (sgA f n0 (a + 1) 55)], h, 198, sl) = some R := hh
  obtain ⟨n, hh⟩ := rn_i rfl rfl rfl rfl hh
  obtain ⟨n, hh⟩ := rn_icmp (cc := .eq) (off := 8) (t := 119) rfl rfl hh
  have hh : pm_run PT n fr lo 131 (cond (pm_cmp .eq (sgA f n0 (a + 1) 55) 44) 119 114, [some (.ref 0), some (.int L1), some (.int L2), some (.int L3), some (.int (nI (a + 1))), some (.int (L5)), some (.int (L6)), none, none], [], h, 198, sl) = some R := hh
  have es : pm_cmp .eq (sgA f n0 (a + 1) 55) 44 = decide (a + 1 < min n0 55 ∧ f (a + 1) = 44) := by
    unfold sgA
    by_cases q : a + 1 < min n0 55
    · rw [decide_eq_true q]
      show decide (f (a + 1) = 44) = _
      rw [Bool.eq_iff_iff, decide_eq_true_iff, decide_eq_true_iff]
      exact ⟨fun e => ⟨q, e⟩, fun e => e.2⟩
    · rw [decide_eq_false q, decide_eq_false (fun e => q e.1)]
      show pm_cmp .eq (Int32.ofInt (-1)) 44 = false
      decide
  rw [es] at hh
  unfold rgC
  cases v : decide (a + 1 < min n0 55 ∧ f (a + 1) = 44) with
  | false =>
    rw [v] at hh
    rw [xg_no rfl rfl rfl rfl hh]
    unfold xgA
    simp only [cond_false]
  | true =>
    rw [v] at hh
    simp only [cond_true]
    exact xg_119 hn hc (by omega) x hh
theorem xg_85 {v : Int32} (hn : n0 ≤ 80) (hc : cc ≤ 6) (ha : a < 700) (x : pX h n0 cc f) (hh : pm_run PT n fr lo 131 (85, [some (.ref 0), some (.int L1), some (.int L2), some (.int L3), some (.int (nI a)), some (.int (v)), some (.int (L6)), none, none], [], h, 198, sl) = some R) : R.1 = some (.int (xgA (rgW f (min n0 55) cc (a + 1, v)))) := by
  obtain ⟨n, hh⟩ := rn_i rfl rfl rfl rfl hh
  obtain ⟨n, hh⟩ := rn_if (cc := .ne) (off := 8) (t := 95) rfl rfl hh
  unfold rgW
  dsimp only
  by_cases z : v = 0
  · rw [show pm_cmp .ne v 0 = false from decide_eq_false (fun q => q z)] at hh
    rw [decide_eq_true z]
    simp only [cond_true]
    have hh : pm_run PT n fr lo 131 (90, [some (.ref 0), some (.int L1), some (.int L2), some (.int L3), some (.int (nI a)), some (.int (v)), some (.int (L6)), none, none], [], h, 198, sl) = some R := hh
    rw [xg_no rfl rfl rfl rfl hh]
    unfold xgA
    simp only [cond_false, Nat.add_sub_cancel]
  · rw [show pm_cmp .ne v 0 = true from decide_eq_true z] at hh
    rw [decide_eq_false z]
    simp only [cond_false]
    exact xg_95 hn hc ha x hh
theorem xg_24 (hn : n0 ≤ 80) (hc : cc ≤ 6) (hp : p < 600) (x : pX h n0 cc f) (hh : pm_run PT n fr lo 131 (24, [some (.ref 0), some (.int L1), some (.int (nI p)), some (.int L3), none, none, none, none, none], [], h, 198, sl) = some R) : R.1 = some (.int (xgA (cond (dg f (p + 1) (min n0 55)) (rgW f (min n0 55) cc (nbr f (min n0 55) 2 (p + 1) 0)) (false, p + 1)))) := by
  obtain ⟨⟨fs, a1, a2, a3⟩, -⟩ := id x
  obtain ⟨n, hh⟩ := rn_i rfl rfl rfl rfl hh
  obtain ⟨n, hh⟩ := rn_i rfl rfl rfl rfl hh
  obtain ⟨n, hh⟩ := rn_i rfl rfl rfl rfl hh
  obtain ⟨n, hh⟩ := rn_i rfl rfl rfl rfl hh
  obtain ⟨n, hh⟩ := rn_i rfl rfl rfl rfl hh
  obtain ⟨n, hh⟩ := rn_gfo (g := 0) rfl rfl (by decide) a1 a2 hh
  obtain ⟨n, hh⟩ := rn_i rfl rfl rfl rfl hh
  obtain ⟨n, hh⟩ := rn_i rfl rfl rfl rfl hh
  have e1 : nI p + Int32.ofInt 1 = nI (p + 1) := (Int32.ofNat_add p 1).symm
  have hh : pm_run PT n fr lo 131 (37, [some (.ref 0), some (.int L1), some (.int (nI p)), some (.int L3), some (.int (nI p + Int32.ofInt 1)), none, none, none, none], [.int (nI 55), .int (nI p + Int32.ofInt 1), .ref 1], h, 198, sl) = some R := hh
  rw [e1] at hh
  obtain ⟨n, fr', lo', r1, hr1, hh⟩ := rn_call (w := 0) (t := 81) rfl rfl hh
  have er := dgA_run (l := 55) hn (by decide) (by omega) x hr1
  subst er
  have hh : pm_run PT n fr lo 131 (40, [some (.ref 0), some (.int L1), some (.int (nI p)), some (.int L3), some (.int (nI (p + 1))), none, none, none, none], [.int (dgA f n0 (p + 1) 55)], h, 198, sl) = some R := hh
  obtain ⟨n, hh⟩ := rn_i rfl rfl rfl rfl hh
  obtain ⟨n, hh⟩ := rn_i rfl rfl rfl rfl hh
  obtain ⟨n, hh⟩ := rn_if (cc := .ge) (off := 8) (t := 52) rfl rfl hh
  cases hd : dg f (p + 1) (min n0 55) with
  | false =>
    rw [dgA_no hd, show pm_cmp .ge (Int32.ofInt (-1)) 0 = false by decide] at hh
    have hh : pm_run PT n fr lo 131 (47, [some (.ref 0), some (.int L1), some (.int (nI p)), some (.int L3), some (.int (nI (p + 1))), some (.int (Int32.ofInt (-1))), none, none, none], [], h, 198, sl) = some R := hh
    rw [xg_no rfl rfl rfl rfl hh]
    unfold xgA
    simp only [cond_false]
  | true =>
    obtain ⟨v1, v2⟩ := dg_val hd
    rw [dgA_yes hd, ge0_val v1] at hh
    simp only [cond_true]
    have en : nbr f (min n0 55) 2 (p + 1) 0 = nbr f (min n0 55) 1 (p + 2) (f (p + 1) - 48) := by
      rw [show nbr f (min n0 55) 2 (p + 1) 0 = nbr f (min n0 55) (1 + 1) (p + 1) 0 from rfl, nbr_gt _ hd]
      have ez : (10 * 0 + f (p + 1) - 48 : Int32) = f (p + 1) - 48 := by simp
      rw [ez]
    rw [en]
    have hh : pm_run PT n fr lo 131 (52, [some (.ref 0), some (.int L1), some (.int (nI p)), some (.int L3), some (.int (nI (p + 1))), some (.int (f (p + 1) - 48)), none, none, none], [], h, 198, sl) = some R := hh
    obtain ⟨n, hh⟩ := rn_i rfl rfl rfl rfl hh
    obtain ⟨n, hh⟩ := rn_gfo (g := 0) rfl rfl (by decide) a1 a2 hh
    obtain ⟨n, hh⟩ := rn_i rfl rfl rfl rfl hh
    obtain ⟨n, hh⟩ := rn_i rfl rfl rfl rfl hh
    obtain ⟨n, hh⟩ := rn_i rfl rfl rfl rfl hh
    obtain ⟨n, hh⟩ := rn_i rfl rfl rfl rfl hh
    have e2 : nI (p + 1) + Int32.ofInt 1 = nI (p + 2) := (Int32.ofNat_add (p + 1) 1).symm
    have hh : pm_run PT n fr lo 131 (62, [some (.ref 0), some (.int L1), some (.int (nI p)), some (.int L3), some (.int (nI (p + 1))), some (.int (f (p + 1) - 48)), none, none, none], [.int (nI 55), .int (nI (p + 1) + Int32.ofInt 1), .ref 1], h, 198, sl) = some R := hh
    rw [e2] at hh
    obtain ⟨n, fr', lo', r1, hr1, hh⟩ := rn_call (w := 0) (t := 81) rfl rfl hh
    have er := dgA_run (l := 55) hn (by decide) (by omega) x hr1
    subst er
    have hh : pm_run PT n fr lo 131 (65, [some (.ref 0), some (.int L1), some (.int (nI p)), some (.int L3), some (.int (nI (p + 1))), some (.int (f (p + 1) - 48)), none, none, none], [.int (dgA f n0 (p + 2) 55)], h, 198, sl) = some R := hh
    obtain ⟨n, hh⟩ := rn_i rfl rfl rfl rfl hh
    obtain ⟨n, hh⟩ := rn_i rfl rfl rfl rfl hh
    obtain ⟨n, hh⟩ := rn_if (cc := .lt) (off := 16) (t := 85) rfl rfl hh
    show R.1 = some (.int (xgA (rgW f (min n0 55) cc (nbr f (min n0 55) (0 + 1) (p + 2) (f (p + 1) - 48)))))
    cases he : dg f (p + 2) (min n0 55) with
    | false =>
      rw [dgA_no he, show pm_cmp .lt (Int32.ofInt (-1)) 0 = true by decide] at hh
      have eb : nbr f (min n0 55) (0 + 1) (p + 2) (f (p + 1) - 48) = (p + 1 + 1, f (p + 1) - 48) := by
        unfold nbr
        rw [he]
        rfl
      rw [eb]
      exact xg_85 hn hc (by omega) x hh
    | true =>
      obtain ⟨w1, w2⟩ := dg_val he
      rw [dgA_yes he, lt0_val w1] at hh
      have eb : nbr f (min n0 55) (0 + 1) (p + 2) (f (p + 1) - 48) = (p + 2 + 1, nI 10 * (f (p + 1) - 48) + (f (p + 2) - 48)) := by
        rw [nbr_gt _ he]
        show (p + 2 + 1, 10 * (f (p + 1) - 48) + f (p + 2) - 48) = _
        rw [Int32.sub_eq_add_neg (10 * (f (p + 1) - 48) + f (p + 2)), Int32.sub_eq_add_neg (f (p + 2)), Int32.add_assoc]
        rfl
      rw [eb]
      obtain ⟨n, hh⟩ := rn_i rfl rfl rfl rfl hh
      obtain ⟨n, hh⟩ := rn_i rfl rfl rfl rfl hh
      obtain ⟨n, hh⟩ := rn_i rfl rfl rfl rfl hh
      obtain ⟨n, hh⟩ := rn_i rfl rfl rfl rfl hh
      obtain ⟨n, hh⟩ := rn_i rfl rfl rfl rfl hh
      obtain ⟨n, hh⟩ := rn_i rfl rfl rfl rfl hh
      obtain ⟨n, hh⟩ := rn_i rfl rfl rfl rfl hh
      have e3 : nI (p + 1) + Int32.ofInt 1 = nI (p + 2) := (Int32.ofNat_add (p + 1) 1).symm
      have hh : pm_run PT n fr lo 131 (85, [some (.ref 0), some (.int L1), some (.int (nI p)), some (.int L3), some (.int (nI (p + 1) + Int32.ofInt 1)), some (.int (nI 10 * (f (p + 1) - 48) + (f (p + 2) - 48))), some (.int (f (p + 2) - 48)), none, none], [], h, 198, sl) = some R := hh
      rw [e3] at hh
      exact xg_85 hn hc (by omega) x hh
theorem xg_run {gi : Int32} (hn : n0 ≤ 80) (hc : cc ≤ 6) (hp : p < 600) (x : pX h n0 cc f) (hh : pm_run PT n fr lo 131 (0, pm_l0 [.ref 0, .int gi, .int (nI p)] 9, [], h, 198, sl) = some R) : R.1 = some (.int (xgA (rgL f (min n0 55) cc p))) := by
  obtain ⟨⟨fs, a1, a2, a3⟩, -⟩ := id x
  obtain ⟨n, hh⟩ := rn_i rfl rfl rfl rfl hh
  obtain ⟨n, hh⟩ := rn_gfo (g := 0) rfl rfl (by decide) a1 a2 hh
  obtain ⟨n, hh⟩ := rn_i rfl rfl rfl rfl hh
  obtain ⟨n, hh⟩ := rn_i rfl rfl rfl rfl hh
  obtain ⟨n, fr', lo', r1, hr1, hh⟩ := rn_call (w := 0) (t := 81) rfl rfl hh
  have er := dgA_run (l := 55) hn (by decide) (by omega) x hr1
  subst er
  have hh : pm_run PT n fr lo 131 (10, [some (.ref 0), some (.int gi), some (.int (nI p)), none, none, none, none, none, none], [.int (dgA f n0 p 55)], h, 198, sl) = some R := hh
  have no : ∀ (n : Nat) (y : Int32), pm_run PT n fr lo 131 (20, [some (.ref 0), some (.int gi), some (.int (nI p)), some (.int y), none, none, none, none, none], [], h, 198, sl) = some R → R.1 = some (.int (xgA (false, p))) := by
    intro n y hh
    obtain ⟨n, hh⟩ := rn_i rfl rfl rfl rfl hh
    obtain ⟨n, hh⟩ := rn_i rfl rfl rfl rfl hh
    obtain ⟨n, hh⟩ := rn_i rfl rfl rfl rfl hh
    have e := (rn_ret rfl (Or.inl rfl) hh).2
    rw [e]
    unfold xgA
    simp only [cond_false]
  obtain ⟨n, hh⟩ := rn_i rfl rfl rfl rfl hh
  obtain ⟨n, hh⟩ := rn_i rfl rfl rfl rfl hh
  obtain ⟨n, hh⟩ := rn_if (cc := .lt) (off := 8) (t := 20) rfl rfl hh
  unfold rgL
  rw [dgi_rng (c := 5) (by decide) (by decide)]
  cases hd : dg f p (min n0 55) with
  | false =>
    rw [dgA_no hd, show pm_cmp .lt (Int32.ofInt (-1)) 0 = true by decide] at hh
    simp only [Bool.false_and, cond_false]
    exact no n _ hh
  | true =>
    obtain ⟨v1, v2⟩ := dg_val hd
    rw [dgA_yes hd, lt0_val v1] at hh
    have hh : pm_run PT n fr lo 131 (15, [some (.ref 0), some (.int gi), some (.int (nI p)), some (.int (f p - 48)), none, none, none, none, none], [], h, 198, sl) = some R := hh
    obtain ⟨n, hh⟩ := rn_i rfl rfl rfl rfl hh
    obtain ⟨n, hh⟩ := rn_i rfl rfl rfl rfl hh
    obtain ⟨n, hh⟩ := rn_icmp (cc := .lt) (off := 7) (t := 24) rfl rfl hh
    have el : pm_cmp .lt (f p - 48) (Int32.ofInt 5) = decide ((f p - 48).toInt < ((5 : Nat) : Int)) := by
      simp only [pm_cmp]
      rw [Bool.eq_iff_iff, decide_eq_true_iff, decide_eq_true_iff, Int32.lt_iff_toInt_lt, show (Int32.ofInt 5).toInt = ((5 : Nat) : Int) by decide]
    rw [el] at hh
    rw [Bool.true_and]
    cases y : decide ((f p - 48).toInt < ((5 : Nat) : Int)) with
    | false =>
      rw [y] at hh
      simp only [cond_false]
      exact no n _ hh
    | true =>
      rw [y] at hh
      simp only [cond_true]
      exact xg_24 hn hc hp x hh
end GXS
end MG95zgx4
end MH95xdx5
section MH95xdx6
/-! the class's gifts, and both alike -/
section GXT
variable {n fr lo sl n0 cc gc p t N : Nat} {h h' : pm_H} {R : pm_Rs} {f : Nat → Int32}
def sG (ci f : Nat) : Bool := (Nat.beq ci 3 && Nat.beq f 1) || (Nat.beq ci 11 && Nat.beq f 4)
def sGX : List Nat := [0, 6, 15, 22, 45, 52, 57, 72, 78, 82, 85, 89, 91, 92, 93, 128, 161, 192]
def sGK : Nat → Bool := sf_X sGX
theorem sG_all : ((List.range 271).filter (fun k => !(sGX.any (fun x => Nat.beq x k)))).all (sf_b sG sGK) = true := gz_lift (X := sGX) (g := gz_sg sG sGK) (by decide +kernel) (fun k q h => gz_sf k q h) (by decide +kernel)
theorem sG_ok : sf_ok sG sGK := sf_of sf_X_in sG_all
def rG (h : pm_H) (v : Value) : Prop := ∃ rs, h 5 = .inr (3, rs) ∧ rs[1]? = some v
theorem rG_fm {v : Value} (q : fm (sfF sG) h h') (x : rG h v) : rG h' v := by
  obtain ⟨rs, b1, b2⟩ := x
  obtain ⟨rs', g1, -, g2⟩ := q.2 5 3 rs b1
  exact ⟨rs', g1, (g2 1 rfl).trans b2⟩
theorem xgs_m1 {x2 x3 : Option Value} (hh : pm_run PT n fr lo 130 (85, [some (.ref 0), some (.int (nI p)), x2, x3], [], h, 198, sl) = some R) : R.1 = some (.int (Int32.ofInt (-1) - nI p)) := by
  obtain ⟨n, hh⟩ := rn_i rfl rfl rfl rfl hh
  obtain ⟨n, hh⟩ := rn_i rfl rfl rfl rfl hh
  obtain ⟨n, hh⟩ := rn_i rfl rfl rfl rfl hh
  have e := (rn_ret rfl (Or.inl rfl) hh).2
  rw [e]
theorem xgs_loop (hn : n0 ≤ 80) (hc : cc ≤ 6) : ∀ (k ln p n : Nat) (h : pm_H) (x3 : Option Value), gc + ln + k = 9 → 0 < k → p ≤ min n0 55 → pX h n0 cc f → rG h (.int (nI gc)) → pm_run PT n fr lo 130 (16, [some (.ref 0), some (.int (nI p)), some (.int (nI ln)), x3], [], h, 198, sl) = some R → R.1 = some (.int (xA n0 (sgL f (min n0 55) cc gc k ln p))) := by
  intro k
  induction k with
  | zero => intro ln p n h x3 hk h0; exact absurd h0 (by omega)
  | succ k ih =>
    intro ln p n h x3 hk h0 hp x xg hh
    obtain ⟨⟨fs, a1, a2, a3⟩, ⟨gs, g1, g2, g3⟩, c1, -⟩ := id x
    obtain ⟨rs, d1, d2⟩ := id xg
    unfold sgL
    obtain ⟨n, hh⟩ := rn_i rfl rfl rfl rfl hh
    obtain ⟨n, hh⟩ := rn_i rfl rfl rfl rfl hh
    obtain ⟨n, hh⟩ := rn_icmp (cc := .ge) (off := 79) (t := 98) rfl rfl hh
    have ec : pm_cmp .ge (nI ln) (Int8.ofInt 8).toInt32 = decide (8 ≤ ln) := hI_ge (a := ln) (b := 8) (by omega) (by omega)
    rw [ec] at hh
    by_cases z6 : 8 ≤ ln
    · rw [decide_eq_true z6] at hh
      rw [decide_eq_true (show gc + ln = 8 by omega)]
      obtain ⟨n, hh⟩ := rn_i rfl rfl rfl rfl hh
      obtain ⟨n, hh⟩ := rn_i rfl rfl rfl rfl hh
      obtain ⟨n, hh⟩ := rn_i rfl rfl rfl rfl hh
      have e := (rn_ret rfl (Or.inl rfl) hh).2
      rw [e]
      unfold xA
      simp only [Bool.false_and, cond_false, cond_true]
    · rw [decide_eq_false z6] at hh
      obtain ⟨n, hh⟩ := rn_i rfl rfl rfl rfl hh
      obtain ⟨n, hh⟩ := rn_gfo (g := 2) rfl rfl (by decide) a1 a3 hh
      obtain ⟨n, hh⟩ := rn_gfo (g := 1) rfl rfl (by decide) d1 d2 hh
      obtain ⟨n, hh⟩ := rn_i rfl rfl rfl rfl hh
      obtain ⟨n, hh⟩ := rn_i rfl rfl rfl rfl hh
      obtain ⟨n, hh⟩ := rn_i rfl rfl rfl rfl hh
      obtain ⟨n, hh⟩ := rn_i rfl rfl rfl rfl hh
      obtain ⟨n, hh⟩ := rn_i rfl rfl rfl rfl hh
      obtain ⟨n, hh⟩ := rn_icmp (cc := .lt) (off := 7) (t := 42) rfl rfl hh
      have ea : nI gc + nI ln = nI (gc + ln) := nI_add gc ln
      have hh : pm_run PT n fr lo 130 (cond (pm_cmp .lt (nI gc + nI ln) (nI 8)) 42 38, [some (.ref 0), some (.int (nI p)), some (.int (nI ln)), some (.int (nI gc + nI ln))], [], h, 198, sl) = some R := hh
      rw [ea, hI_lt (by omega) (by omega)] at hh
      by_cases z : gc + ln = 8
      · rw [decide_eq_false (by omega)] at hh
        rw [decide_eq_true z]
        obtain ⟨n, hh⟩ := rn_i rfl rfl rfl rfl hh
        obtain ⟨n, hh⟩ := rn_i rfl rfl rfl rfl hh
        obtain ⟨n, hh⟩ := rn_i rfl rfl rfl rfl hh
        have e := (rn_ret rfl (Or.inl rfl) hh).2
        rw [e]
        unfold xA
        simp only [Bool.false_and, cond_false, cond_true]
      · rw [decide_eq_true (by omega)] at hh
        rw [decide_eq_false z]
        have hh : pm_run PT n fr lo 130 (42, [some (.ref 0), some (.int (nI p)), some (.int (nI ln)), some (.int (nI (gc + ln)))], [], h, 198, sl) = some R := hh
        obtain ⟨n, hh⟩ := rn_i rfl rfl rfl rfl hh
        obtain ⟨n, hh⟩ := rn_i rfl rfl rfl rfl hh
        obtain ⟨n, hh⟩ := rn_i rfl rfl rfl rfl hh
        obtain ⟨n, fr', lo', r1, hr1, hh⟩ := rn_call (w := 0) (t := 131) rfl rfl hh
        have hv := xg_run hn hc (by omega) x hr1
        have hf := sf_run sQ_ok _ _ _ 131 _ r1 rfl hr1
        have hfk := ak_run (by decide) sQ_ak _ _ _ 131 _ r1 rfl hr1
        have hfg := sf_run sG_ok _ _ _ 131 _ r1 rfl hr1
        have hz := sz_run sQ_ok _ _ _ 131 _ r1 rfl hr1
        obtain ⟨rv, h1, s1⟩ := r1
        dsimp only at hv hf hfk hfg hz
        subst hz
        subst hv
        have x' := pX_fm hf hfk x
        have xg' := rG_fm hfg xg
        have hle := rgL_le (tp := f) (cc := cc) hp
        simp only [cond_false]
        have hh : pm_run PT n fr lo 130 (48, [some (.ref 0), some (.int (nI p)), some (.int (nI ln)), some (.int (nI (gc + ln)))], [.int (xgA (rgL f (min n0 55) cc p))], h1, 198, sl) = some R := hh
        generalize rgL f (min n0 55) cc p = w at *
        have y1 := neg_ge (a := w.2) (by omega)
        unfold xgA at hh
        cases y : w.1 with
        | false =>
          rw [y, cond_false] at hh
          simp only [cond_false]
          unfold xA
          simp only [Bool.false_and, cond_false]
          generalize Int32.ofInt (-1) - nI w.2 = q at *
          obtain ⟨n, hh⟩ := rn_i rfl rfl rfl rfl hh
          obtain ⟨n, hh⟩ := rn_i rfl rfl rfl rfl hh
          obtain ⟨n, hh⟩ := rn_if (cc := .ge) (off := 5) (t := 55) rfl rfl hh
          rw [y1] at hh
          obtain ⟨n, hh⟩ := rn_i rfl rfl rfl rfl hh
          have e := (rn_ret rfl (Or.inl rfl) hh).2
          rw [e]
        | true =>
          rw [y, cond_true] at hh
          simp only [cond_true]
          generalize w.2 = b at *
          obtain ⟨⟨fs, a1, a2, a3⟩, ⟨gs, g1, g2, g3⟩, -⟩ := id x'
          obtain ⟨n, hh⟩ := rn_i rfl rfl rfl rfl hh
          obtain ⟨n, hh⟩ := rn_i rfl rfl rfl rfl hh
          obtain ⟨n, hh⟩ := rn_if (cc := .ge) (off := 5) (t := 55) rfl rfl hh
          have eg : pm_cmp .ge (nI b) 0 = true := by
            have := hI_ge (a := b) (b := 0) (by omega) (by omega)
            rw [decide_eq_true (Nat.zero_le b)] at this
            exact this
          rw [eg] at hh
          obtain ⟨n, hh⟩ := rn_i rfl rfl rfl rfl hh
          obtain ⟨n, hh⟩ := rn_i rfl rfl rfl rfl hh
          obtain ⟨n, hh⟩ := rn_gfo (g := 0) rfl rfl (by decide) a1 a2 hh
          obtain ⟨n, hh⟩ := rn_gfo (g := 1) rfl rfl (by decide) g1 g3 hh
          obtain ⟨n, hh⟩ := rn_icmp (cc := .ne) (off := 7) (t := 70) rfl rfl hh
          rw [hI_ne (by omega) (by omega)] at hh
          by_cases u : b = n0
          · rw [decide_eq_false (fun q => q u)] at hh
            rw [decide_eq_false (by omega)]
            obtain ⟨n, hh⟩ := rn_i rfl rfl rfl rfl hh
            obtain ⟨n, hh⟩ := rn_i rfl rfl rfl rfl hh
            obtain ⟨n, hh⟩ := rn_i rfl rfl rfl rfl hh
            have e1 : nI ln + Int32.ofInt 1 = nI (ln + 1) := (Int32.ofNat_add ln 1).symm
            have e := (rn_ret rfl (Or.inl rfl) hh).2
            rw [e]
            unfold xA
            simp only [cond_false]
            rw [decide_eq_true u]
            simp only [Bool.and_self, cond_true]
            exact congrArg (fun q => some (Value.int q)) e1
          · rw [decide_eq_true u] at hh
            have hh : pm_run PT n fr lo 130 (70, [some (.ref 0), some (.int (nI b)), some (.int (nI ln)), some (.int (nI (gc + ln)))], [], h1, 198, sl) = some R := hh
            obtain ⟨n, hh⟩ := rn_i rfl rfl rfl rfl hh
            obtain ⟨n, hh⟩ := rn_gfo (g := 0) rfl rfl (by decide) a1 a2 hh
            obtain ⟨n, hh⟩ := rn_i rfl rfl rfl rfl hh
            obtain ⟨n, hh⟩ := rn_i rfl rfl rfl rfl hh
            obtain ⟨n, fr', lo', r1, hr1, hh⟩ := rn_call (w := 0) (t := 80) rfl rfl hh
            have er := sgA_run (l := 55) hn (by decide) (by omega) x' hr1
            subst er
            have hh : pm_run PT n fr lo 130 (80, [some (.ref 0), some (.int (nI b)), some (.int (nI ln)), some (.int (nI (gc + ln)))], [.int (sgA f n0 b 55)], h1, 198, sl) = some R := hh
            obtain ⟨n, hh⟩ := rn_i rfl rfl rfl rfl hh
            obtain ⟨n, hh⟩ := rn_icmp (cc := .eq) (off := 7) (t := 89) rfl rfl hh
            have hh : pm_run PT n fr lo 130 (cond (pm_cmp .eq (sgA f n0 b 55) 59) 89 85, [some (.ref 0), some (.int (nI b)), some (.int (nI ln)), some (.int (nI (gc + ln)))], [], h1, 198, sl) = some R := hh
            have es : pm_cmp .eq (sgA f n0 b 55) 59 = decide (b < min n0 55 ∧ f b = 59) := by
              unfold sgA
              by_cases q : b < min n0 55
              · rw [decide_eq_true q]
                show decide (f b = 59) = _
                rw [Bool.eq_iff_iff, decide_eq_true_iff, decide_eq_true_iff]
                exact ⟨fun e => ⟨q, e⟩, fun e => e.2⟩
              · rw [decide_eq_false q, decide_eq_false (fun e => q e.1)]
                show pm_cmp .eq (Int32.ofInt (-1)) 59 = false
                decide
            rw [es] at hh
            cases v : decide (b < min n0 55 ∧ f b = 59) with
            | false =>
              rw [v] at hh
              rw [xgs_m1 hh]
              simp only [cond_false]
              unfold xA
              dsimp only
              rw [decide_eq_false u]
              simp only [Bool.and_false, cond_false]
            | true =>
              rw [v] at hh
              simp only [cond_true]
              have vv := of_decide_eq_true v
              obtain ⟨n, hh⟩ := rn_i rfl rfl rfl rfl hh
              obtain ⟨n, hh⟩ := rn_i rfl rfl rfl rfl hh
              obtain ⟨n, hh⟩ := rn_i rfl rfl rfl rfl hh
              have e1 : nI b + Int32.ofInt 1 = nI (b + 1) := (Int32.ofNat_add b 1).symm
              have e2 : nI ln + Int32.ofInt 1 = nI (ln + 1) := (Int32.ofNat_add ln 1).symm
              have hh : pm_run PT n fr lo 130 (16, [some (.ref 0), some (.int (nI b + Int32.ofInt 1)), some (.int (nI ln + Int32.ofInt 1)), some (.int (nI (gc + ln)))], [], h1, 198, sl) = some R := hh
              rw [e1, e2] at hh
              exact ih (ln + 1) (b + 1) n h1 _ (by omega) (by omega) (by omega) x' xg' hh
end GXT
end MH95xdx6
section MH95xdx7
section MG95zmx0
/-! gifts of both sides, alike -/
section GXU
variable {n fr lo sl n0 cc gc N : Nat} {h h' : pm_H} {R : pm_Rs} {f : Nat → Int32}
def xgR (n0 cc gc : Nat) (f : Nat → Int32) : Int32 := if n0 = 0 then Int32.ofInt 0 else xA n0 (sgL f (min n0 55) cc gc (9 - gc) 0 0)
theorem xgs_0 (hh : pm_run PT n fr lo 130 (10, [some (.ref 0), none, none, none], [], h, 198, sl) = some R) : R.1 = some (.int (Int32.ofInt 0)) := by
  obtain ⟨n, hh⟩ := rn_i rfl rfl rfl rfl hh
  rw [(rn_ret rfl (Or.inl rfl) hh).2]
theorem xgs_1 (hn : n0 ≤ 80) (hc : cc ≤ 6) (hg : gc ≤ 8) (x : pX h n0 cc f) (xg : rG h (.int (nI gc))) (hh : pm_run PT n fr lo 130 (12, [some (.ref 0), none, none, none], [], h, 198, sl) = some R) : R.1 = some (.int (xA n0 (sgL f (min n0 55) cc gc (9 - gc) 0 0))) := by
  obtain ⟨n, hh⟩ := rn_i rfl rfl rfl rfl hh
  obtain ⟨n, hh⟩ := rn_i rfl rfl rfl rfl hh
  obtain ⟨n, hh⟩ := rn_i rfl rfl rfl rfl hh
  obtain ⟨n, hh⟩ := rn_i rfl rfl rfl rfl hh
  have hh : pm_run PT n fr lo 130 (16, [some (.ref 0), some (.int (nI 0)), some (.int (nI 0)), none], [], h, 198, sl) = some R := hh
  exact xgs_loop hn hc (9 - gc) 0 0 n h none (by omega) (by omega) (Nat.zero_le _) x xg hh
theorem xgs_run (hn : n0 ≤ 80) (hc : cc ≤ 6) (hg : gc ≤ 8) (x : pX h n0 cc f) (xg : rG h (.int (nI gc))) (hh : pm_run PT n fr lo 130 (0, pm_l0 [.ref 0] 4, [], h, 198, sl) = some R) : R.1 = some (.int (xgR n0 cc gc f)) := by
  obtain ⟨⟨fs, a1, a2, a3⟩, ⟨gs, g1, g2, g3⟩, -⟩ := id x
  obtain ⟨n, hh⟩ := rn_i rfl rfl rfl rfl hh
  obtain ⟨n, hh⟩ := rn_gfo (g := 0) rfl rfl (by decide) a1 a2 hh
  obtain ⟨n, hh⟩ := rn_gfo (g := 1) rfl rfl (by decide) g1 g3 hh
  obtain ⟨n, hh⟩ := rn_if (cc := .ne) (off := 5) (t := 12) rfl rfl hh
  have en : pm_cmp .ne (nI n0) 0 = decide (¬ n0 = 0) := hI_ne (a := n0) (b := 0) (by omega) (by omega)
  rw [en] at hh
  unfold xgR
  by_cases z : n0 = 0
  · rw [decide_eq_false (fun q => q z)] at hh
    rw [if_pos z]
    exact xgs_0 hh
  · rw [decide_eq_true z] at hh
    rw [if_neg z]
    exact xgs_1 hn hc hg x xg hh
/-- the class's gifts -/
theorem xgf_run (hn : n0 ≤ 80) (hc : cc ≤ 6) (hg : gc ≤ 8) (x : pX h n0 cc f) (xg : rG h (.int (nI gc))) (hN : (xgR n0 cc gc f = nI N ∧ gc + N ≤ 8) ∨ (pm_cmp .le (xgR n0 cc gc f) 0 = true ∧ N = 0)) (hh : pm_run PT n fr lo 89 (0, pm_l0 [.ref 0] 2, [], h, 198, sl) = some R) : R.1 = some (.int (xgR n0 cc gc f)) ∧ rG R.2.1 (.int (nI (gc + N))) := by
  obtain ⟨n, hh⟩ := rn_i rfl rfl rfl rfl hh
  obtain ⟨n, fr', lo', r1, hr1, hh⟩ := rn_call (w := 0) (t := 130) rfl rfl hh
  have hf := sf_run sQ_ok _ _ _ 130 _ r1 rfl hr1
  have hk := ak_run (by decide) sQ_ak _ _ _ 130 _ r1 rfl hr1
  have hfg := sf_run sG_ok _ _ _ 130 _ r1 rfl hr1
  have hz := sz_run sQ_ok _ _ _ 130 _ r1 rfl hr1
  have hv := xgs_run hn hc hg x xg hr1
  obtain ⟨rv, h1, s1⟩ := r1
  dsimp only at hf hk hfg hz hv
  subst hz
  subst hv
  obtain ⟨⟨fs, a1, a2, a3⟩, ⟨gs, g1, g2, g3⟩, c1, -⟩ := pX_fm hf hk x
  obtain ⟨rs, d1, d2⟩ := rG_fm hfg xg
  generalize xgR n0 cc gc f = v at *
  have hh : pm_run PT n fr lo 89 (4, [some (.ref 0), none], [.int v], h1, 198, sl) = some R := hh
  obtain ⟨n, hh⟩ := rn_i rfl rfl rfl rfl hh
  obtain ⟨n, hh⟩ := rn_i rfl rfl rfl rfl hh
  obtain ⟨n, hh⟩ := rn_gfo (g := 0) rfl rfl (by decide) a1 a2 hh
  obtain ⟨n, hh⟩ := rn_i rfl rfl rfl rfl hh
  obtain ⟨n, hh⟩ := rn_i rfl rfl rfl (pf_eq (f := 1) rfl rfl (by decide) (by decide) g1 g3) hh
  have b1 : va_up h1 1 (.inr (8, gs.set 1 (.int (Int32.ofInt 0)))) 0 = .inr (10, fs) := by simp [va_up, a1]
  have b5 : va_up h1 1 (.inr (8, gs.set 1 (.int (Int32.ofInt 0)))) 5 = .inr (3, rs) := by simp [va_up, d1]
  generalize va_up h1 1 (.inr (8, gs.set 1 (.int (Int32.ofInt 0)))) = h2 at *
  have hh : pm_run PT n fr lo 89 (13, [some (.ref 0), some (.int v)], [], h2, 198, sl) = some R := hh
  obtain ⟨n, hh⟩ := rn_i rfl rfl rfl rfl hh
  obtain ⟨n, hh⟩ := rn_if (cc := .le) (off := 20) (t := 34) rfl rfl hh
  have fin0 : ∀ n : Nat, pm_run PT n fr lo 89 (34, [some (.ref 0), some (.int v)], [], h2, 198, sl) = some R → R.1 = some (.int v) ∧ rG R.2.1 (.int (nI gc)) := by
    intro n hh
    obtain ⟨n, hh⟩ := rn_i rfl rfl rfl rfl hh
    have e := (rn_ret rfl (Or.inl rfl) hh).2
    subst e
    exact ⟨rfl, rs, b5, d2⟩
  rcases hN with ⟨e1, e2⟩ | ⟨e1, e2⟩
  · by_cases z : N = 0
    · rw [show pm_cmp .le v 0 = true by rw [e1, z]; decide] at hh
      rw [z]
      exact fin0 n hh
    · have ec : pm_cmp .le v 0 = false := by
        rw [e1]
        have := hI_le (a := N) (b := 0) (by omega) (by omega)
        rw [decide_eq_false (by omega)] at this
        exact this
      rw [ec] at hh
      rw [e1] at hh ⊢
      obtain ⟨n, hh⟩ := rn_i rfl rfl rfl rfl hh
      obtain ⟨n, hh⟩ := rn_gfo (g := 2) rfl rfl (by decide) b1 a3 hh
      obtain ⟨n, hh⟩ := rn_i rfl rfl rfl rfl hh
      obtain ⟨n, hh⟩ := rn_gfo (g := 1) rfl rfl (by decide) b5 d2 hh
      obtain ⟨n, hh⟩ := rn_i rfl rfl rfl rfl hh
      obtain ⟨n, hh⟩ := rn_i rfl rfl rfl rfl hh
      obtain ⟨n, hh⟩ := rn_i rfl rfl rfl (pf_eq (f := 1) rfl rfl (by decide) (by decide) b5 d2) hh
      have ea : nI gc + nI N = nI (gc + N) := nI_add gc N
      have hh : pm_run PT n fr lo 89 (30, [some (.ref 0), some (.int (nI N))], [], va_up h2 5 (.inr (3, rs.set 1 (.int (nI gc + nI N)))), 198, sl) = some R := hh
      rw [ea] at hh
      have rg : rG (va_up h2 5 (.inr (3, rs.set 1 (.int (nI (gc + N)))))) (.int (nI (gc + N))) := ⟨rs.set 1 (.int (nI (gc + N))), by simp [va_up], by rw [List.getElem?_set_self (List.getElem?_eq_some_iff.mp d2).1]⟩
      obtain ⟨n, hh⟩ := rn_i rfl rfl rfl rfl hh
      obtain ⟨n, fr', lo', r1, hr1, hh⟩ := rn_call (w := 0) (t := 133) rfl rfl hh
      have hf := sf_run sG_ok _ _ _ 133 _ r1 rfl hr1
      have hz := sz_run sG_ok _ _ _ 133 _ r1 rfl hr1
      have hv := vd_run rfl hr1
      obtain ⟨rv, h3, s3⟩ := r1
      dsimp only at hf hz hv
      subst hz
      subst hv
      have hh : pm_run PT n fr lo 89 (34, [some (.ref 0), some (.int (nI N))], [], h3, 198, sl) = some R := hh
      obtain ⟨n, hh⟩ := rn_i rfl rfl rfl rfl hh
      have e := (rn_ret rfl (Or.inl rfl) hh).2
      subst e
      exact ⟨rfl, rG_fm hf rg⟩
  · rw [e1] at hh
    rw [e2]
    exact fin0 n hh
theorem fO_eq2 {m at_ : Nat} {is : Bool} (hm : m ≤ 80) (ha : at_ ≤ min n0 m) : fO n0 m (min n0 m) at_ is = cond (is && decide (at_ = n0)) (Int32.ofInt 0) (Int32.ofInt (-1) - nI at_) := by
  unfold fO fO2
  by_cases z : at_ = n0
  · have ht : at_ = min n0 m := by omega
    rw [decide_eq_true z, decide_eq_true ht, if_neg (by omega)]
  · rw [decide_eq_false z, Bool.and_false]
    by_cases y : at_ = min n0 m
    · have e41 : at_ = m := by omega
      rw [if_pos ⟨by omega, Or.inr (by omega)⟩, e41, cond_false]
    · rw [decide_eq_false y, Bool.and_false, if_neg (fun q => by rcases q.2 with q | q; cases q; omega)]
theorem nbr_cong {tp : Nat → Int32} {t : Nat} (hf : ∀ j, j < t → f j = tp j) : ∀ (k a : Nat) (v : Int32), nbr f t k a v = nbr tp t k a v
  | 0, a, v => rfl
  | k + 1, a, v => by
    unfold nbr
    by_cases z : a < t
    · have e : dg f a t = dg tp a t := by unfold dg; rw [hf a z]
      rw [e, hf a z, nbr_cong hf k (a + 1)]
    · have e1 : dg f a t = false := by unfold dg; rw [decide_eq_false z]; rfl
      have e2 : dg tp a t = false := by unfold dg; rw [decide_eq_false z]; rfl
      rw [e1, e2]
      rfl
theorem dg_cong {tp : Nat → Int32} {t : Nat} (hf : ∀ j, j < t → f j = tp j) (a : Nat) : dg f a t = dg tp a t := by
  unfold dg
  by_cases z : a < t
  · rw [hf a z]
  · rw [decide_eq_false z, Bool.false_and, Bool.false_and]
theorem dgi_cong {tp : Nat → Int32} {t : Nat} {l u : Int32} (hf : ∀ j, j < t → f j = tp j) (a : Nat) : dgi f a t l u = dgi tp a t l u := by
  unfold dgi
  by_cases z : a < t
  · rw [hf a z]
  · rw [decide_eq_false z, Bool.false_and, Bool.false_and]
theorem sep_cong {tp : Nat → Int32} {t : Nat} {c : Int32} (hf : ∀ j, j < t → f j = tp j) (a : Nat) : decide (a < t ∧ f a = c) = decide (a < t ∧ tp a = c) := by
  by_cases z : a < t
  · rw [hf a z]
  · rw [decide_eq_false (fun q => z q.1), decide_eq_false (fun q => z q.1)]
theorem rgL_cong {tp : Nat → Int32} {t : Nat} (hf : ∀ j, j < t → f j = tp j) (a : Nat) : rgL f t cc a = rgL tp t cc a := by
  unfold rgL rgW rgC rgE
  rw [dgi_cong hf, dg_cong hf, nbr_cong hf 2 (a + 1) 0, sep_cong hf, dg_cong hf, dgi_cong hf]
theorem sgL_cong {tp : Nat → Int32} {t : Nat} (hf : ∀ j, j < t → f j = tp j) : ∀ (k rm a : Nat), sgL f t cc gc k rm a = sgL tp t cc gc k rm a
  | 0, rm, a => rfl
  | k + 1, rm, a => by
    unfold sgL
    rw [rgL_cong hf, sgL_cong hf k (rm + 1) ((rgL tp t cc a).2 + 1), sep_cong hf]
theorem gm_both {tp : Nat → Int32} (hn : n0 ≤ 80) (hg : gc ≤ 8) (hf : ∀ j, j < n0 → f j = tp j) : gmA tp n0 cc gc = xgR n0 cc gc f ∧ ((xgR n0 cc gc f = nI (gmN tp n0 cc gc) ∧ gc + gmN tp n0 cc gc ≤ 8) ∨ (pm_cmp .le (xgR n0 cc gc f) 0 = true ∧ gmN tp n0 cc gc = 0)) := by
  have e0 : pm_cmp .ge (Int32.ofInt 0) 0 = true := by decide
  unfold gmA gmN gmF xgR
  by_cases z : n0 = 0
  · have es : gmS tp n0 cc gc = (true, 0, 0) := by
      unfold gmS
      rw [z]
      rfl
    rw [es, if_pos z]
    dsimp only
    rw [fO_eq2 (by decide) (Nat.zero_le _), show (true && decide (0 = n0)) = true by rw [z]; rfl]
    generalize Int32.ofInt (-1) - nI 0 = y
    simp only [cond_true]
    rw [e0]
    simp only [cond_true]
    exact ⟨(by decide), Or.inl ⟨(by decide), hg⟩⟩
  · have es : gmS tp n0 cc gc = sgL tp (min n0 55) cc gc (9 - gc) 0 0 := by
      unfold gmS
      rw [nb_ne z]
      rfl
    have e2 := sgL_cong (cc := cc) (gc := gc) (t := min n0 55) (fun j hj => hf j (by omega)) (9 - gc) 0 0
    obtain ⟨b1, b3⟩ := sgL_bd (tp := tp) (cc := cc) (gc := gc) (9 - gc) 0 0 (Nat.zero_le (min n0 55))
    have b3 := b3 (by omega)
    rw [es, if_neg z, e2]
    generalize sgL tp (min n0 55) cc gc (9 - gc) 0 0 = s at *
    rw [fO_eq2 (by decide) b1]
    unfold xA
    have y1 := neg_ge (a := s.2.1) (by omega)
    have y2 := neg_le (a := s.2.1) (by omega)
    generalize Int32.ofInt (-1) - nI s.2.1 = y at *
    cases hs : (s.1 && decide (s.2.1 = n0)) with
    | true =>
      simp only [cond_true]
      rw [e0]
      simp only [cond_true]
      exact ⟨trivial, Or.inl ⟨trivial, b3⟩⟩
    | false =>
      simp only [cond_false]
      rw [y1]
      simp only [cond_false]
      exact ⟨trivial, Or.inr ⟨y2, trivial⟩⟩
end GXU
end MG95zmx0
section MG95zmx1
/-! both texts, how many COURTS, how many GIFTS: turns -/
section TR5
variable {P : pm_St → Prop} {sl bS Ln i pc n fr lo : Nat} {xs : Nat → Int32} {L : pm_L} {h h1 h2 : pm_H} {R : pm_Rs}
def RG (h : pm_H) : Prop := ∃ gc : Nat, gc ≤ 8 ∧ rG h (.int (nI gc)) ∧ mF h 4 (.int (nI gc))
theorem RG_fm (q : fm (sfF sG) h h1) (r : RG h) : RG h1 := by
  obtain ⟨gc, hg, r1, r2⟩ := r
  exact ⟨gc, hg, rG_fm q r1, fm_mF q rfl r2⟩
def REL5 (h : pm_H) : Prop := REL4 h ∧ RG h
def LI5 (h : pm_H) : Prop := mInv h ∧ REL5 h
theorem LI_4 (hI : LI5 h) : LI4 h := ⟨hI.1, hI.2.1⟩
theorem twX_LI5 (hI : LI5 h) (q : twX h h1) : LI5 h1 := by
  have h4 := twX_LI4 (LI_4 hI) q
  obtain ⟨gc, hg, ⟨rs, d1, d2⟩, ms, m1, m2⟩ := hI.2.2
  exact ⟨h4.1, h4.2, gc, hg, ⟨rs, (q.1 5 (by decide)).trans d1, d2⟩, ms, (q.1 162 (by decide)).trans m1, m2⟩
/-- what both calls do -/
def twoWP5 (sl : Nat) (h : pm_H) (kx km : Nat) (As : List Value) : Prop := pm_WP PT 2047 (84000 - (19 + pm_max PT kx)) kx (0, pm_l0 (.ref 0 :: As) (pm_max PT kx), [], h, 198, sl) (fun q => q.2.2 = (198, sl) ∧ ∃ v : Int32, q.1 = some (.int v) ∧ (∃ f2, q.2.1 162 = .inr (11, f2)) ∧ pm_WP PT 2047 (84000 - (19 + pm_max PT km)) km (0, pm_l0 (.ref 162 :: As) (pm_max PT km), [], q.2) (fun y => y.1 = some (.int v) ∧ y.2.2 = (198, sl) ∧ LI5 y.2.1))
theorem two_lift5 {kx km : Nat} {As : List Value} (q : twoWP4 sl h kx km As) (gx : sGK kx = true) (gm : sGK km = true) (r : RG h) : twoWP5 sl h kx km As := by
  refine wp_mono (wp_runs (Z := fun r => fm (sfF sG) h r.2.1) q (fun m r hh => sf_run sG_ok m _ _ _ _ r gx hh)) ?_
  rintro ⟨rv, h1, s1⟩ ⟨⟨q1, v, q2, q3, q4⟩, q5⟩
  cases q1
  dsimp only at q2 q3 q4 q5
  refine ⟨rfl, v, q2, q3, wp_mono (wp_runs (Z := fun r => fm (sfF sG) h1 r.2.1) q4 (fun m r hh => sf_run sG_ok m _ _ _ _ r gm hh)) ?_⟩
  rintro ⟨rv2, h2, s2⟩ ⟨⟨p1, p2, p3⟩, p4⟩
  exact ⟨p1, p2, p3.1, p3.2, RG_fm p4 (RG_fm q5 r)⟩
theorem sg_two5 (hI : LI5 h) (v : Int32) : twoWP5 sl h 86 178 [.int v] := two_lift5 (sg_two4 (LI_4 hI) v) rfl rfl hI.2.2
theorem en_two5 (hI : LI5 h) (v : Int32) : twoWP5 sl h 87 179 [.int v] := two_lift5 (en_two4 (LI_4 hI) v) rfl rfl hI.2.2
theorem co_two5 (hI : LI5 h) : twoWP5 sl h 88 188 [] := two_lift5 (co_two4 (LI_4 hI)) rfl rfl hI.2.2
theorem gf_two5 (hI : LI5 h) : twoWP5 sl h 89 192 [] := by
  obtain ⟨hI0, ⟨n0, cc, f, g, hn, hc, ⟨x1, x2⟩, ⟨y1, y2, y3⟩, hj⟩, gc, hg, z1, z2⟩ := hI
  obtain ⟨eA, eN⟩ := gm_both (cc := cc) hn hg hj
  have hN6 : gc + gmN g n0 cc gc ≤ 8 := by
    rcases eN with ⟨-, q⟩ | ⟨-, q⟩
    · exact q
    · omega
  have px : pX h n0 cc f := by
    obtain ⟨fs, a1, a2, a3⟩ := ty_x2 hI0.1
    exact ⟨⟨fs, a1, a2, a3⟩, x1.1, x1.2, x2⟩
  refine wp_mono (wp_runs (Z := fun r => (r.1 = some (.int (xgR n0 cc gc f)) ∧ rG r.2.1 (.int (nI (gc + gmN g n0 cc gc)))) ∧ cT r.2.1 (.int 0) ∧ rC r.2.1 (.int (nI cc))) (cxw_gifts [.ref 0] h 2047 (84000 - (19 + pm_max PT 89)) sl ⟨⟨rfl, List.mem_singleton_self _⟩, trivial⟩ hI0.1 trivial (Nat.le_of_ble_eq_true rfl) (Nat.le_of_ble_eq_true rfl)) (fun m r hh => ⟨xgf_run hn hc hg px z1 eN hh, zx_gifts (ty_x0 hI0.1) (pT_cT x1) hh, rC_runs rfl x2 hh⟩)) ?_
  rintro ⟨rv, h1, s1⟩ ⟨⟨-, q1, ⟨q2, -⟩, q3⟩, ⟨p1, p2⟩, p3, p4⟩
  cases q1
  dsimp only at p1 p2 p3 p4
  have hI1 := cx_inv hI0 q2 q3
  obtain ⟨w, hw⟩ := ty_m0 hI1.1
  obtain ⟨w16, h16⟩ := ty_mi hI1.1 16 (by decide +kernel) (by decide +kernel)
  obtain ⟨w17, h17⟩ := ty_mi hI1.1 17 (by decide +kernel) (by decide +kernel)
  obtain ⟨w18, h18⟩ := ty_mi hI1.1 18 (by decide +kernel) (by decide +kernel)
  obtain ⟨w20, h20⟩ := ty_mi hI1.1 20 (by decide +kernel) (by decide +kernel)
  obtain ⟨fr0, hB⟩ := ty_173 hI1.1
  refine ⟨rfl, _, p1, ty_162 hI1.1, ?_⟩
  refine wp_mono (wp_runs (Z := fun r => (r.1 = some (.int (gmA g n0 cc gc)) ∧ mF r.2.1 4 (.int (nI (gc + gmN g n0 cc gc)))) ∧ zT r.2.1 ∧ mF r.2.1 3 (.int (nI cc))) (hm_gifts hI1 (fr := 2047) (lo := 84000 - (19 + pm_max PT 192)) (Nat.le_of_ble_eq_true rfl) (Nat.le_of_ble_eq_true rfl)) (fun m r hh => ⟨gm_run hn hg hw (mF_hi q2 y1) h16 h17 h18 h20 (mF_hi q2 y3) (mF_hi q2 z2) (ty_m14 hI1.1) ((q2.1 172 rfl).trans y2) (ty_m19 hI1.1) hB hh, z_gifts hw (mF_hi q2 y1) hh, m3_runs rfl (mF_hi q2 y3) hh⟩)) ?_
  rintro ⟨rv2, h2, s2⟩ ⟨⟨a1, a2, a3, a4⟩, ⟨b1, b2⟩, b3, b4⟩
  dsimp only at a2 a3 a4 b1 b2 b3 b4
  cases a2
  rw [eA] at b1
  refine ⟨b1, rfl, a4, REL_0 hI1 a4 hc a3 p3 p4 b3 b4, _, hN6, ?_, b2⟩
  obtain ⟨rs, r1, r2⟩ := p2
  exact ⟨rs, (a3 5 (by decide)).trans r1, r2⟩
end TR5
end MG95zmx1
section MG95zmx2
/-! what courts and gifts do to what is kept: isNew, forgetStates -/
section KPT
variable {n fr lo sl ch rm : Nat} {h : pm_H} {R : pm_Rs}
theorem pm_rets_v {k : Nat} {S : List Value} {rv : Option Value} (hr : pm_ret PT k = none) (h : pm_rets PT k .return_ S = some rv) : rv = none := by
  unfold pm_rets at h
  split at h
  · rw [hr] at h
    cases h
    rfl
  · cases ‹Instr.return_ = _›
  · cases ‹Instr.return_ = _›
  · cases h
theorem rn_vret {n fr lo sl k pc : Nat} {L : pm_L} {h : pm_H} {R : pm_Rs} {S : List Value} (hi : pm_ins PT k pc = some (.return_, 1)) (hr : pm_ret PT k = none) (hh : pm_run PT n fr lo k (pc, L, S, h, 198, sl) = some R) : R = (none, h, 198, sl) := by
  cases n with
  | zero => cases hh
  | succ n =>
    unfold pm_run at hh
    split at hh
    · rename_i r' e1
      cases hh
      unfold pm_end at e1
      dsimp only at e1
      rw [hi] at e1
      dsimp only at e1
      split at e1
      · split at e1
        · rename_i rv er
          cases e1
          have := pm_rets_v hr er
          subst this
          rfl
        · cases e1
      · cases e1
    · split at hh
      · rename_i st' e2
        exfalso
        unfold pm_step at e2
        dsimp only at e2
        rw [hi] at e2
        dsimp only at e2
        split at e2
        · cases e2
        · cases e2
      · cases hh
def s20P (ci f : Nat) : Bool := Nat.beq ci 10
def s20K (k : Nat) : Bool := Nat.beq k 20
theorem s20_ok : sf_ok s20P s20K := sf_of (N := [20]) (fun k h => by rw [Nat.eq_of_beq_eq_true h]; decide) (by decide +kernel)
/-- nothing is kept behind forgetStates -/
theorem fs_run {fs : List Value} {v5 w7 : Value} (e0 : h 0 = .inr (10, fs)) (e5 : fs[5]? = some v5) (e7 : fs[7]? = some w7) (hh : pm_run PT n fr lo 133 (0, pm_l0 [.ref 0] 1, [], h, 198, sl) = some R) : ∃ gs, R.2.1 0 = .inr (10, gs) ∧ gs[7]? = some (.int (nI 0)) := by
  obtain ⟨n, hh⟩ := rn_i rfl rfl rfl rfl hh
  obtain ⟨n, hh⟩ := rn_gfo (g := 5) rfl rfl (by decide) e0 e5 hh
  obtain ⟨n, fr', lo', r1, hr1, hh⟩ := rn_call (w := 0) (t := 20) rfl rfl hh
  have hf := sf_run s20_ok _ _ _ 20 _ r1 rfl hr1
  have hz := sz_run s20_ok _ _ _ 20 _ r1 rfl hr1
  have hv := vd_run rfl hr1
  obtain ⟨rv, h1, s1⟩ := r1
  dsimp only at hf hz hv
  subst hz
  subst hv
  obtain ⟨gs, g0, gl, g7⟩ := hf.2 0 10 fs e0
  have g7 := (g7 7 rfl).trans e7
  have hh : pm_run PT n fr lo 133 (7, [some (.ref 0)], [], h1, 198, sl) = some R := hh
  obtain ⟨n, hh⟩ := rn_i rfl rfl rfl rfl hh
  obtain ⟨n, hh⟩ := rn_i rfl rfl rfl rfl hh
  obtain ⟨n, hh⟩ := rn_i rfl rfl rfl (pf_eq (f := 7) rfl rfl (by decide) (by decide) g0 g7) hh
  have q := rn_vret rfl rfl hh
  rw [q]
  refine ⟨gs.set 7 (.int (Int32.ofInt 0)), by simp [va_up], ?_⟩
  rw [List.getElem?_set_self (List.getElem?_eq_some_iff.mp g7).1]
  rfl
end KPT
end MG95zmx2
section MG95zmx3
/-! the class's keep and again: the bits of keptThere -/
section KPX
variable {n fr lo sl q : Nat} {h : pm_H} {R : pm_Rs} {v : Int32}
def kP (ci _ : Nat) : Bool := Nat.beq ci 10
def kK (k : Nat) : Bool := Nat.beq k 73 || Nat.beq k 20
theorem kK_in (k : Nat) (h : kK k = true) : k ∈ [73, 20] := by
  unfold kK at h
  rw [Bool.or_eq_true] at h
  rcases h with h | h
  · rw [Nat.eq_of_beq_eq_true h]; decide
  · rw [Nat.eq_of_beq_eq_true h]; decide
theorem k_ok : sf_ok kP kK := sf_of kK_in (by decide +kernel)
def kJ (j : Nat) : Bool := Nat.ble j 1
theorem k_blk1 : blk_ok kP kK kJ 125 11 24 := blk_of (by decide +kernel)
theorem k_blk2 : blk_ok kP kK kJ 126 22 42 := blk_of (by decide +kernel)
def k7 (h : pm_H) (w : Int32) : Prop := ∃ fs, h 0 = .inr (10, fs) ∧ fs[7]? = some (.int w)
theorem k7_fm {h' : pm_H} {w : Int32} (q : fm (sfF kP) h h') (x : k7 h w) : k7 h' w := by
  obtain ⟨fs, e1, e2⟩ := x
  obtain ⟨fs', a1, -, a2⟩ := q.2 0 10 fs e1
  exact ⟨fs', a1, (a2 7 rfl).trans e2⟩
theorem kx_run {w : Int32} (x : k7 h w) (hh : pm_run PT n fr lo 125 (0, pm_l0 [.ref 0, .int v] 2, [], h, 198, sl) = some R) : cond (decide (0 ≤ v.toInt ∧ v.toInt ≤ 2)) (k7 R.2.1 (w ||| (Int32.ofInt 1 <<< (v &&& 31)))) (R.2.1 = h) := by
  have no : ∀ n : Nat, ¬ (0 ≤ v.toInt ∧ v.toInt ≤ 2) → pm_run PT n fr lo 125 (9, [some (.ref 0), some (.int v)], [], h, 198, sl) = some R → cond (decide (0 ≤ v.toInt ∧ v.toInt ≤ 2)) (k7 R.2.1 (w ||| (Int32.ofInt 1 <<< (v &&& 31)))) (R.2.1 = h) := by
    intro n z hh
    obtain ⟨n, hh⟩ := rn_i rfl rfl rfl rfl hh
    have e := (rn_ret rfl (Or.inr rfl) hh).2
    rw [decide_eq_false z, e]
    rfl
  obtain ⟨n, hh⟩ := rn_i rfl rfl rfl rfl hh
  obtain ⟨n, hh⟩ := rn_if (cc := .lt) (off := 8) (t := 9) rfl rfl hh
  have el : pm_cmp .lt v 0 = decide (v.toInt < 0) := by
    simp only [pm_cmp]
    rw [Bool.eq_iff_iff, decide_eq_true_iff, decide_eq_true_iff, Int32.lt_iff_toInt_lt, show (0 : Int32).toInt = 0 by decide]
  rw [el] at hh
  by_cases z : v.toInt < 0
  · rw [decide_eq_true z] at hh
    exact no n (by omega) hh
  · rw [decide_eq_false z] at hh
    obtain ⟨n, hh⟩ := rn_i rfl rfl rfl rfl hh
    obtain ⟨n, hh⟩ := rn_i rfl rfl rfl rfl hh
    obtain ⟨n, hh⟩ := rn_icmp (cc := .lt) (off := 5) (t := 11) rfl rfl hh
    have eg : pm_cmp .lt v (Int32.ofInt 3) = decide (v.toInt < 3) := by
      simp only [pm_cmp]
      rw [Bool.eq_iff_iff, decide_eq_true_iff, decide_eq_true_iff, Int32.lt_iff_toInt_lt, show (Int32.ofInt 3).toInt = 3 by decide]
    rw [eg] at hh
    by_cases y : v.toInt < 3
    · rw [decide_eq_true y] at hh
      rw [decide_eq_true (by omega)]
      have hh : pm_run PT n fr lo 125 (11, [some (.ref 0), some (.int v)], [], h, 198, sl) = some R := hh
      obtain ⟨n, L', S', h', hh, hl, hf⟩ := blk_run k_ok k_blk1 n fr lo _ R (Nat.le_of_ble_eq_true rfl) (Nat.le_of_ble_eq_true rfl) hh
      dsimp only at hl hf hh
      have g0 := hl 0 (.ref 0) rfl rfl rfl
      have g1 := hl 1 (.int v) rfl rfl rfl
      obtain ⟨fs, e0, e7⟩ := k7_fm hf x
      have hh : pm_run PT n fr lo 125 (24, L', S', h', 198, sl) = some R := hh
      obtain ⟨n, hh⟩ := rn_aln rfl g0 rfl hh
      obtain ⟨n, hh⟩ := rn_i rfl rfl rfl rfl hh
      obtain ⟨n, hh⟩ := rn_gfo (g := 7) rfl rfl (by decide) e0 e7 hh
      obtain ⟨n, hh⟩ := rn_i rfl rfl rfl rfl hh
      obtain ⟨n, hh⟩ := rn_iln rfl g1 rfl hh
      obtain ⟨n, hh⟩ := rn_i rfl rfl rfl rfl hh
      obtain ⟨n, hh⟩ := rn_i rfl rfl rfl rfl hh
      obtain ⟨n, hh⟩ := rn_i rfl rfl rfl (pf_eq (f := 7) rfl rfl (by decide) (by decide) e0 e7) hh
      obtain ⟨n, hh⟩ := rn_i rfl rfl rfl rfl hh
      have e := (rn_ret rfl (Or.inr rfl) hh).2
      rw [e]
      refine ⟨fs.set 7 (.int (w ||| (Int32.ofInt 1 <<< (v &&& 31)))), by simp [va_up], ?_⟩
      rw [List.getElem?_set_self (List.getElem?_eq_some_iff.mp e7).1]
    · rw [decide_eq_false y] at hh
      exact no n (by omega) hh
/-- is it kept under v, by the bits -/
def kbit (w v : Int32) : Bool := decide (0 ≤ v.toInt ∧ v.toInt ≤ 2) && decide (¬ ((w >>> (v &&& 31)) &&& Int32.ofInt 1) = 0)
theorem ka_run {w : Int32} (x : k7 h w) (hh : pm_run PT n fr lo 126 (0, pm_l0 [.ref 0, .int v] 2, [], h, 198, sl) = some R) : R.1 = some (.int (cond (kbit w v) 1 0)) ∧ k7 R.2.1 w := by
  have no : ∀ n : Nat, kbit w v = false → pm_run PT n fr lo 126 (20, [some (.ref 0), some (.int v)], [], h, 198, sl) = some R → R.1 = some (.int (cond (kbit w v) 1 0)) ∧ k7 R.2.1 w := by
    intro n z hh
    obtain ⟨n, hh⟩ := rn_i rfl rfl rfl rfl hh
    have e := (rn_ret rfl (Or.inr rfl) hh).2
    rw [z, e]
    exact ⟨rfl, x⟩
  obtain ⟨n, hh⟩ := rn_i rfl rfl rfl rfl hh
  obtain ⟨n, hh⟩ := rn_if (cc := .lt) (off := 19) (t := 20) rfl rfl hh
  have el : pm_cmp .lt v 0 = decide (v.toInt < 0) := by
    simp only [pm_cmp]
    rw [Bool.eq_iff_iff, decide_eq_true_iff, decide_eq_true_iff, Int32.lt_iff_toInt_lt, show (0 : Int32).toInt = 0 by decide]
  rw [el] at hh
  by_cases z : v.toInt < 0
  · rw [decide_eq_true z] at hh
    exact no n (by unfold kbit; rw [decide_eq_false (show ¬ (0 ≤ v.toInt ∧ v.toInt ≤ 2) by omega)]; rfl) hh
  · rw [decide_eq_false z] at hh
    obtain ⟨n, hh⟩ := rn_i rfl rfl rfl rfl hh
    obtain ⟨n, hh⟩ := rn_i rfl rfl rfl rfl hh
    obtain ⟨n, hh⟩ := rn_icmp (cc := .ge) (off := 14) (t := 20) rfl rfl hh
    have eg : pm_cmp .ge v (Int32.ofInt 3) = decide (3 ≤ v.toInt) := by
      simp only [pm_cmp]
      rw [Bool.eq_iff_iff, decide_eq_true_iff, decide_eq_true_iff, Int32.le_iff_toInt_le, show (Int32.ofInt 3).toInt = 3 by decide]
    rw [eg] at hh
    by_cases y : 3 ≤ v.toInt
    · rw [decide_eq_true y] at hh
      exact no n (by unfold kbit; rw [decide_eq_false (show ¬ (0 ≤ v.toInt ∧ v.toInt ≤ 2) by omega)]; rfl) hh
    · rw [decide_eq_false y] at hh
      obtain ⟨fs, e0, e7⟩ := id x
      obtain ⟨n, hh⟩ := rn_i rfl rfl rfl rfl hh
      obtain ⟨n, hh⟩ := rn_gfo (g := 7) rfl rfl (by decide) e0 e7 hh
      obtain ⟨n, hh⟩ := rn_i rfl rfl rfl rfl hh
      obtain ⟨n, hh⟩ := rn_i rfl rfl rfl rfl hh
      obtain ⟨n, hh⟩ := rn_i rfl rfl rfl rfl hh
      obtain ⟨n, hh⟩ := rn_i rfl rfl rfl rfl hh
      obtain ⟨n, hh⟩ := rn_if (cc := .ne) (off := 5) (t := 22) rfl rfl hh
      have hh : pm_run PT n fr lo 126 (cond (decide (¬ ((w >>> (v &&& 31)) &&& Int32.ofInt 1) = 0)) 22 20, [some (.ref 0), some (.int v)], [], h, 198, sl) = some R := hh
      have kb : kbit w v = decide (¬ ((w >>> (v &&& 31)) &&& Int32.ofInt 1) = 0) := by
        unfold kbit
        rw [decide_eq_true (show 0 ≤ v.toInt ∧ v.toInt ≤ 2 by omega), Bool.true_and]
      rw [← kb] at hh
      cases u : kbit w v with
      | false =>
        rw [u] at hh
        have q := no n u hh
        rw [u] at q
        exact q
      | true =>
        rw [u] at hh
        have hh : pm_run PT n fr lo 126 (22, [some (.ref 0), some (.int v)], [], h, 198, sl) = some R := hh
        obtain ⟨n, L', S', h', hh, hl, hf⟩ := blk_run k_ok k_blk2 n fr lo _ R (Nat.le_of_ble_eq_true rfl) (Nat.le_of_ble_eq_true rfl) hh
        dsimp only at hl hf hh
        have hh : pm_run PT n fr lo 126 (42, L', S', h', 198, sl) = some R := hh
        obtain ⟨n, hh⟩ := rn_i rfl rfl rfl rfl hh
        have e := (rn_ret rfl (Or.inr rfl) hh).2
        rw [e]
        exact ⟨rfl, k7_fm hf x⟩
end KPX
end MG95zmx3
end MH95xdx7
section MH95xdx8
/-! what a run that ends tells of one step -/
section REX
variable {n fr lo sl k pc j sz : Nat} {h : pm_H} {L : pm_L} {S r : List Value} {R : pm_Rs}
theorem rn_ex {i : Instr} {len : Nat} (hi : pm_ins PT k pc = some (i, len)) (hc : pm_callee PT k i = none) (n1 : i ≠ .return_) (n2 : i ≠ .ireturn) (n3 : i ≠ .lreturn) (hh : pm_run PT n fr lo k (pc, L, S, h, sz, sl) = some R) : ∃ st' m, pm_simple PT fr lo k i pc L S h sz sl = some st' ∧ pm_run PT m fr lo k st' = some R := by
  cases n with
  | zero => cases hh
  | succ n =>
    unfold pm_run at hh
    split at hh
    · rename_i r' e1
      exfalso
      unfold pm_end at e1
      dsimp only at e1
      rw [hi] at e1
      dsimp only at e1
      split at e1
      · split at e1
        · rename_i rv er
          rcases pm_rets_no er with q | q | q
          · exact n1 q
          · exact n2 q
          · exact n3 q
        · cases e1
      · cases e1
    · split at hh
      · rename_i st2 e2
        unfold pm_step at e2
        dsimp only at e2
        rw [hi] at e2
        dsimp only at e2
        split at e2
        · rw [hc] at e2
          dsimp only at e2
          exact ⟨st2, n, e2, hh⟩
        · cases e2
      · cases hh
theorem rn_ifv {v : Value} {cc : Jvm.ClassFile.Cond} {off : Int} (hi : pm_ins PT k pc = some (.ifCond cc off, 3)) (hh : pm_run PT n fr lo k (pc, L, v :: r, h, 198, sl) = some R) : ∃ x : Int32, v = .int x := by
  obtain ⟨st, m, e, -⟩ := rn_ex hi rfl (fun q => by cases q) (fun q => by cases q) (fun q => by cases q) hh
  cases v with
  | int x => exact ⟨x, rfl⟩
  | _ => exact absurd (show (none : Option pm_St) = some st from e) (fun q => by cases q)
theorem lo_ex {tt nn : Nat} {st : pm_St} (e : pm_lo tt nn pc j L S h sz sl = some st) : ∃ v, pm_get L j = some v ∧ pm_isT tt v = true ∧ st = (pc + nn, L, v :: S, h, sz, sl) := by
  unfold pm_lo pm_ld at e
  cases hg : pm_get L j with
  | none => rw [hg] at e; cases e
  | some v =>
    rw [hg] at e
    dsimp only at e
    by_cases z : pm_isT tt v = true
    · rw [if_pos z] at e
      cases e
      exact ⟨v, rfl, z, rfl⟩
    · rw [if_neg z] at e
      cases e
theorem isT_int {v : Value} (q : pm_isT 0 v = true) : ∃ x : Int32, v = .int x := by
  cases v with
  | int x => exact ⟨x, rfl⟩
  | _ => cases q
theorem rn_ilv {j : Nat} (hi : pm_ins PT k pc = some (.iload j, 2)) (hh : pm_run PT n fr lo k (pc, L, S, h, 198, sl) = some R) : ∃ (x : Int32) (m : Nat), pm_get L j = some (.int x) ∧ pm_run PT m fr lo k (pc + 2, L, .int x :: S, h, 198, sl) = some R := by
  obtain ⟨st, m, e, hh⟩ := rn_ex hi rfl (fun q => by cases q) (fun q => by cases q) (fun q => by cases q) hh
  obtain ⟨v, e1, e2, e3⟩ := lo_ex (show pm_lo 0 2 pc j L S h 198 sl = some st from e)
  obtain ⟨x, rfl⟩ := isT_int e2
  subst e3
  exact ⟨x, m, e1, hh⟩
theorem rn_ilnv {j : Fin 4} (hi : pm_ins PT k pc = some (.iload_n j, 1)) (hh : pm_run PT n fr lo k (pc, L, S, h, 198, sl) = some R) : ∃ (x : Int32) (m : Nat), pm_get L j.val = some (.int x) ∧ pm_run PT m fr lo k (pc + 1, L, .int x :: S, h, 198, sl) = some R := by
  obtain ⟨st, m, e, hh⟩ := rn_ex hi rfl (fun q => by cases q) (fun q => by cases q) (fun q => by cases q) hh
  obtain ⟨v, e1, e2, e3⟩ := lo_ex (show pm_lo 0 1 pc j.val L S h 198 sl = some st from e)
  obtain ⟨x, rfl⟩ := isT_int e2
  subst e3
  exact ⟨x, m, e1, hh⟩
/-- a field that is there, whatever it holds -/
theorem mF_ex {P : Nat → Nat → Bool} {h' : pm_H} {g : Nat} {v : Value} (q : fm (sfF P) h h') (m : mF h g v) : ∃ w, mF h' g w := by
  obtain ⟨fs, e1, e2⟩ := m
  obtain ⟨fs', a1, a2, -⟩ := q.2 162 11 fs e1
  have hl : g < fs'.length := by rw [a2]; exact (List.getElem?_eq_some_iff.mp e2).1
  exact ⟨fs'[g], fs', a1, List.getElem?_eq_getElem hl⟩
theorem le_lt0 {x : Int32} (q : pm_cmp .ge x 0 = false) : pm_cmp .le x 0 = true := by
  have q : ¬ (0 : Int32) ≤ x := of_decide_eq_false q
  have : x ≤ (0 : Int32) := by
    rw [Int32.le_iff_toInt_le] at q ⊢
    omega
  exact decide_eq_true this
end REX
/-! the reference's courts and gifts: how often something changed -/
section KCH
variable {n fr lo sl : Nat} {h : pm_H} {R : pm_Rs} {c : Int32}
def c5P (ci f : Nat) : Bool := Nat.beq ci 11 && (Nat.beq f 5 || Nat.beq f 20)
def c5Q (ci f : Nat) : Bool := Nat.beq ci 11 && Nat.beq f 5
def c5J (j : Nat) : Bool := Nat.beq j 0
def c5X : List Nat := [0, 6, 15, 22, 45, 52, 57, 72, 78, 82, 85, 91, 92, 93, 128, 161, 188, 190, 192]
def c5K : Nat → Bool := sf_X c5X
theorem c5_all : ((List.range 271).filter (fun k => !(c5X.any (fun x => Nat.beq x k)))).all (sf_b c5Q c5K) = true := gz_lift (X := c5X) (g := gz_sg c5Q c5K) (by decide +kernel) (fun k q h => gz_sf k q h) (by decide +kernel)
theorem c5_ok : sf_ok c5Q c5K := sf_of sf_X_in c5_all
def c0K (k : Nat) : Bool := Nat.beq k 165
theorem c0_ok : sf_ok c5P c0K := sf_of (N := [165]) (fun k h => by rw [Nat.eq_of_beq_eq_true h]; decide) (by decide +kernel)
theorem c5_isNew : blk_ok c5P c0K c5J 190 0 19 := blk_of (by decide +kernel)
theorem c5_188a : blk_ok c5Q c5K c5J 188 0 70 := blk_of (by decide +kernel)
theorem c5_188b : blk_ok c5Q c5K c5J 188 78 216 := blk_of (by decide +kernel)
theorem c5_192a : blk_ok c5Q c5K c5J 192 0 70 := blk_of (by decide +kernel)
theorem c5_192b : blk_ok c5Q c5K c5J 192 78 230 := blk_of (by decide +kernel)
theorem isN_run {v : Value} (h20 : mF h 20 v) (h5 : mF h 5 (.int c)) (hh : pm_run PT n fr lo 190 (0, pm_l0 [.ref 162] 1, [], h, 198, sl) = some R) : ∃ x : Int32, v = .int x ∧ mF R.2.1 20 v ∧ mF R.2.1 5 (.int (c + cond (pm_cmp .le x 0) 0 1)) ∧ R.1 = none ∧ R.2.2 = (198, sl) := by
  obtain ⟨n, L', S', h', hh, hl, hf⟩ := blk_run c0_ok c5_isNew n fr lo _ R (Nat.le_of_ble_eq_true rfl) (Nat.le_of_ble_eq_true rfl) hh
  dsimp only at hl hf hh
  have g0 := hl 0 (.ref 162) rfl rfl rfl
  have q20 := fm_mF hf rfl h20
  have q5 := fm_mF hf rfl h5
  have hh : pm_run PT n fr lo 190 (19, L', S', h', 198, sl) = some R := hh
  obtain ⟨n, hh⟩ := rn_aln rfl g0 rfl hh
  obtain ⟨n, hh⟩ := rn_i rfl rfl rfl rfl hh
  obtain ⟨n, hh⟩ := rn_gfm rfl rfl q5 hh
  obtain ⟨n, hh⟩ := rn_aln rfl g0 rfl hh
  obtain ⟨n, hh⟩ := rn_gfm rfl rfl q20 hh
  obtain ⟨x, rfl⟩ := rn_ifv rfl hh
  obtain ⟨n, hh⟩ := rn_if (cc := .le) (off := 7) (t := 35) rfl rfl hh
  have fin : ∀ (n : Nat) (b : Bool), pm_run PT n fr lo 190 (36, L', .int (cond b 1 0) :: .int c :: .ref 162 :: S', h', 198, sl) = some R → mF R.2.1 20 (.int x) ∧ mF R.2.1 5 (.int (c + cond b 1 0)) ∧ R.1 = none ∧ R.2.2 = (198, sl) := by
    intro n b hh
    obtain ⟨n, fr', lo', r1, hr1, hh⟩ := rn_call (w := 2) (t := 165) rfl rfl hh
    have er := rn_dt (F := 10) (Lo := 1000) (hd_flag (fr := 10) (lo := 1000) (h := h') (sl := sl) b) hr1
    subst er
    have hh : pm_run PT n fr lo 190 (39, L', .int (cond b 1 0) :: .int c :: .ref 162 :: S', h', 198, sl) = some R := hh
    obtain ⟨n, hh⟩ := rn_i rfl rfl rfl rfl hh
    have hh : pm_run PT n fr lo 190 (40, L', .int (c + cond b 1 0) :: .ref 162 :: S', h', 198, sl) = some R := hh
    obtain ⟨n, hh⟩ := rn_pfm (w := .int c) rfl rfl rfl (by decide) q5 hh
    have q := rn_vret rfl rfl hh
    rw [q]
    exact ⟨mF_ne (by decide) q20, mF_self q5, rfl, rfl⟩
  cases z : pm_cmp .le x 0 with
  | true =>
    rw [z] at hh
    obtain ⟨n, hh⟩ := rn_i rfl rfl rfl rfl hh
    obtain ⟨a1, a2, a3⟩ := fin n false hh
    exact ⟨x, rfl, a1, by rw [z]; exact a2, a3⟩
  | false =>
    rw [z] at hh
    obtain ⟨n, hh⟩ := rn_i rfl rfl rfl rfl hh
    obtain ⟨n, hh⟩ := rn_i rfl rfl rfl rfl hh
    obtain ⟨a1, a2, a3⟩ := fin n true hh
    exact ⟨x, rfl, a1, by rw [z]; exact a2, a3⟩
/-- courts: one more change just when LINES came -/
theorem ck_188 (h5 : mF h 5 (.int c)) {v20 : Value} (h20 : mF h 20 v20) (hh : pm_run PT n fr lo 188 (0, pm_l0 [.ref 162] 7, [], h, 198, sl) = some R) : ∃ v : Int32, R.1 = some (.int v) ∧ mF R.2.1 5 (.int (c + cond (pm_cmp .le v 0) 0 1)) := by
  obtain ⟨n, L', S', h', hh, hl, hf⟩ := blk_run c5_ok c5_188a n fr lo _ R (Nat.le_of_ble_eq_true rfl) (Nat.le_of_ble_eq_true rfl) hh
  dsimp only at hl hf hh
  have g0 := hl 0 (.ref 162) rfl rfl rfl
  have q5 := fm_mF hf rfl h5
  obtain ⟨w20, q20⟩ := mF_ex hf h20
  have hh : pm_run PT n fr lo 188 (70, L', S', h', 198, sl) = some R := hh
  obtain ⟨x, n, g4, hh⟩ := rn_ilv rfl hh
  obtain ⟨n, hh⟩ := rn_if (cc := .ge) (off := 6) (t := 78) rfl rfl hh
  cases z : pm_cmp .ge x 0 with
  | false =>
    rw [z] at hh
    have hh : pm_run PT n fr lo 188 (75, L', S', h', 198, sl) = some R := hh
    obtain ⟨n, hh⟩ := rn_il rfl g4 rfl hh
    have e := (rn_ret rfl (Or.inl rfl) hh).2
    rw [e]
    refine ⟨x, rfl, ?_⟩
    rw [le_lt0 z]
    show mF h' 5 (.int (c + 0))
    rw [show c + 0 = c from Int32.add_zero c]
    exact q5
  | true =>
    rw [z] at hh
    have hh : pm_run PT n fr lo 188 (78, L', S', h', 198, sl) = some R := hh
    obtain ⟨n, L2, S2, h2, hh, hl2, hf2⟩ := blk_run c5_ok c5_188b n fr lo _ R (Nat.le_of_ble_eq_true rfl) (Nat.le_of_ble_eq_true rfl) hh
    dsimp only at hl2 hf2 hh
    have g0 := hl2 0 (.ref 162) rfl g0 rfl
    have q5 := fm_mF hf2 rfl q5
    obtain ⟨w20, q20⟩ := mF_ex hf2 q20
    have hh : pm_run PT n fr lo 188 (216, L2, S2, h2, 198, sl) = some R := hh
    obtain ⟨n, hh⟩ := rn_aln rfl g0 rfl hh
    obtain ⟨n, fr', lo', r1, hr1, hh⟩ := rn_call (w := 0) (t := 190) rfl rfl hh
    obtain ⟨y, rfl, a1, a2, a3, a4⟩ := isN_run q20 q5 hr1
    obtain ⟨rv, h3, s3⟩ := r1
    dsimp only at a1 a2 a3 a4
    subst a3
    subst a4
    have hh : pm_run PT n fr lo 188 (220, L2, S2, h3, 198, sl) = some R := hh
    obtain ⟨n, hh⟩ := rn_aln rfl g0 rfl hh
    obtain ⟨n, hh⟩ := rn_gfm rfl rfl a1 hh
    have e := (rn_ret rfl (Or.inl rfl) hh).2
    rw [e]
    exact ⟨y, rfl, a2⟩
theorem ck_192 (h5 : mF h 5 (.int c)) {v20 : Value} (h20 : mF h 20 v20) (hh : pm_run PT n fr lo 192 (0, pm_l0 [.ref 162] 6, [], h, 198, sl) = some R) : ∃ v : Int32, R.1 = some (.int v) ∧ mF R.2.1 5 (.int (c + cond (pm_cmp .le v 0) 0 1)) := by
  obtain ⟨n, L', S', h', hh, hl, hf⟩ := blk_run c5_ok c5_192a n fr lo _ R (Nat.le_of_ble_eq_true rfl) (Nat.le_of_ble_eq_true rfl) hh
  dsimp only at hl hf hh
  have g0 := hl 0 (.ref 162) rfl rfl rfl
  have q5 := fm_mF hf rfl h5
  obtain ⟨w20, q20⟩ := mF_ex hf h20
  have hh : pm_run PT n fr lo 192 (70, L', S', h', 198, sl) = some R := hh
  obtain ⟨x, n, g4, hh⟩ := rn_ilv rfl hh
  obtain ⟨n, hh⟩ := rn_if (cc := .ge) (off := 6) (t := 78) rfl rfl hh
  cases z : pm_cmp .ge x 0 with
  | false =>
    rw [z] at hh
    have hh : pm_run PT n fr lo 192 (75, L', S', h', 198, sl) = some R := hh
    obtain ⟨n, hh⟩ := rn_il rfl g4 rfl hh
    have e := (rn_ret rfl (Or.inl rfl) hh).2
    rw [e]
    refine ⟨x, rfl, ?_⟩
    rw [le_lt0 z]
    show mF h' 5 (.int (c + 0))
    rw [show c + 0 = c from Int32.add_zero c]
    exact q5
  | true =>
    rw [z] at hh
    have hh : pm_run PT n fr lo 192 (78, L', S', h', 198, sl) = some R := hh
    obtain ⟨n, L2, S2, h2, hh, hl2, hf2⟩ := blk_run c5_ok c5_192b n fr lo _ R (Nat.le_of_ble_eq_true rfl) (Nat.le_of_ble_eq_true rfl) hh
    dsimp only at hl2 hf2 hh
    have g0 := hl2 0 (.ref 162) rfl g0 rfl
    have q5 := fm_mF hf2 rfl q5
    obtain ⟨w20, q20⟩ := mF_ex hf2 q20
    have hh : pm_run PT n fr lo 192 (230, L2, S2, h2, 198, sl) = some R := hh
    obtain ⟨n, hh⟩ := rn_aln rfl g0 rfl hh
    obtain ⟨n, fr', lo', r1, hr1, hh⟩ := rn_call (w := 0) (t := 190) rfl rfl hh
    obtain ⟨y, rfl, a1, a2, a3, a4⟩ := isN_run q20 q5 hr1
    obtain ⟨rv, h3, s3⟩ := r1
    dsimp only at a1 a2 a3 a4
    subst a3
    subst a4
    have hh : pm_run PT n fr lo 192 (234, L2, S2, h3, 198, sl) = some R := hh
    obtain ⟨n, hh⟩ := rn_aln rfl g0 rfl hh
    obtain ⟨n, hh⟩ := rn_gfm rfl rfl a1 hh
    have e := (rn_ret rfl (Or.inl rfl) hh).2
    rw [e]
    exact ⟨y, rfl, a2⟩
end KCH
/-! the class's courts and gifts: nothing is kept behind them when LINES came -/
section KCX
variable {n fr lo sl : Nat} {h : pm_H} {R : pm_Rs} {w : Int32}
def k10P (ci _ : Nat) : Bool := Nat.beq ci 10
def k10X : List Nat := [0, 6, 15, 22, 45, 52, 57, 72, 78, 82, 85, 88, 89, 90, 91, 92, 93, 122, 125, 128, 133, 161]
def k10K : Nat → Bool := sf_X k10X
theorem k10_all : ((List.range 271).filter (fun k => !(k10X.any (fun x => Nat.beq x k)))).all (sf_b k10P k10K) = true := gz_lift (X := k10X) (g := gz_sg k10P k10K) (by decide +kernel) (fun k q h => gz_sf k q h) (by decide +kernel)
theorem k10_ok : sf_ok k10P k10K := sf_of sf_X_in k10_all
def k10J (j : Nat) : Bool := Nat.ble j 1
theorem k10_88a : blk_ok k10P k10K c5J 88 0 13 := blk_of (by decide +kernel)
theorem k10_88b : blk_ok k10P k10K k10J 88 17 54 := blk_of (by decide +kernel)
theorem k10_89a : blk_ok k10P k10K c5J 89 0 13 := blk_of (by decide +kernel)
theorem k10_89b : blk_ok k10P k10K k10J 89 17 30 := blk_of (by decide +kernel)
theorem k7_10 {h' : pm_H} (q : fm (sfF k10P) h h') (x : k7 h w) : k7 h' w := by
  obtain ⟨fs, e1, e2⟩ := x
  obtain ⟨fs', a1, -, a2⟩ := q.2 0 10 fs e1
  exact ⟨fs', a1, (a2 7 rfl).trans e2⟩
/-- forgetStates, whatever the object's other fields hold -/
theorem fs_k7 (x : k7 h w) (hh : pm_run PT n fr lo 133 (0, pm_l0 [.ref 0] 1, [], h, 198, sl) = some R) : k7 R.2.1 0 := by
  obtain ⟨fs, e0, e7⟩ := x
  have hl : 5 < fs.length := by have := (List.getElem?_eq_some_iff.mp e7).1; omega
  obtain ⟨gs, g0, g7⟩ := fs_run e0 (List.getElem?_eq_getElem hl) e7 hh
  exact ⟨gs, g0, g7⟩
def k133X : List Nat := [0, 6, 15, 22, 45, 52, 57, 72, 78, 82, 85, 91, 92, 93, 128, 161]
theorem k133_all : ((List.range 271).filter (fun k => !(k133X.any (fun x => Nat.beq x k)))).all (sf_b (fun _ _ => false) (sf_X k133X)) = true := gz_lift (X := k133X) (g := gz_sg (fun _ _ => false) (sf_X k133X)) (by decide +kernel) (fun k q h => gz_sf k q h) (by decide +kernel)
theorem k133_ok : sf_ok (fun _ _ => false) (sf_X k133X) := sf_of sf_X_in k133_all
theorem xk_88 (x : k7 h w) (hh : pm_run PT n fr lo 88 (0, pm_l0 [.ref 0] 3, [], h, 198, sl) = some R) : ∃ v : Int32, R.1 = some (.int v) ∧ k7 R.2.1 (cond (pm_cmp .le v 0) w 0) := by
  obtain ⟨n, L', S', h', hh, hl, hf⟩ := blk_run k10_ok k10_88a n fr lo _ R (Nat.le_of_ble_eq_true rfl) (Nat.le_of_ble_eq_true rfl) hh
  dsimp only at hl hf hh
  have g0 := hl 0 (.ref 0) rfl rfl rfl
  have x := k7_10 hf x
  have hh : pm_run PT n fr lo 88 (13, L', S', h', 198, sl) = some R := hh
  obtain ⟨y, n, g1, hh⟩ := rn_ilnv rfl hh
  have hh : pm_run PT n fr lo 88 (14, L', .int y :: S', h', 198, sl) = some R := hh
  obtain ⟨n, hh⟩ := rn_if (cc := .le) (off := 44) (t := 58) rfl rfl hh
  cases z : pm_cmp .le y 0 with
  | true =>
    rw [z] at hh
    have hh : pm_run PT n fr lo 88 (58, L', S', h', 198, sl) = some R := hh
    obtain ⟨n, hh⟩ := rn_iln rfl g1 rfl hh
    have e := (rn_ret rfl (Or.inl rfl) hh).2
    rw [e]
    refine ⟨y, rfl, ?_⟩
    rw [z]
    exact x
  | false =>
    rw [z] at hh
    have hh : pm_run PT n fr lo 88 (17, L', S', h', 198, sl) = some R := hh
    obtain ⟨n, L2, S2, h2, hh, hl2, hf2⟩ := blk_run k10_ok k10_88b n fr lo _ R (Nat.le_of_ble_eq_true rfl) (Nat.le_of_ble_eq_true rfl) hh
    dsimp only at hl2 hf2 hh
    have g0 := hl2 0 (.ref 0) rfl g0 rfl
    have g1 := hl2 1 (.int y) rfl g1 rfl
    have x := k7_10 hf2 x
    have hh : pm_run PT n fr lo 88 (54, L2, S2, h2, 198, sl) = some R := hh
    obtain ⟨n, hh⟩ := rn_aln rfl g0 rfl hh
    obtain ⟨n, fr', lo', r1, hr1, hh⟩ := rn_call (w := 0) (t := 133) rfl rfl hh
    have x3 := fs_k7 x hr1
    have hz := sz_run k133_ok _ _ _ 133 _ r1 rfl hr1
    have hv := vd_run rfl hr1
    obtain ⟨rv, h3, s3⟩ := r1
    dsimp only at x3 hz hv
    subst hz
    subst hv
    have hh : pm_run PT n fr lo 88 (58, L2, S2, h3, 198, sl) = some R := hh
    obtain ⟨n, hh⟩ := rn_iln rfl g1 rfl hh
    have e := (rn_ret rfl (Or.inl rfl) hh).2
    rw [e]
    refine ⟨y, rfl, ?_⟩
    rw [z]
    exact x3
theorem xk_89 (x : k7 h w) (hh : pm_run PT n fr lo 89 (0, pm_l0 [.ref 0] 2, [], h, 198, sl) = some R) : ∃ v : Int32, R.1 = some (.int v) ∧ k7 R.2.1 (cond (pm_cmp .le v 0) w 0) := by
  obtain ⟨n, L', S', h', hh, hl, hf⟩ := blk_run k10_ok k10_89a n fr lo _ R (Nat.le_of_ble_eq_true rfl) (Nat.le_of_ble_eq_true rfl) hh
  dsimp only at hl hf hh
  have g0 := hl 0 (.ref 0) rfl rfl rfl
  have x := k7_10 hf x
  have hh : pm_run PT n fr lo 89 (13, L', S', h', 198, sl) = some R := hh
  obtain ⟨y, n, g1, hh⟩ := rn_ilnv rfl hh
  have hh : pm_run PT n fr lo 89 (14, L', .int y :: S', h', 198, sl) = some R := hh
  obtain ⟨n, hh⟩ := rn_if (cc := .le) (off := 20) (t := 34) rfl rfl hh
  cases z : pm_cmp .le y 0 with
  | true =>
    rw [z] at hh
    have hh : pm_run PT n fr lo 89 (34, L', S', h', 198, sl) = some R := hh
    obtain ⟨n, hh⟩ := rn_iln rfl g1 rfl hh
    have e := (rn_ret rfl (Or.inl rfl) hh).2
    rw [e]
    refine ⟨y, rfl, ?_⟩
    rw [z]
    exact x
  | false =>
    rw [z] at hh
    have hh : pm_run PT n fr lo 89 (17, L', S', h', 198, sl) = some R := hh
    obtain ⟨n, L2, S2, h2, hh, hl2, hf2⟩ := blk_run k10_ok k10_89b n fr lo _ R (Nat.le_of_ble_eq_true rfl) (Nat.le_of_ble_eq_true rfl) hh
    dsimp only at hl2 hf2 hh
    have g0 := hl2 0 (.ref 0) rfl g0 rfl
    have g1 := hl2 1 (.int y) rfl g1 rfl
    have x := k7_10 hf2 x
    have hh : pm_run PT n fr lo 89 (30, L2, S2, h2, 198, sl) = some R := hh
    obtain ⟨n, hh⟩ := rn_aln rfl g0 rfl hh
    obtain ⟨n, fr', lo', r1, hr1, hh⟩ := rn_call (w := 0) (t := 133) rfl rfl hh
    have x3 := fs_k7 x hr1
    have hz := sz_run k133_ok _ _ _ 133 _ r1 rfl hr1
    have hv := vd_run rfl hr1
    obtain ⟨rv, h3, s3⟩ := r1
    dsimp only at x3 hz hv
    subst hz
    subst hv
    have hh : pm_run PT n fr lo 89 (34, L2, S2, h3, 198, sl) = some R := hh
    obtain ⟨n, hh⟩ := rn_iln rfl g1 rfl hh
    have e := (rn_ret rfl (Or.inl rfl) hh).2
    rw [e]
    refine ⟨y, rfl, ?_⟩
    rw [z]
    exact x3
end KCX
end MH95xdx8
section MH95xdx9
/-! the reference's again, exactly -/
section AGX
variable {fr lo sl : Nat} {h : pm_H}
def agB (b c : Nat → Int32) (ch v : Int32) : Bool := in_b v.toInt64 0 2 && (!decide (b v.toNatClampNeg = 0) && decide (c v.toNatClampNeg = ch))
theorem hd_agx {f g b c : Nat → Int32} {ch : Int32} {x0 x27 : Value} (v : Int32) (h0 : mF h 0 x0) (h5 : mF h 5 (.int ch)) (h27 : mF h 27 x27) (h52 : mF h 52 (.ref 194)) (h53 : mF h 53 (.ref 195)) (h54 : mF h 54 (.ref 196)) (h12 : mF h 12 (.ref 170)) (hN : h 170 = .inl (0, 96, .inl g)) (hK : h 196 = .inl (0, 288, .inl f)) (hB : h 194 = .inl (3, 3, .inl b)) (hCh : h 195 = .inl (0, 3, .inl c)) (hf : 1 ≤ fr) (hl : 30 ≤ lo) : pm_WP PT fr lo 265 (0, pm_l0 [.ref 162, .int v] 3, [], h, 198, sl) (fun r => r.1 = some (.int (cond (agB b c ch v) 1 0)) ∧ r.2.1 194 = h 194 ∧ r.2.1 195 = h 195) := by
  have no : ∀ (w : Int32) (L : pm_L), agB b c ch w = false → pm_WP PT fr lo 265 (40, L, [.int 0], (mset h 0 (.int 0)), 198, sl) (fun r => r.1 = some (.int (cond (agB b c ch w) 1 0)) ∧ r.2.1 194 = h 194 ∧ r.2.1 195 = h 195) := by
    intro w L e
    rw [e]
    exact wp_zret rfl rfl (by decide) ⟨rfl, mset_ne (by decide), mset_ne (by decide)⟩
  refine wp_i rfl rfl rfl rfl ?_
  refine wp_i rfl rfl rfl rfl ?_
  show pm_WP PT fr lo 265 (2, [some (.ref 162), some (.int v), none], [.int 0, .ref 162], h, 198, sl) _
  refine wp_pfm rfl rfl rfl (by decide) h0 ?_
  refine wp_i rfl rfl rfl rfl ?_
  refine wp_i rfl rfl rfl rfl ?_
  refine wp_i rfl rfl rfl rfl ?_
  refine wp_i rfl rfl rfl rfl ?_
  show pm_WP PT fr lo 265 (11, [some (.ref 162), some (.int v), none], [.long 2, .long 0, .long (v).toInt64], (mset h 0 (.int 0)), 198, sl) _
  refine wp_callS (t := 163) (As := [.long (v).toInt64, .long 0, .long 2]) (rest := []) (mx := 6) rfl rfl rfl rfl (Nat.le_of_ble_eq_true rfl) (Nat.le_of_ble_eq_true rfl) (by omega) (by omega) (wp_mono (hd_in v.toInt64 0 2) ?_)
  rintro _ rfl
  by_cases hin : in_b v.toInt64 0 2 = true
  · obtain ⟨i, hi, rfl⟩ := in3 v hin
    have ea : agB b c ch (nI i) = (!decide (b i = 0) && decide (c i = ch)) := by
      unfold agB
      rw [hin, Bool.true_and, nI_clamp (by omega)]
    rw [hin]
    refine wp_i rfl rfl rfl rfl ?_
    refine wp_i rfl rfl rfl rfl ?_
    show pm_WP PT fr lo 265 (18, [some (.ref 162), some (.int (nI i)), none], [.ref 162], (mset h 0 (.int 0)), 198, sl) _
    refine wp_gfm rfl rfl (mF_ne (by decide) h52) ?_
    refine wp_i rfl rfl rfl rfl ?_
    show pm_WP PT fr lo 265 (22, [some (.ref 162), some (.int (nI i)), none], [.int (nI i), .ref 194], (mset h 0 (.int 0)), 198, sl) _
    refine wp_zam rfl (by rw [mset_ne (by decide)]; exact hB) (hI_in hi (by decide)) (by decide) ?_
    rw [nI_clamp (by omega)]
    show pm_WP PT fr lo 265 (23, [some (.ref 162), some (.int (nI i)), none], [.int (b i)], (mset h 0 (.int 0)), 198, sl) _
    refine wp_if (c := .eq) (off := 16) (t := 39) rfl rfl (fun q1 => ?_) (fun q1 => ?_)
    · refine wp_i rfl rfl rfl rfl ?_
      show pm_WP PT fr lo 265 (40, [some (.ref 162), some (.int (nI i)), none], [.int 0], (mset h 0 (.int 0)), 198, sl) _
      exact no (nI i) _ (by rw [ea, decide_eq_true (show b i = 0 from of_decide_eq_true q1)]; rfl)
    · have q1 : ¬ b i = 0 := of_decide_eq_false q1
      refine wp_i rfl rfl rfl rfl ?_
      show pm_WP PT fr lo 265 (27, [some (.ref 162), some (.int (nI i)), none], [.ref 162], (mset h 0 (.int 0)), 198, sl) _
      refine wp_gfm rfl rfl (mF_ne (by decide) h53) ?_
      refine wp_i rfl rfl rfl rfl ?_
      show pm_WP PT fr lo 265 (31, [some (.ref 162), some (.int (nI i)), none], [.int (nI i), .ref 195], (mset h 0 (.int 0)), 198, sl) _
      refine wp_iam rfl (mset_arr (by decide) hCh) (hI_in hi (by decide)) (by decide) ?_
      rw [nI_clamp (by omega)]
      refine wp_i rfl rfl rfl rfl ?_
      show pm_WP PT fr lo 265 (33, [some (.ref 162), some (.int (nI i)), none], [.ref 162, .int (c i)], (mset h 0 (.int 0)), 198, sl) _
      refine wp_gfm rfl rfl (mF_ne (by decide) h5) ?_
      show pm_WP PT fr lo 265 (36, [some (.ref 162), some (.int (nI i)), none], [.int ch, .int (c i)], (mset h 0 (.int 0)), 198, sl) _
      refine wp_icmp (c := .eq) (off := 5) (t := 41) rfl rfl (fun q2 => ?_) (fun q2 => ?_)
      · have q2 : c i = ch := of_decide_eq_true q2
        have ev : agB b c ch (nI i) = true := by rw [ea, decide_eq_false q1, decide_eq_true q2]; rfl
        refine wp_i rfl rfl rfl rfl ?_
        refine wp_i rfl rfl rfl rfl ?_
        show pm_WP PT fr lo 265 (43, [some (.ref 162), some (.int (nI i)), some (.int 0)], [], (mset h 0 (.int 0)), 198, sl) _
        have e9 := aset_same (mset_arr (f := 0) (v := .int 0) (by decide) hN)
        rw [← e9]
        refine cp_again (f := f) (g := g) hi (mF_ne (by decide) h54) (mF_ne (by decide) h12) (mset_arr (by decide) hK) (fun gk hc => ?_) 96 0 g (by omega) (cpk_0 f g (96 * i) 0)
        refine wp_i rfl rfl rfl rfl ?_
        refine wp_i rfl rfl rfl rfl ?_
        show pm_WP PT fr lo 265 (74, [some (.ref 162), some (.int (nI i)), some (.int (nI 96))], [.int 0, .ref 162], (aset (mset h 0 (.int 0)) 170 96 gk), 198, sl) _
        refine wp_pfm rfl rfl rfl (by decide) (mF_as (by decide) (mF_ne (by decide) h27)) ?_
        refine wp_i rfl rfl rfl rfl ?_
        show pm_WP PT fr lo 265 (78, [some (.ref 162), some (.int (nI i)), some (.int (nI 96))], [.int 1], (mset (aset (mset h 0 (.int 0)) 170 96 gk) 27 (.int 0)), 198, sl) _
        refine wp_zret rfl rfl (by decide) ⟨by rw [ev]; rfl, ?_, ?_⟩
        · show mset (aset (mset h 0 (.int 0)) 170 96 gk) 27 (.int 0) 194 = h 194
          rw [mset_ne (by decide), aset_nei (by decide), mset_ne (by decide)]
        · show mset (aset (mset h 0 (.int 0)) 170 96 gk) 27 (.int 0) 195 = h 195
          rw [mset_ne (by decide), aset_nei (by decide), mset_ne (by decide)]
      · have q2 : ¬ c i = ch := of_decide_eq_false q2
        refine wp_i rfl rfl rfl rfl ?_
        show pm_WP PT fr lo 265 (40, [some (.ref 162), some (.int (nI i)), none], [.int 0], (mset h 0 (.int 0)), 198, sl) _
        exact no (nI i) _ (by rw [ea, decide_eq_false q2, Bool.and_false])
  · have hin : in_b v.toInt64 0 2 = false := by
      cases e : in_b v.toInt64 0 2 with
      | true => exact absurd e hin
      | false => rfl
    have ea : agB b c ch v = false := by
      unfold agB
      rw [hin, Bool.false_and]
    rw [hin]
    refine wp_i rfl rfl rfl rfl ?_
    refine wp_i rfl rfl rfl rfl ?_
    show pm_WP PT fr lo 265 (40, [some (.ref 162), some (.int v), none], [.int 0], (mset h 0 (.int 0)), 198, sl) _
    exact no v _ ea
theorem in2_b (x : Int32) : in_b x.toInt64 0 2 = decide (0 ≤ x.toInt ∧ x.toInt ≤ 2) := by
  have e2 : (nI 2).toInt64 = 2 := by decide
  have q := in_bc x (c := 2) (by decide)
  rw [e2] at q
  exact q
end AGX
/-! the cells of what is kept are reached by keep and again alone -/
section NR2
variable {h : pm_H}
def nrA2 (i : Nat) : Bool := Nat.beq i 194 || Nat.beq i 195
def nrG2 (ci f : Nat) : Bool := Nat.beq ci 11 && (Nat.beq f 52 || Nat.beq f 53)
def nr_tc2 (c : ac) : Bool := match c with
  | .inr (ci, as) => (List.range as.length).all (fun f => nrG2 ci f || (match as[f]? with
    | some a => !(av_has a 194) && !(av_has a 195)
    | none => true))
  | .inl (_, n, a) => (List.range n).all (fun j => !(av_has (aq a j) 194) && !(av_has (aq a j) 195))
theorem nr_tb2 : (List.range 198).all (fun i => nr_tc2 (bB i)) = true := by decide +kernel
theorem av_hasn {a : av} {p : Nat} (h1 : a.1 = 2) (h2 : p ∈ av_ids a) : av_has a p = true := by
  unfold av_has
  rw [h1]
  have : (av_ids a).contains p = true := List.elem_iff.mpr h2
  rw [this]
  rfl
theorem nrv_av2 {v : Value} {a : av} (hv : av_ok v a) (ha : (!(av_has a 194) && !(av_has a 195)) = true) : nrv nrA2 v := by
  intro p e
  subst e
  cases hp : nrA2 p with
  | false => rfl
  | true =>
    exfalso
    obtain ⟨h1, h2⟩ := hv
    unfold nrA2 at hp
    rw [Bool.or_eq_true] at hp
    rw [Bool.and_eq_true] at ha
    rcases hp with hp | hp
    · have ep := Nat.eq_of_beq_eq_true hp
      subst ep
      have := ha.1
      rw [av_hasn h1 h2] at this
      cases this
    · have ep := Nat.eq_of_beq_eq_true hp
      subst ep
      have := ha.2
      rw [av_hasn h1 h2] at this
      cases this
theorem nrH_ty2 (hh : ah_ok bB 198 [] h) : nrH nrA2 nrG2 h := by
  refine ⟨fun i ci fs hi e f v hv hG => ?_, fun i kd n f hi e j hj => ?_⟩
  · have h0 := hh i hi
    have hb := List.all_eq_true.mp nr_tb2 i (List.mem_range.mpr hi)
    rw [show ah_get bB [] i = bB i from rfl, e] at h0
    cases hB : bB i with
    | inl q =>
      rw [hB] at h0
      exact h0.elim
    | inr q =>
      obtain ⟨ci', as⟩ := q
      rw [hB] at h0 hb
      obtain ⟨⟨h1, -⟩, h2, h3⟩ := h0
      subst h1
      have hf : f < as.length := by rw [← h2]; exact (List.getElem?_eq_some_iff.mp hv).1
      have hq := List.all_eq_true.mp hb f (List.mem_range.mpr hf)
      rw [hG, Bool.false_or, List.getElem?_eq_getElem hf] at hq
      exact nrv_av2 (h3 f v _ hv (List.getElem?_eq_getElem hf)) hq
  · have h0 := hh i hi
    have hb := List.all_eq_true.mp nr_tb2 i (List.mem_range.mpr hi)
    rw [show ah_get bB [] i = bB i from rfl, e] at h0
    cases hB : bB i with
    | inl q =>
      obtain ⟨kd', n', a⟩ := q
      rw [hB] at h0 hb
      obtain ⟨h1, h2, h3⟩ := h0
      subst h2
      exact nrv_av2 (h3 j hj) (List.all_eq_true.mp hb j (List.mem_range.mpr hj))
    | inr q =>
      rw [hB] at h0
      exact h0.elim
theorem nrS_ints2 (vs : List Int32) : nrS nrA2 (.ref 162 :: vs.map Value.int) := by
  refine nrS_cons.mpr ⟨fun p e => by cases e; rfl, fun v hv => ?_⟩
  obtain ⟨x, -, rfl⟩ := List.mem_map.mp hv
  exact nrv_i x
def nKX : List Nat := [0, 6, 15, 22, 45, 52, 57, 72, 78, 82, 85, 91, 92, 93, 128, 161, 264, 265]
def nKK : Nat → Bool := sf_X nKX
def nP0 (_ _ : Nat) : Bool := false
theorem nK_all : ((List.range 271).filter (fun k => !(nKX.any (fun x => Nat.beq x k)))).all (fun k => sf_b nP0 nKK k && nr_b nrG2 nKK k) = true := gz_lift (X := nKX) (g := fun k => gz_sg nP0 nKK k && gz_ng nrG2 nKK k) (by decide +kernel) (gz_2 gz_sf gz_nr) (by decide +kernel)
theorem nK_sf : sf_ok nP0 nKK := sf_of sf_X_in (List.all_eq_true.mpr (fun k hk => ((Bool.and_eq_true _ _).mp (List.all_eq_true.mp nK_all k hk)).1))
theorem nK_nr : nr_ok nrG2 nKK := nr_of sf_X_in (List.all_eq_true.mpr (fun k hk => ((Bool.and_eq_true _ _).mp (List.all_eq_true.mp nK_all k hk)).2))
def sK (ci f : Nat) : Bool := (Nat.beq ci 10 && Nat.beq f 7) || (Nat.beq ci 11 && (Nat.beq f 5 || (Nat.beq f 3 || Nat.beq f 4)))
def sKX : List Nat := [0, 6, 15, 22, 45, 52, 57, 72, 78, 82, 85, 88, 89, 91, 92, 93, 125, 128, 133, 161, 188, 190, 192]
def sKK : Nat → Bool := sf_X sKX
theorem sK_all : ((List.range 271).filter (fun k => !(sKX.any (fun x => Nat.beq x k)))).all (sf_b sK sKK) = true := gz_lift (X := sKX) (g := gz_sg sK sKK) (by decide +kernel) (fun k q h => gz_sf k q h) (by decide +kernel)
theorem sK_ok : sf_ok sK sKK := sf_of sf_X_in sK_all
end NR2
/-! turns told by the runs of both calls -/
section RUN
variable {P : pm_St → Prop} {sl bS Ln i pc n kx km pe : Nat} {xs : Nat → Int32} {L : pm_L} {h h1 h2 : pm_H} {vs : List Int32} {v w : Int32}
def prX (sl kx : Nat) (vs : List Int32) (h h1 : pm_H) (v : Int32) : Prop := ∃ m, pm_run PT m 2047 (84000 - (19 + pm_max PT kx)) kx (0, pm_l0 (.ref 0 :: vs.map Value.int) (pm_max PT kx), [], h, 198, sl) = some (some (.int v), h1, 198, sl)
def prM (sl km : Nat) (vs : List Int32) (h1 h2 : pm_H) (w : Int32) : Prop := ∃ m, pm_run PT m 2047 (84000 - (19 + pm_max PT km)) km (0, pm_l0 (.ref 162 :: vs.map Value.int) (pm_max PT km), [], h1, 198, sl) = some (some (.int w), h2, 198, sl)
def prun (sl kx km : Nat) (vs : List Int32) (h h1 h2 : pm_H) (v w : Int32) : Prop := prX sl kx vs h h1 v ∧ (fm cxF h h1 ∧ mInv h1) ∧ prM sl km vs h1 h2 w ∧ (∀ i, i < 162 → h2 i = h1 i) ∧ mInv h2
theorem op_wp (hI : mInv h) {c : con} (hx : con_ok PT bB 198 cxF cxQ c) (ek : c.1 = kx) (ec : cx_int c vs.length = true) {A : Option Value → Prop} (hA : ∀ v, A v → ∃ x : Int32, v = some (.int x)) (hm : ∀ h1, mInv h1 → pm_WP PT 2047 (84000 - (19 + pm_max PT km)) km (0, pm_l0 (.ref 162 :: vs.map Value.int) (pm_max PT km), [], h1, 198, sl) (mPost A h1 sl)) : pm_WP PT 2047 (84000 - (19 + pm_max PT kx)) kx (0, pm_l0 (.ref 0 :: vs.map Value.int) (pm_max PT kx), [], h, 198, sl) (fun q => q.2.2 = (198, sl) ∧ ∃ v : Int32, q.1 = some (.int v) ∧ (∃ f2, q.2.1 162 = .inr (11, f2)) ∧ pm_WP PT 2047 (84000 - (19 + pm_max PT km)) km (0, pm_l0 (.ref 162 :: vs.map Value.int) (pm_max PT km), [], q.2) (fun y => y.2.2 = (198, sl) ∧ ∃ w : Int32, y.1 = some (.int w) ∧ prun sl kx km vs h q.2.1 y.2.1 v w)) := by
  subst ek
  unfold cx_int at ec
  simp only [Bool.and_eq_true] at ec
  obtain ⟨e1, e2, e3, e4, e5, e6, e7, e8⟩ := ec
  have e1 := of_decide_eq_true e1
  have e2 := of_decide_eq_true e2
  have e4 := of_decide_eq_true e4
  have e5 := Nat.le_of_ble_eq_true e5
  have e6 := Nat.le_of_ble_eq_true e6
  have e8 := Nat.le_of_ble_eq_true e8
  have e7 : c.2.2.2.2.2.2.2 = false := by simpa using e7
  refine wp_mono (wp_runs (Z := fun r => ∃ m, pm_run PT m 2047 (84000 - (19 + pm_max PT c.1)) c.1 (0, pm_l0 (.ref 0 :: vs.map Value.int) (pm_max PT c.1), [], h, 198, sl) = some r) (hx (.ref 0 :: vs.map Value.int) h 2047 (84000 - (19 + pm_max PT c.1)) sl ?_ ?_ trivial e5 (by omega)) (fun m r hh => ⟨m, hh⟩)) ?_
  · rw [e1]
    exact ⟨⟨rfl, List.mem_singleton_self _⟩, as_top vs⟩
  · rw [e2]; exact hI.1
  · rintro ⟨rv, h1, s1⟩ ⟨⟨⟨a, ha, hv⟩, q1, ⟨q2, -⟩, q3⟩, q4⟩
    rw [e7, e4] at q3
    dsimp only [cond] at hv q1 q2 q3 q4
    cases q1
    have hI1 := cx_inv hI q2 q3
    have ex : ∃ x : Int32, rv = some (.int x) := by
      have ea := List.all_eq_true.mp e3 a ha
      cases a with
      | none => cases ea
      | some b =>
        cases rv with
        | none => exact hv.elim
        | some v =>
          obtain ⟨x, rfl, -⟩ := av_int (Nat.eq_of_beq_eq_true ea) hv
          exact ⟨x, rfl⟩
    obtain ⟨x, rfl⟩ := ex
    refine ⟨rfl, x, rfl, ty_162 hI1.1, wp_mono (wp_runs (Z := fun r => ∃ m, pm_run PT m 2047 (84000 - (19 + pm_max PT km)) km (0, pm_l0 (.ref 162 :: vs.map Value.int) (pm_max PT km), [], h1, 198, sl) = some r) (hm h1 hI1) (fun m r hh => ⟨m, hh⟩)) ?_⟩
    rintro ⟨rv2, h2, s2⟩ ⟨⟨p1, p2, p3, p4⟩, p5⟩
    dsimp only at p1 p2 p3 p4 p5
    cases p2
    obtain ⟨y, rfl⟩ := hA _ p1
    exact ⟨rfl, y, rfl, q4, ⟨q2, hI1⟩, p5, p3, p4⟩
theorem op_run (H : lc_Cl 198 sl bS Ln xs P) {n kx km pe : Nat} (hc : lc_twp pc n kx km pe = true) (hL : lc_L bS i L) (hb : i + 1 + n ≤ Ln) (hI : mInv h) {c : con} (hx : con_ok PT bB 198 cxF cxQ c) (ek : c.1 = kx) (ec : cx_int c n = true) {A : Option Value → Prop} (hA : ∀ v, A v → ∃ x : Int32, v = some (.int x)) (hm : ∀ h1, mInv h1 → pm_WP PT 2047 (84000 - (19 + pm_max PT km)) km (0, pm_l0 (.ref 162 :: (lc_vals xs i n 1).map Value.int) (pm_max PT km), [], h1, 198, sl) (mPost A h1 sl)) (kk : ∀ h1 h2 v w, prun sl kx km (lc_vals xs i n 1) h h1 h2 v w → P (pe, L, [], h2, 198, sl)) : P (pc, L, [], h, 198, sl) := by
  obtain ⟨f1, o1⟩ := ty_0 hI.1
  refine lc_twp_ok H hc hL hb (by decide) o1 (wp_mono (op_wp hI hx ek (by rw [lc_vals_len]; exact ec) hA hm) ?_)
  rintro ⟨rv, h1, s1⟩ ⟨q1, v, q2, q3, q4⟩
  cases q1
  refine ⟨rfl, ⟨v, q2⟩, q3, wp_mono q4 ?_⟩
  rintro ⟨rv2, h2, s2⟩ ⟨p2, w, p1, p3⟩
  cases p2
  exact ⟨⟨w, p1⟩, rfl, kk _ h2 v w p3⟩
end RUN
end MH95xdx9
section MH95xdx10
/-! both texts, how many COURTS and GIFTS, what is KEPT: the relation, by runs -/
section RLK
variable {sl n fr lo kx km k : Nat} {h h1 h2 : pm_H} {R : pm_Rs} {vs : List Int32} {v w x : Int32}
theorem two_get (q : twoWP5 sl h kx km (vs.map Value.int)) (pr : prun sl kx km vs h h1 h2 v w) : v = w ∧ LI5 h2 := by
  obtain ⟨⟨m, r1⟩, -, ⟨m2, r2⟩, -⟩ := pr
  obtain ⟨-, v', q2, -, q4⟩ := rn_det q r1
  dsimp only at q2 q4
  obtain ⟨p1, -, p3⟩ := rn_det q4 r2
  dsimp only at p1 p3
  cases q2
  cases p1
  exact ⟨rfl, p3⟩
theorem rel5_x (sx : sQK kx = true) (gx : sGK kx = true) {st : pm_St} (es : st.2.2.2.1 = h) {m f l : Nat} (r1 : pm_run PT m f l kx st = some R) (f1 : fm cxF h R.2.1) (r : REL5 h) : REL5 R.2.1 := by
  subst es
  exact ⟨REL_x f1 ⟨sf_run sQ_ok m _ _ _ _ _ sx r1, ak_run (by decide) sQ_ak m _ _ _ _ _ sx r1⟩ r.1, RG_fm (sf_run sG_ok m _ _ _ _ _ gx r1) r.2⟩
theorem rel5_m (sm : sMK km = true) (gm : sGK km = true) (i1 : mInv h1) {mx m f l : Nat} (r2 : pm_run PT m f l km (0, pm_l0 (.ref 162 :: vs.map Value.int) mx, [], h1, 198, sl) = some R) (lo : ∀ i, i < 162 → R.2.1 i = h1 i) (r : REL5 h1) : REL5 R.2.1 := ⟨REL_m lo (m_keeps sm i1 (nrS_ints vs) r2) r.1, RG_fm (sf_run sG_ok m _ _ _ _ _ gm r2) r.2⟩
theorem rel5_R (sx : sQK kx = true) (sm : sMK km = true) (gx : sGK kx = true) (gm : sGK km = true) (pr : prun sl kx km vs h h1 h2 v w) (r : REL5 h) : REL5 h2 := by
  obtain ⟨⟨m, r1⟩, ⟨f1, i1⟩, ⟨m2, r2⟩, lo, i2⟩ := pr
  exact rel5_m sm gm i1 r2 lo (rel5_x sx gx rfl r1 f1 r)
theorem rel5_Z (sx : sCK kx = true) (sm : sCK km = true) (gx : sGK kx = true) (gm : sGK km = true) (pr : prun sl kx km vs h h1 h2 v w) (c0 : cT h1 (.int 0)) (z0 : zT h2) (r : REL5 h) : REL5 h2 := by
  obtain ⟨⟨m, r1⟩, ⟨f1, i1⟩, ⟨m2, r2⟩, lo, i2⟩ := pr
  obtain ⟨⟨n0, cc, f, g, hn, hcc, ⟨x1, x2⟩, ⟨y1, y2, y3⟩, hj⟩, rg⟩ := r
  have a1 := rC_runs sx x2 r1
  have a2 := m3_runs sm (mF_hi f1 y3) r2
  have a3 := sf_run sG_ok m _ _ _ _ _ gx r1
  have a4 := sf_run sG_ok m2 _ _ _ _ _ gm r2
  dsimp only at a1 a2 a3 a4
  exact ⟨REL_0 i1 i2 hcc lo c0 a1 z0 a2, RG_fm a4 (RG_fm a3 rg)⟩
def RK (h : pm_H) : Prop := ∃ (q ch cc gc : Nat) (b c : Nat → Int32), (q < 8 ∧ k7 h (nI q)) ∧ (mF h 5 (.int (nI ch)) ∧ mF h 3 (.int (nI cc)) ∧ mF h 4 (.int (nI gc)) ∧ ch ≤ cc + gc ∧ cc ≤ 6 ∧ gc ≤ 8) ∧ (h 194 = .inl (3, 3, .inl b) ∧ h 195 = .inl (0, 3, .inl c)) ∧ ∀ i, i < 3 → (∃ m, m ≤ ch ∧ c i = nI m) ∧ kbit (nI q) (nI i) = (!decide (b i = 0) && decide (c i = nI ch))
theorem k7_fmK {u : Int32} (q : fm (sfF sK) h h1) (x : k7 h u) : k7 h1 u := by
  obtain ⟨fs, e1, e2⟩ := x
  obtain ⟨fs', a1, -, a2⟩ := q.2 0 10 fs e1
  exact ⟨fs', a1, (a2 7 rfl).trans e2⟩
theorem k7_lo {u : Int32} (q : ∀ i, i < 162 → h1 i = h i) (x : k7 h u) : k7 h1 u := by
  obtain ⟨fs, e1, e2⟩ := x
  exact ⟨fs, (q 0 (by decide)).trans e1, e2⟩
theorem RK_eq (q : ∀ i, i ≠ 197 → h1 i = h i) (r : RK h) : RK h1 := by
  have mm : ∀ g u, mF h g u → mF h1 g u := fun g u ⟨fs, e1, e2⟩ => ⟨fs, (q 162 (by decide)).trans e1, e2⟩
  obtain ⟨p, ch, cc, gc, b, c, ⟨q8, fs, k1, k2⟩, ⟨m5, m3, m4, hb⟩, ⟨c4, c5⟩, hj⟩ := r
  exact ⟨p, ch, cc, gc, b, c, ⟨q8, fs, (q 0 (by decide)).trans k1, k2⟩, ⟨mm _ _ m5, mm _ _ m3, mm _ _ m4, hb⟩, ⟨(q 194 (by decide)).trans c4, (q 195 (by decide)).trans c5⟩, hj⟩
theorem rk_x (tx : sKK kx = true) {st : pm_St} (es : st.2.2.2.1 = h) {m f l : Nat} (r1 : pm_run PT m f l kx st = some R) (f1 : fm cxF h R.2.1) (r : RK h) : RK R.2.1 := by
  subst es
  obtain ⟨q, ch, cc, gc, b, c, ⟨q8, k⟩, ⟨m5, m3, m4, hb⟩, ⟨c4, c5⟩, hj⟩ := r
  have a1 := sf_run sK_ok m _ _ _ _ _ tx r1
  exact ⟨q, ch, cc, gc, b, c, ⟨q8, k7_fmK a1 k⟩, ⟨mF_hi f1 m5, mF_hi f1 m3, mF_hi f1 m4, hb⟩, ⟨(f1.1 194 rfl).trans c4, (f1.1 195 rfl).trans c5⟩, hj⟩
theorem nr2_run (nm : nKK km = true) (i1 : mInv h1) {mx m f l : Nat} (r2 : pm_run PT m f l km (0, pm_l0 (.ref 162 :: vs.map Value.int) mx, [], h1, 198, sl) = some R) : R.2.1 194 = h1 194 ∧ R.2.1 195 = h1 195 := by
  have b2 := (nr_run nK_nr nK_sf m f l km _ R nm (Nat.le_refl _) ⟨nrL_l0 (nrS_ints2 vs), fun v hv => absurd hv (by simp), nrH_ty2 i1.1⟩ r2).2
  exact ⟨b2 194 rfl, b2 195 rfl⟩
theorem rk_m (tm : sKK km = true) (nm : nKK km = true) (i1 : mInv h1) {mx m f l : Nat} (r2 : pm_run PT m f l km (0, pm_l0 (.ref 162 :: vs.map Value.int) mx, [], h1, 198, sl) = some R) (lo : ∀ i, i < 162 → R.2.1 i = h1 i) (r : RK h1) : RK R.2.1 := by
  obtain ⟨q, ch, cc, gc, b, c, ⟨q8, k⟩, ⟨m5, m3, m4, hb⟩, ⟨c4, c5⟩, hj⟩ := r
  have b1 := sf_run sK_ok m _ _ _ _ _ tm r2
  obtain ⟨b2, b3⟩ := nr2_run nm i1 r2
  exact ⟨q, ch, cc, gc, b, c, ⟨q8, k7_lo lo k⟩, ⟨fm_mF b1 rfl m5, fm_mF b1 rfl m3, fm_mF b1 rfl m4, hb⟩, ⟨b2.trans c4, b3.trans c5⟩, hj⟩
theorem rk_R (tx : sKK kx = true) (tm : sKK km = true) (nm : nKK km = true) (pr : prun sl kx km vs h h1 h2 v w) (r : RK h) : RK h2 := by
  obtain ⟨⟨m, r1⟩, ⟨f1, i1⟩, ⟨m2, r2⟩, lo, i2⟩ := pr
  exact rk_m tm nm i1 r2 lo (rk_x tx rfl r1 f1 r)
/-! keep and again -/
theorem kf_set : ∀ q, q < 8 → ∀ i, i < 3 → nI q ||| (Int32.ofInt 1 <<< (nI i &&& 31)) = nI (q ||| (1 <<< i)) ∧ (q ||| (1 <<< i)) < 8 := by decide +kernel
theorem kf_bit : ∀ q, q < 8 → ∀ i, i < 3 → ∀ j, j < 3 → kbit (nI (q ||| (1 <<< i))) (nI j) = (decide (j = i) || kbit (nI q) (nI j)) := by decide +kernel
theorem kf_0 : ∀ i, i < 3 → kbit (nI 0) (nI i) = false := by decide +kernel
theorem nI_rg {i : Nat} (hi : i < 3) : decide (0 ≤ (nI i).toInt ∧ (nI i).toInt ≤ 2) = true := by
  have e : (nI i).toInt = (i : Int) := nI_toInt (by omega)
  rw [e]
  exact decide_eq_true (by omega)
theorem rkp_keep (pr : prun sl 125 264 [x] h h1 h2 v w) (r : RK h) : RK h2 := by
  obtain ⟨⟨m, r1⟩, ⟨f1, i1⟩, ⟨m2, r2⟩, lo, i2⟩ := pr
  obtain ⟨q, ch, cc, gc, b, c, ⟨q8, k⟩, ⟨m5, m3, m4, hb⟩, ⟨c4, c5⟩, hj⟩ := r
  have kx := kx_run k r1
  dsimp only at kx
  have g5 := mF_hi f1 m5
  have g3 := mF_hi f1 m3
  have g4 := mF_hi f1 m4
  have hB := (f1.1 194 rfl).trans c4
  have hC := (f1.1 195 rfl).trans c5
  have b1 := sf_run sK_ok m2 _ _ _ _ _ rfl r2
  dsimp only at b1
  obtain ⟨hh, hq⟩ := id i1
  obtain ⟨x0, h0, -⟩ := ty_fld hh (g := 0) rfl
  have h12 := ty_ref hh (g := 12) (p := 170) rfl
  have h52 := ty_ref hh (g := 52) (p := 194) rfl
  have h53 := ty_ref hh (g := 53) (p := 195) rfl
  have h54 := ty_ref hh (g := 54) (p := 196) rfl
  obtain ⟨f, hN, -⟩ := ty_arrE hh (i := 170) (by decide) rfl
  obtain ⟨-, -, -, ⟨g, hK, -⟩⟩ := id hq
  have d := rn_dt (F := 10) (Lo := 1000) (hd_keep (fr := 10) (lo := 1000) (sl := sl) x h0 g5 h52 h53 h54 h12 hN hK hB hC (by omega) (by omega)) r2
  rcases d with ⟨e, d⟩ | ⟨i, gk, hi, rfl, d, -⟩
  · have d2 : h2 = mset h1 0 (.int 0) := congrArg (fun z => z.2.1) d
    rw [in2_b] at e
    rw [e] at kx
    have kx : h1 = h := kx
    refine ⟨q, ch, cc, gc, b, c, ⟨q8, k7_lo lo (by rw [kx]; exact k)⟩, ⟨fm_mF b1 rfl g5, fm_mF b1 rfl g3, fm_mF b1 rfl g4, hb⟩, ⟨?_, ?_⟩, hj⟩
    · rw [d2, mset_ne (by decide)]; exact hB
    · rw [d2, mset_ne (by decide)]; exact hC
  · have d2 : h2 = aset (aset (zset (mset h1 0 (.int 0)) 194 3 (upd b i 1)) 195 3 (upd c i (nI ch))) 196 288 gk := congrArg (fun z => z.2.1) d
    rw [nI_rg hi] at kx
    have kx : k7 h1 (nI q ||| (Int32.ofInt 1 <<< (nI i &&& 31))) := kx
    rw [(kf_set q q8 i hi).1] at kx
    refine ⟨q ||| (1 <<< i), ch, cc, gc, upd b i 1, upd c i (nI ch), ⟨(kf_set q q8 i hi).2, k7_lo lo kx⟩, ⟨fm_mF b1 rfl g5, fm_mF b1 rfl g3, fm_mF b1 rfl g4, hb⟩, ⟨?_, ?_⟩, fun j hj3 => ?_⟩
    · rw [d2, aset_nei (by decide), aset_nei (by decide), zset_self]
    · rw [d2, aset_nei (by decide), aset_self]
    · obtain ⟨⟨m0, hm0, em0⟩, hbit⟩ := hj j hj3
      rw [kf_bit q q8 i hi j hj3]
      by_cases z : j = i
      · have u1 : upd b i 1 j = 1 := by unfold upd; rw [if_pos z]
        have u2 : upd c i (nI ch) j = nI ch := by unfold upd; rw [if_pos z]
        rw [u1, u2, decide_eq_true z, decide_eq_true (rfl : nI ch = nI ch)]
        exact ⟨⟨ch, Nat.le_refl _, rfl⟩, by rw [Bool.true_or]; decide⟩
      · have u1 : upd b i 1 j = b j := by unfold upd; rw [if_neg z]
        have u2 : upd c i (nI ch) j = c j := by unfold upd; rw [if_neg z]
        rw [u1, u2, decide_eq_false z, Bool.false_or]
        exact ⟨⟨m0, hm0, em0⟩, hbit⟩
theorem ag_both (pr : prun sl 126 265 [x] h h1 h2 v w) (r : RK h) : v = w ∧ RK h2 := by
  obtain ⟨⟨m, r1⟩, ⟨f1, i1⟩, ⟨m2, r2⟩, lo, i2⟩ := pr
  obtain ⟨q, ch, cc, gc, b, c, ⟨q8, k⟩, ⟨m5, m3, m4, hb⟩, ⟨c4, c5⟩, hj⟩ := r
  obtain ⟨ex, kx⟩ := ka_run k r1
  dsimp only at ex kx
  have g5 := mF_hi f1 m5
  have g3 := mF_hi f1 m3
  have g4 := mF_hi f1 m4
  have hB := (f1.1 194 rfl).trans c4
  have hC := (f1.1 195 rfl).trans c5
  have b1 := sf_run sK_ok m2 _ _ _ _ _ rfl r2
  dsimp only at b1
  obtain ⟨hh, hq⟩ := id i1
  obtain ⟨x0, h0, -⟩ := ty_fld hh (g := 0) rfl
  obtain ⟨x27, h27, -⟩ := ty_fld hh (g := 27) rfl
  have h12 := ty_ref hh (g := 12) (p := 170) rfl
  have h52 := ty_ref hh (g := 52) (p := 194) rfl
  have h53 := ty_ref hh (g := 53) (p := 195) rfl
  have h54 := ty_ref hh (g := 54) (p := 196) rfl
  obtain ⟨g, hN, -⟩ := ty_arrE hh (i := 170) (by decide) rfl
  obtain ⟨-, -, -, ⟨f, hK, -⟩⟩ := id hq
  obtain ⟨d1, d2, d3⟩ := rn_dt (F := 10) (Lo := 1000) (hd_agx (fr := 10) (lo := 1000) (sl := sl) x h0 g5 h27 h52 h53 h54 h12 hN hK hB hC (by omega) (by omega)) r2
  dsimp only at d1 d2 d3
  refine ⟨?_, q, ch, cc, gc, b, c, ⟨q8, k7_lo lo kx⟩, ⟨fm_mF b1 rfl g5, fm_mF b1 rfl g3, fm_mF b1 rfl g4, hb⟩, ⟨d2.trans hB, d3.trans hC⟩, hj⟩
  have eb : kbit (nI q) x = agB b c (nI ch) x := by
    cases hin : in_b x.toInt64 0 2 with
    | false =>
      have e2 := hin
      rw [in2_b] at e2
      unfold agB kbit
      rw [hin, e2, Bool.false_and, Bool.false_and]
    | true =>
      obtain ⟨i, hi, rfl⟩ := in3 x hin
      rw [(hj i hi).2]
      unfold agB
      rw [hin, Bool.true_and, nI_clamp (by omega)]
  rw [eb] at ex
  have e1 : v = cond (agB b c (nI ch) x) 1 0 := by
    have := Option.some.inj ex
    cases this
    rfl
  have e2 : w = cond (agB b c (nI ch) x) 1 0 := by
    have := Option.some.inj d1
    cases this
    rfl
  rw [e1, e2]
/-! courts and gifts -/
theorem rk_new {q ch cc gc cc' gc' : Nat} {b c : Nat → Int32} {u : Int32} (q8 : q < 8) (hj : ∀ i, i < 3 → (∃ m, m ≤ ch ∧ c i = nI m) ∧ kbit (nI q) (nI i) = (!decide (b i = 0) && decide (c i = nI ch))) (hb : ch ≤ cc + gc ∧ cc ≤ 6 ∧ gc ≤ 8) (hN : pm_cmp .le u 0 = false → cc + gc + 1 ≤ cc' + gc') (hM : cc + gc ≤ cc' + gc') (hb' : cc' ≤ 6 ∧ gc' ≤ 8) (kx : k7 h2 (cond (pm_cmp .le u 0) (nI q) 0)) (m5 : mF h2 5 (.int (nI ch + cond (pm_cmp .le u 0) 0 1))) (m3 : mF h2 3 (.int (nI cc'))) (m4 : mF h2 4 (.int (nI gc'))) (c4 : h2 194 = .inl (3, 3, .inl b)) (c5 : h2 195 = .inl (0, 3, .inl c)) : RK h2 := by
  cases z : pm_cmp .le u 0 with
  | true =>
    rw [z] at kx m5
    have m5 : mF h2 5 (.int (nI ch + 0)) := m5
    rw [show nI ch + 0 = nI ch from Int32.add_zero _] at m5
    exact ⟨q, ch, cc', gc', b, c, ⟨q8, kx⟩, ⟨m5, m3, m4, by omega, hb'.1, hb'.2⟩, ⟨c4, c5⟩, hj⟩
  | false =>
    rw [z] at kx m5
    have kx : k7 h2 (nI 0) := kx
    have m5 : mF h2 5 (.int (nI ch + 1)) := m5
    rw [nI_1] at m5
    have := hN z
    refine ⟨0, ch + 1, cc', gc', b, c, ⟨by decide, kx⟩, ⟨m5, m3, m4, by omega, hb'.1, hb'.2⟩, ⟨c4, c5⟩, fun i hi => ?_⟩
    obtain ⟨⟨m, hm, em⟩, -⟩ := hj i hi
    refine ⟨⟨m, by omega, em⟩, ?_⟩
    have ne : ¬ nI m = nI (ch + 1) := by
      intro e
      have := congrArg Int32.toInt e
      rw [nI_toInt (by omega), nI_toInt (by omega)] at this
      omega
    rw [kf_0 i hi, em, decide_eq_false ne, Bool.and_false]
theorem pos_N {A : Int32} {N : Nat} (hA : A = nI N ∨ pm_cmp .le A 0 = true) (z : pm_cmp .le A 0 = false) : 1 ≤ N := by
  rcases hA with rfl | e
  · rcases Nat.eq_zero_or_pos N with rfl | p
    · exact absurd (show pm_cmp .le (nI 0) 0 = true by decide) (by rw [z]; decide)
    · exact p
  · rw [e] at z
    cases z
theorem mF_ij {g a b : Nat} (ha : a < 100) (hb : b < 100) (m : mF h g (.int (nI a))) (y : mF h g (.int (nI b))) : a = b := by
  obtain ⟨fs, a1, a2⟩ := m
  obtain ⟨fs', a1', a2'⟩ := y
  rw [a1] at a1'
  cases a1'
  rw [a2] at a2'
  have e := congrArg Int32.toInt (Value.int.inj (Option.some.inj a2'))
  rw [nI_toInt (by omega), nI_toInt (by omega)] at e
  omega
/-- how many courts there are behind courts, and what it answered -/
theorem co_cnt {cc : Nat} (hcc : cc ≤ 6) (pr : prun sl 88 188 [] h h1 h2 v w) (hI : LI5 h) (m3 : mF h 3 (.int (nI cc))) : v = w ∧ ∃ N, cc + N ≤ 6 ∧ mF h2 3 (.int (nI (cc + N))) ∧ (w = nI N ∨ pm_cmp .le w 0 = true ∧ N = 0) := by
  have hv := (two_get (vs := []) (co_two5 hI) pr).1
  refine ⟨hv, ?_⟩
  obtain ⟨-, ⟨f1, i1⟩, ⟨m2, r2⟩, -⟩ := pr
  obtain ⟨hI0, ⟨n0, cc0, f, g, hn, hc, ⟨x1, x2⟩, ⟨y1, y2, y3⟩, hjj⟩, -⟩ := hI
  have ecc := mF_ij (by omega) (by omega) y3 m3
  subst ecc
  obtain ⟨eA, eN⟩ := cm_both hn hc hjj
  obtain ⟨w0, hw⟩ := ty_m0 i1.1
  obtain ⟨w16, h16⟩ := ty_mi i1.1 16 (by decide +kernel) (by decide +kernel)
  obtain ⟨w17, h17⟩ := ty_mi i1.1 17 (by decide +kernel) (by decide +kernel)
  obtain ⟨w18, h18⟩ := ty_mi i1.1 18 (by decide +kernel) (by decide +kernel)
  obtain ⟨w20, h20⟩ := ty_mi i1.1 20 (by decide +kernel) (by decide +kernel)
  obtain ⟨fr0, hB⟩ := ty_173 i1.1
  obtain ⟨s1, s2⟩ := cm_run hn hc hw (mF_hi f1 y1) h16 h17 h18 h20 (mF_hi f1 y3) (ty_m14 i1.1) ((f1.1 172 rfl).trans y2) (ty_m19 i1.1) hB r2
  dsimp only at s1 s2
  have s1 := Value.int.inj (Option.some.inj s1)
  rw [eA] at s1
  rw [s1]
  refine ⟨cmN g n0 cc0, ?_, s2, ?_⟩
  · rcases eN with ⟨-, e⟩ | ⟨-, e⟩
    · exact e
    · omega
  · rcases eN with ⟨e, -⟩ | e
    · exact Or.inl e
    · exact Or.inr e
theorem gf_cnt {gc : Nat} (hgc : gc ≤ 8) (pr : prun sl 89 192 [] h h1 h2 v w) (hI : LI5 h) (m4 : mF h 4 (.int (nI gc))) : v = w ∧ ∃ N, gc + N ≤ 8 ∧ mF h2 4 (.int (nI (gc + N))) ∧ (w = nI N ∨ pm_cmp .le w 0 = true ∧ N = 0) := by
  have hv := (two_get (vs := []) (gf_two5 hI) pr).1
  refine ⟨hv, ?_⟩
  obtain ⟨-, ⟨f1, i1⟩, ⟨m2, r2⟩, -⟩ := pr
  obtain ⟨hI0, ⟨n0, cc0, f, g, hn, hc, ⟨x1, x2⟩, ⟨y1, y2, y3⟩, hjj⟩, gc0, hg, z1, z2⟩ := hI
  have egc := mF_ij (by omega) (by omega) z2 m4
  subst egc
  obtain ⟨eA, eN⟩ := gm_both (cc := cc0) hn hg hjj
  obtain ⟨w0, hw⟩ := ty_m0 i1.1
  obtain ⟨w16, h16⟩ := ty_mi i1.1 16 (by decide +kernel) (by decide +kernel)
  obtain ⟨w17, h17⟩ := ty_mi i1.1 17 (by decide +kernel) (by decide +kernel)
  obtain ⟨w18, h18⟩ := ty_mi i1.1 18 (by decide +kernel) (by decide +kernel)
  obtain ⟨w20, h20⟩ := ty_mi i1.1 20 (by decide +kernel) (by decide +kernel)
  obtain ⟨fr0, hB⟩ := ty_173 i1.1
  obtain ⟨s1, s2⟩ := gm_run hn hg hw (mF_hi f1 y1) h16 h17 h18 h20 (mF_hi f1 y3) (mF_hi f1 z2) (ty_m14 i1.1) ((f1.1 172 rfl).trans y2) (ty_m19 i1.1) hB r2
  dsimp only at s1 s2
  have s1 := Value.int.inj (Option.some.inj s1)
  rw [eA] at s1
  rw [s1]
  refine ⟨gmN g n0 cc0 gc0, ?_, s2, ?_⟩
  · rcases eN with ⟨-, e⟩ | ⟨-, e⟩
    · exact e
    · omega
  · rcases eN with ⟨e, -⟩ | e
    · exact Or.inl e
    · exact Or.inr e
theorem rk_courts (pr : prun sl 88 188 [] h h1 h2 v w) (hI : LI5 h) (r : RK h) : RK h2 := by
  obtain ⟨q, ch, cc, gc, b, c, ⟨q8, k⟩, ⟨m5, m3, m4, hb⟩, ⟨c4, c5⟩, hj⟩ := r
  obtain ⟨hv, N, hN, m3', hA⟩ := co_cnt hb.2.1 pr hI m3
  obtain ⟨⟨m, r1⟩, ⟨f1, i1⟩, ⟨m2, r2⟩, lo, i2⟩ := pr
  obtain ⟨u, eu, kx⟩ := xk_88 k r1
  dsimp only at eu kx
  cases eu
  obtain ⟨w20, h20⟩ := ty_mi i1.1 20 (by decide +kernel) (by decide +kernel)
  obtain ⟨u2, eu2, k5⟩ := ck_188 (mF_hi f1 m5) h20 r2
  dsimp only at eu2 k5
  cases eu2
  subst hv
  obtain ⟨b2, b3⟩ := nr2_run (vs := []) rfl i1 r2
  have b4 := fm_mF (sf_run sG_ok m2 _ _ _ _ _ rfl r2) rfl (mF_hi f1 m4)
  dsimp only at b2 b3 b4
  refine rk_new q8 hj hb (cc' := cc + N) (gc' := gc) (fun z => ?_) (by omega) ⟨hN, hb.2.2⟩ (k7_lo lo kx) k5 m3' b4 (b2.trans ((f1.1 194 rfl).trans c4)) (b3.trans ((f1.1 195 rfl).trans c5))
  have := pos_N (N := N) (hA.elim (fun e => Or.inl e) (fun e => Or.inr e.1)) z
  omega
theorem rk_gifts (pr : prun sl 89 192 [] h h1 h2 v w) (hI : LI5 h) (r : RK h) : RK h2 := by
  obtain ⟨q, ch, cc, gc, b, c, ⟨q8, k⟩, ⟨m5, m3, m4, hb⟩, ⟨c4, c5⟩, hj⟩ := r
  obtain ⟨hv, N, hN, m4', hA⟩ := gf_cnt hb.2.2 pr hI m4
  obtain ⟨⟨m, r1⟩, ⟨f1, i1⟩, ⟨m2, r2⟩, lo, i2⟩ := pr
  obtain ⟨u, eu, kx⟩ := xk_89 k r1
  dsimp only at eu kx
  cases eu
  obtain ⟨w20, h20⟩ := ty_mi i1.1 20 (by decide +kernel) (by decide +kernel)
  obtain ⟨u2, eu2, k5⟩ := ck_192 (mF_hi f1 m5) h20 r2
  dsimp only at eu2 k5
  cases eu2
  subst hv
  obtain ⟨b2, b3⟩ := nr2_run (vs := []) rfl i1 r2
  have b4 := m3_runs (show sCK 192 = true from rfl) (mF_hi f1 m3) r2
  dsimp only at b2 b3 b4
  refine rk_new q8 hj hb (cc' := cc) (gc' := gc + N) (fun z => ?_) (by omega) ⟨hb.2.1, hN⟩ (k7_lo lo kx) k5 b4 m4' (b2.trans ((f1.1 194 rfl).trans c4)) (b3.trans ((f1.1 195 rfl).trans c5))
  have := pos_N (N := N) (hA.elim (fun e => Or.inl e) (fun e => Or.inr e.1)) z
  omega
end RLK
/-! the relation of p42 and every call -/
section RLT
variable {sl kx km : Nat} {h h1 h2 : pm_H} {R : pm_Rs} {vs : List Int32} {v w x : Int32}
def REL6 (h : pm_H) : Prop := REL5 h ∧ RK h
def LI6 (h : pm_H) : Prop := mInv h ∧ REL6 h
theorem LI_5 (hI : LI6 h) : LI5 h := ⟨hI.1, hI.2.1⟩
theorem twX_LI6 (hI : LI6 h) (q : twX h h1) : LI6 h1 := by
  have h5 := twX_LI5 (LI_5 hI) q
  exact ⟨h5.1, h5.2, RK_eq q.1 hI.2.2⟩
theorem rel_w6 (sm : sMK km = true) (gm : sGK km = true) (tm : sKK km = true) (nm : nKK km = true) (i1 : mInv h1) (vs : List Int32) {mx m f l : Nat} (r2 : pm_run PT m f l km (0, pm_l0 (.ref 162 :: vs.map Value.int) mx, [], h1, 198, sl) = some R) (lo : ∀ i, i < 162 → R.2.1 i = h1 i) (r : REL6 h1) : REL6 R.2.1 := ⟨rel5_m sm gm i1 r2 lo r.1, rk_m tm nm i1 r2 lo r.2⟩
theorem rel_R6 (sx : sQK kx = true) (sm : sMK km = true) (gx : sGK kx = true) (gm : sGK km = true) (tx : sKK kx = true) (tm : sKK km = true) (nm : nKK km = true) (pr : prun sl kx km vs h h1 h2 v w) (hI : LI6 h) : REL6 h2 := ⟨rel5_R sx sm gx gm pr hI.2.1, rk_R tx tm nm pr hI.2.2⟩
theorem LI5_cT (hI : LI5 h) : ∃ c : Nat, cT h (.int (nI c)) := by
  obtain ⟨-, ⟨n0, cc, f, g, -, -, ⟨x1, -⟩, -⟩, -⟩ := hI
  exact ⟨n0, pT_cT x1⟩
theorem rel_sign6 (pr : prun sl 86 178 [x] h h1 h2 v w) (hI : LI6 h) : REL6 h2 := ⟨(two_get (vs := [x]) (sg_two5 (LI_5 hI) x) pr).2.2, rk_R rfl rfl rfl pr hI.2.2⟩
theorem rel_end6 (pr : prun sl 87 179 [x] h h1 h2 v w) (hI : LI6 h) : REL6 h2 := ⟨(two_get (vs := [x]) (en_two5 (LI_5 hI) x) pr).2.2, rk_R rfl rfl rfl pr hI.2.2⟩
theorem rel_courts6 (pr : prun sl 88 188 [] h h1 h2 v w) (hI : LI6 h) : REL6 h2 := ⟨(two_get (vs := []) (co_two5 (LI_5 hI)) pr).2.2, rk_courts pr (LI_5 hI) hI.2.2⟩
theorem rel_gifts6 (pr : prun sl 89 192 [] h h1 h2 v w) (hI : LI6 h) : REL6 h2 := ⟨(two_get (vs := []) (gf_two5 (LI_5 hI)) pr).2.2, rk_gifts pr (LI_5 hI) hI.2.2⟩
theorem rel_rule6 (pr : prun sl 90 198 [] h h1 h2 v w) (hI : LI6 h) : REL6 h2 := by
  refine ⟨?_, rk_R rfl rfl rfl pr hI.2.2⟩
  obtain ⟨c, hc⟩ := LI5_cT (LI_5 hI)
  obtain ⟨⟨m, r1⟩, ⟨f1, i1⟩, ⟨m2, r2⟩, -⟩ := id pr
  exact rel5_Z rfl rfl rfl rfl pr (zx_rule (ty_x0 hI.1.1) (ty_x9 hI.1.1).choose_spec hc r1) (z_rule (ty_m0 i1.1).choose_spec (ty_m15 i1.1).choose_spec r2) hI.2.1
theorem rel_year6 (pr : prun sl 100 228 [] h h1 h2 v w) (hI : LI6 h) : REL6 h2 := by
  refine ⟨?_, rk_R rfl rfl rfl pr hI.2.2⟩
  obtain ⟨⟨m, r1⟩, ⟨f1, i1⟩, ⟨m2, r2⟩, -⟩ := id pr
  exact rel5_Z rfl rfl rfl rfl pr (zx_year hI.1 r1) (z_year (ty_m0 i1.1).choose_spec (ty_m15 i1.1).choose_spec r2) hI.2.1
theorem rel_law6 (pr : prun sl 122 258 [] h h1 h2 v w) (hI : LI6 h) : REL6 h2 := by
  refine ⟨?_, rk_R rfl rfl rfl pr hI.2.2⟩
  obtain ⟨c, hc⟩ := LI5_cT (LI_5 hI)
  obtain ⟨⟨m, r1⟩, ⟨f1, i1⟩, ⟨m2, r2⟩, -⟩ := id pr
  exact rel5_Z rfl rfl rfl rfl pr (zx_law (ty_x0 hI.1.1) (ty_x9 hI.1.1).choose_spec hc r1) (z_law (ty_m0 i1.1).choose_spec (ty_m15 i1.1).choose_spec r2) hI.2.1
theorem rel_keep6 (pr : prun sl 125 264 [x] h h1 h2 v w) (hI : LI6 h) : REL6 h2 := ⟨rel5_R rfl rfl rfl rfl pr hI.2.1, rkp_keep pr hI.2.2⟩
theorem rel_again6 (pr : prun sl 126 265 [x] h h1 h2 v w) (hI : LI6 h) : v = w ∧ REL6 h2 := ⟨(ag_both pr hI.2.2).1, rel5_R rfl rfl rfl rfl pr hI.2.1, (ag_both pr hI.2.2).2⟩
end RLT
end MH95xdx10
