/-! the class's readCourts -/
section CXL
variable {n fr lo sl n0 cc k pc p l ln : Nat} {h h' : pm_H} {R : pm_Rs} {f : Nat → Int32}
def sQ (ci f : Nat) : Bool := (Nat.beq ci 10 && (Nat.beq f 0 || Nat.beq f 2)) || ((Nat.beq ci 8 && Nat.ble f 1) || (Nat.beq ci 3 && Nat.beq f 0))
def sQX : List Nat := [0, 6, 15, 22, 45, 52, 57, 72, 78, 79, 82, 85, 86, 87, 88, 89, 90, 91, 92, 93, 100, 122, 128, 161]
def sQK : Nat → Bool := sf_X sQX
theorem sQ_all : ((List.range 271).filter (fun k => !(sQX.any (fun x => Nat.beq x k)))).all (fun k => sf_b sQ sQK k && ak_b 1 sQK k) = true := by decide +kernel
theorem sQ_ok : sf_ok sQ sQK := sf_of sf_X_in (List.all_eq_true.mpr (fun k hk => ((Bool.and_eq_true _ _).mp (List.all_eq_true.mp sQ_all k hk)).1))
theorem sQ_ak : ak_ok 1 sQK := ak_of sf_X_in (List.all_eq_true.mpr (fun k hk => ((Bool.and_eq_true _ _).mp (List.all_eq_true.mp sQ_all k hk)).2))
theorem pX_fm (q : fm (sfF sQ) h h') (a : akp 1 h h') (x : pX h n0 cc f) : pX h' n0 cc f := by
  obtain ⟨⟨fs, a1, a2, a3⟩, ⟨gs, b1, b2, b3⟩, c1, rs, d1, d2⟩ := x
  obtain ⟨fs', e1, -, e2⟩ := q.2 0 10 fs a1
  obtain ⟨gs', g1, -, g2⟩ := q.2 1 8 gs b1
  obtain ⟨rs', i1, -, i2⟩ := q.2 5 3 rs d1
  exact ⟨⟨fs', e1, (e2 0 rfl).trans a2, (e2 2 rfl).trans a3⟩, ⟨gs', g1, (g2 0 rfl).trans b2, (g2 1 rfl).trans b3⟩, a 2 _ c1, rs', i1, (i2 0 rfl).trans d2⟩
theorem dgA_no (z : dg f p (min n0 l) = false) : dgA f n0 p l = Int32.ofInt (-1) := by
  unfold dgA
  rw [z]
  rfl
theorem dgA_yes (z : dg f p (min n0 l) = true) : dgA f n0 p l = f p - 48 := by
  unfold dgA
  rw [z]
  rfl
theorem xr_m1 {x3 x4 x5 : Option Value} (hh : pm_run PT n fr lo 129 (79, [some (.ref 0), some (.int (nI p)), some (.int (nI ln)), x3, x4, x5], [], h, 198, sl) = some R) : R = (some (.int (Int32.ofInt (-1) - nI p)), h, 198, sl) := by
  obtain ⟨n, hh⟩ := rn_i rfl rfl rfl rfl hh
  obtain ⟨n, hh⟩ := rn_i rfl rfl rfl rfl hh
  obtain ⟨n, hh⟩ := rn_i rfl rfl rfl rfl hh
  exact (rn_ret rfl (Or.inl rfl) hh).2
/-- digits behind the first -/
theorem xr_dig (hn : n0 ≤ 80) {ct : Int32} : ∀ (k i p n : Nat) (h : pm_H) (x5 : Option Value), i + k = 6 → 0 < i → p < 900 → pX h n0 cc f → pm_run PT n fr lo 129 (45, [some (.ref 0), some (.int (nI p)), some (.int (nI ln)), some (.int ct), some (.int (nI i)), x5], [], h, 198, sl) = some R → cond (rcD f (min n0 41) k p).1 (∃ m h' y5, pX h' n0 cc f ∧ pm_run PT m fr lo 129 (104, [some (.ref 0), some (.int (nI (rcD f (min n0 41) k p).2)), some (.int (nI ln)), some (.int ct), some (.int (nI 6)), y5], [], h', 198, sl) = some R) (R.1 = some (.int (Int32.ofInt (-1) - nI (rcD f (min n0 41) k p).2))) := by
  intro k
  induction k with
  | zero =>
    intro i p n h x5 hi h0 hp x hh
    have hi : i = 6 := by omega
    subst hi
    obtain ⟨n, hh⟩ := rn_i rfl rfl rfl rfl hh
    obtain ⟨n, hh⟩ := rn_i rfl rfl rfl rfl hh
    obtain ⟨n, hh⟩ := rn_icmp (cc := .ge) (off := 55) (t := 104) rfl rfl hh
    exact ⟨n, h, x5, x, hh⟩
  | succ k ih =>
    intro i p n h x5 hi h0 hp x hh
    obtain ⟨⟨fs, a1, a2, a3⟩, -⟩ := id x
    obtain ⟨n, hh⟩ := rn_i rfl rfl rfl rfl hh
    obtain ⟨n, hh⟩ := rn_i rfl rfl rfl rfl hh
    obtain ⟨n, hh⟩ := rn_icmp (cc := .ge) (off := 55) (t := 104) rfl rfl hh
    have ec : pm_cmp .ge (nI i) (Int8.ofInt 6).toInt32 = false := by
      have := hI_ge (a := i) (b := 6) (by omega) (by omega)
      rw [decide_eq_false (by omega)] at this
      exact this
    rw [ec] at hh
    obtain ⟨n, hh⟩ := rn_i rfl rfl rfl rfl hh
    obtain ⟨n, hh⟩ := rn_gfo (g := 0) rfl rfl (by decide) a1 a2 hh
    obtain ⟨n, hh⟩ := rn_i rfl rfl rfl rfl hh
    obtain ⟨n, hh⟩ := rn_i rfl rfl rfl rfl hh
    obtain ⟨n, fr', lo', r1, hr1, hh⟩ := rn_call (w := 0) (t := 81) rfl rfl hh
    have er := dgA_run (l := 41) hn (by decide) (by omega) x hr1
    subst er
    have hh : pm_run PT n fr lo 129 (62, [some (.ref 0), some (.int (nI p)), some (.int (nI ln)), some (.int ct), some (.int (nI i)), x5], [.int (dgA f n0 p 41)], h, 198, sl) = some R := hh
    obtain ⟨n, hh⟩ := rn_i rfl rfl rfl rfl hh
    obtain ⟨n, hh⟩ := rn_i rfl rfl rfl rfl hh
    obtain ⟨n, hh⟩ := rn_if (cc := .lt) (off := 13) (t := 79) rfl rfl hh
    unfold rcD
    cases hd : dg f p (min n0 41) with
    | false =>
      rw [dgA_no hd, show pm_cmp .lt (Int32.ofInt (-1)) 0 = true by decide] at hh
      rw [xr_m1 hh]
      rfl
    | true =>
      obtain ⟨v1, v2⟩ := dg_val hd
      rw [dgA_yes hd, lt0_val v1] at hh
      have hh : pm_run PT n fr lo 129 (69, [some (.ref 0), some (.int (nI p)), some (.int (nI ln)), some (.int ct), some (.int (nI i)), some (.int (f p - 48))], [], h, 198, sl) = some R := hh
      obtain ⟨n, hh⟩ := rn_i rfl rfl rfl rfl hh
      obtain ⟨n, hh⟩ := rn_if (cc := .ne) (off := 12) (t := 83) rfl rfl hh
      have en : pm_cmp .ne (nI i) 0 = true := by
        have := hI_ne (a := i) (b := 0) (by omega) (by omega)
        rw [decide_eq_true (by omega)] at this
        exact this
      rw [en] at hh
      have hh : pm_run PT n fr lo 129 (83, [some (.ref 0), some (.int (nI p)), some (.int (nI ln)), some (.int ct), some (.int (nI i)), some (.int (f p - 48))], [], h, 198, sl) = some R := hh
      obtain ⟨n, hh⟩ := rn_i rfl rfl rfl rfl hh
      obtain ⟨n, hh⟩ := rn_gfo (g := 2) rfl rfl (by decide) a1 a3 hh
      obtain ⟨n, hh⟩ := rn_i rfl rfl rfl rfl hh
      obtain ⟨n, hh⟩ := rn_i rfl rfl rfl rfl hh
      obtain ⟨n, hh⟩ := rn_i rfl rfl rfl rfl hh
      obtain ⟨n, fr', lo', r1, hr1, hh⟩ := rn_call (w := 0) (t := 26) rfl rfl hh
      have hf := sf_run sQ_ok _ _ _ 26 _ r1 rfl hr1
      have hk := ak_run (by decide) sQ_ak _ _ _ 26 _ r1 rfl hr1
      have hz := sz_run sQ_ok _ _ _ 26 _ r1 rfl hr1
      have hv := vd_run rfl hr1
      obtain ⟨rv, h1, s1⟩ := r1
      dsimp only at hf hk hz hv
      subst hz
      subst hv
      have x1 := pX_fm hf hk x
      have hh : pm_run PT n fr lo 129 (95, [some (.ref 0), some (.int (nI p)), some (.int (nI ln)), some (.int ct), some (.int (nI i)), some (.int (f p - 48))], [], h1, 198, sl) = some R := hh
      obtain ⟨n, hh⟩ := rn_i rfl rfl rfl rfl hh
      obtain ⟨n, hh⟩ := rn_i rfl rfl rfl rfl hh
      obtain ⟨n, hh⟩ := rn_i rfl rfl rfl rfl hh
      have e1 : nI p + Int32.ofInt 1 = nI (p + 1) := (Int32.ofNat_add p 1).symm
      have e2 : nI i + Int32.ofInt 1 = nI (i + 1) := (Int32.ofNat_add i 1).symm
      have hh : pm_run PT n fr lo 129 (45, [some (.ref 0), some (.int (nI p + Int32.ofInt 1)), some (.int (nI ln)), some (.int ct), some (.int (nI i + Int32.ofInt 1)), some (.int (f p - 48))], [], h1, 198, sl) = some R := hh
      rw [e1, e2] at hh
      have hlt := dg_lt hd
      exact ih (i + 1) (p + 1) n h1 _ (by omega) (by omega) (by omega) x1 hh
end CXL
