/-! sign, both sides -/
section SGM
variable {n fr lo sl n0 k pc : Nat} {h h' : pm_H} {R : pm_Rs} {f g : Nat → Int32} {L : pm_L} {r : List Value} {v s : Int32}
def f4 (f : Nat → Int32) (n0 : Nat) (a b c d : Int32) : Nat → Int32 := upd (upd (upd (upd f n0 a) (n0 + 1) b) (n0 + 2) c) (n0 + 3) d
def s1P (ci f : Nat) : Bool := Nat.beq ci 10
def s1K (k : Nat) : Bool := Nat.beq k 79
theorem s1_ok : sf_ok s1P s1K := sf_of (N := [79]) (fun k h => by rw [Nat.eq_of_beq_eq_true h]; decide) (by decide +kernel)
theorem sf1_run {st : pm_St} (hh : pm_run PT n fr lo 79 st = some R) : fm (sfF s1P) st.2.2.2.1 R.2.1 := sf_run s1_ok n fr lo 79 st R rfl hh
theorem sgx_run (hn : n0 ≤ 80) (h0 : x0 h) (x : pT h n0 f) (hh : pm_run PT n fr lo 86 (0, pm_l0 [.ref 0, .int v] 2, [], h, 198, sl) = some R) : cond (decide (n0 ≤ 76)) (R.1 = some (.int (nI (n0 + 4))) ∧ pT R.2.1 (n0 + 4) (f4 f n0 (chX v 24) (chX v 16) (chX v 8) (chX v 0))) (R.1 = some (.int (Int32.ofInt (-1))) ∧ R.2.1 = h) := by
  obtain ⟨fs, a1, a2⟩ := h0
  obtain ⟨n, hh⟩ := rn_i rfl rfl rfl rfl hh
  obtain ⟨n, hh⟩ := rn_gfo (g := 0) rfl rfl (by decide) a1 a2 hh
  obtain ⟨n, hh⟩ := rn_i rfl rfl rfl rfl hh
  obtain ⟨n, fr', lo', r1, hr1, hh⟩ := rn_call (w := 0) (t := 79) rfl rfl hh
  have hx := ad_run hn x hr1
  by_cases z : n0 ≤ 76
  · rw [decide_eq_true z] at hx ⊢
    obtain ⟨e1, e2, x'⟩ := hx
    have hf2 := sf1_run hr1
    obtain ⟨rv, h1, s1⟩ := r1
    dsimp only at e1 e2 x' hf2
    subst e1
    subst e2
    obtain ⟨fs', b1, -, b2⟩ := hf2.2 0 10 fs a1
    obtain ⟨⟨gs, g1, g2, g3⟩, c1⟩ := id x'
    have hh : pm_run PT n fr lo 86 (8, [some (.ref 0), some (.int v)], [.int 1], h1, 198, sl) = some R := hh
    obtain ⟨n, hh⟩ := rn_if (cc := .eq) (off := 13) (t := 21) rfl rfl hh
    have hh : pm_run PT n fr lo 86 (11, [some (.ref 0), some (.int v)], [], h1, 198, sl) = some R := hh
    obtain ⟨n, hh⟩ := rn_i rfl rfl rfl rfl hh
    obtain ⟨n, hh⟩ := rn_gfo (g := 0) rfl rfl (by decide) b1 ((b2 0 rfl).trans a2) hh
    obtain ⟨n, hh⟩ := rn_gfo (g := 1) rfl rfl (by decide) g1 g3 hh
    obtain ⟨n, hh⟩ := rn_i rfl rfl rfl rfl hh
    have e := (rn_ret rfl (Or.inl rfl) hh).2
    subst e
    exact ⟨rfl, x'⟩
  · rw [decide_eq_false z] at hx ⊢
    subst hx
    have hh : pm_run PT n fr lo 86 (8, [some (.ref 0), some (.int v)], [.int 0], h, 198, sl) = some R := hh
    obtain ⟨n, hh⟩ := rn_if (cc := .eq) (off := 13) (t := 21) rfl rfl hh
    have hh : pm_run PT n fr lo 86 (21, [some (.ref 0), some (.int v)], [], h, 198, sl) = some R := hh
    obtain ⟨n, hh⟩ := rn_i rfl rfl rfl rfl hh
    have e := (rn_ret rfl (Or.inl rfl) hh).2
    subst e
    exact ⟨rfl, rfl⟩
/-- one sign of the reference -/
theorem sm_step {i : Nat} {e : Int32} (hi : i < 4) (hn : n0 ≤ 76) (he : (Int8.ofInt 24).toInt32 - (Int8.ofInt 8).toInt32 * nI i = e) (h15 : mF h 15 (.int (nI n0))) (h14 : mF h 14 (.ref 172)) (hA : h 172 = .inl (0, 80, .inl g)) (hh : pm_run PT n fr lo 178 (18, [some (.ref 162), some (.int v), some (.int (nI i))], [], h, 198, sl) = some R) : ∃ m, pm_run PT m fr lo 178 (18, [some (.ref 162), some (.int v), some (.int (nI (i + 1)))], [], aset h 172 80 (upd g (n0 + i) (chM v e)), 198, sl) = some R := by
  obtain ⟨n, hh⟩ := rn_i rfl rfl rfl rfl hh
  obtain ⟨n, hh⟩ := rn_i rfl rfl rfl rfl hh
  obtain ⟨n, hh⟩ := rn_icmp (cc := .ge) (off := 33) (t := 53) rfl rfl hh
  have ec : pm_cmp .ge (nI i) (Int32.ofInt 4) = false := by
    have := hI_ge (a := i) (b := 4) (by omega) (by omega)
    rw [decide_eq_false (by omega)] at this
    exact this
  rw [ec] at hh
  obtain ⟨n, hh⟩ := rn_i rfl rfl rfl rfl hh
  obtain ⟨n, hh⟩ := rn_gfm rfl rfl h14 hh
  obtain ⟨n, hh⟩ := rn_i rfl rfl rfl rfl hh
  obtain ⟨n, hh⟩ := rn_gfm rfl rfl h15 hh
  obtain ⟨n, hh⟩ := rn_i rfl rfl rfl rfl hh
  obtain ⟨n, hh⟩ := rn_i rfl rfl rfl rfl hh
  obtain ⟨n, hh⟩ := rn_i rfl rfl rfl rfl hh
  obtain ⟨n, hh⟩ := rn_i rfl rfl rfl rfl hh
  obtain ⟨n, hh⟩ := rn_i rfl rfl rfl rfl hh
  obtain ⟨n, hh⟩ := rn_i rfl rfl rfl rfl hh
  obtain ⟨n, hh⟩ := rn_i rfl rfl rfl rfl hh
  obtain ⟨n, hh⟩ := rn_i rfl rfl rfl rfl hh
  obtain ⟨n, hh⟩ := rn_i rfl rfl rfl rfl hh
  obtain ⟨n, hh⟩ := rn_i rfl rfl rfl rfl hh
  obtain ⟨n, hh⟩ := rn_i rfl rfl rfl rfl hh
  have e1 : nI n0 + nI i = nI (n0 + i) := nI_add n0 i
  have hh : pm_run PT n fr lo 178 (46, [some (.ref 162), some (.int v), some (.int (nI i))], [.int (chM v ((Int8.ofInt 24).toInt32 - (Int8.ofInt 8).toInt32 * nI i)), .int (nI n0 + nI i), .ref 172], h, 198, sl) = some R := hh
  rw [e1, he] at hh
  obtain ⟨n, hh⟩ := rn_ism rfl hA (hI_in (by omega) (by decide)) (by decide) hh
  rw [nI_clamp (by omega)] at hh
  obtain ⟨n, hh⟩ := rn_i rfl rfl rfl rfl hh
  obtain ⟨n, hh⟩ := rn_i rfl rfl rfl rfl hh
  have e2 : nI i + Int32.ofInt 1 = nI (i + 1) := (Int32.ofNat_add i 1).symm
  have hh : pm_run PT n fr lo 178 (18, [some (.ref 162), some (.int v), some (.int (nI i + Int32.ofInt 1))], [], aset h 172 80 (upd g (n0 + i) (chM v e)), 198, sl) = some R := hh
  rw [e2] at hh
  exact ⟨n, hh⟩
theorem sm_run {w : Int32} (hn : n0 ≤ 80) (h0 : mF h 0 (.int w)) (h15 : mF h 15 (.int (nI n0))) (h14 : mF h 14 (.ref 172)) (hA : h 172 = .inl (0, 80, .inl g)) (hh : pm_run PT n fr lo 178 (0, pm_l0 [.ref 162, .int v] 3, [], h, 198, sl) = some R) : cond (decide (n0 ≤ 76)) (R.1 = some (.int (nI (n0 + 4))) ∧ mF R.2.1 15 (.int (nI (n0 + 4))) ∧ R.2.1 172 = .inl (0, 80, .inl (f4 g n0 (chM v 24) (chM v 16) (chM v 8) (chM v 0)))) (R.1 = some (.int (Int32.ofInt (-1))) ∧ mF R.2.1 15 (.int (nI n0)) ∧ R.2.1 172 = .inl (0, 80, .inl g)) := by
  obtain ⟨n, hh⟩ := rn_i rfl rfl rfl rfl hh
  obtain ⟨n, hh⟩ := rn_i rfl rfl rfl rfl hh
  obtain ⟨n, hh⟩ := rn_pfm (w := .int w) rfl rfl rfl (by decide) h0 hh
  have q15 : mF (mset h 0 (.int (Int32.ofInt 0))) 15 (.int (nI n0)) := mF_ne (by decide) h15
  have q14 : mF (mset h 0 (.int (Int32.ofInt 0))) 14 (.ref 172) := mF_ne (by decide) h14
  have qA : mset h 0 (.int (Int32.ofInt 0)) 172 = .inl (0, 80, .inl g) := mset_arr (by decide) hA
  generalize mset h 0 (.int (Int32.ofInt 0)) = h1 at *
  obtain ⟨n, hh⟩ := rn_i rfl rfl rfl rfl hh
  obtain ⟨n, hh⟩ := rn_gfm rfl rfl q15 hh
  obtain ⟨n, hh⟩ := rn_i rfl rfl rfl rfl hh
  obtain ⟨n, hh⟩ := rn_icmp (cc := .le) (off := 5) (t := 16) rfl rfl hh
  have hh : pm_run PT n fr lo 178 (cond (pm_cmp .le (nI n0) (nI 76)) 16 14, [some (.ref 162), some (.int v), none], [], h1, 198, sl) = some R := hh
  rw [hI_le (by omega) (by omega)] at hh
  by_cases z : n0 ≤ 76
  · rw [decide_eq_true z] at hh ⊢
    obtain ⟨n, hh⟩ := rn_i rfl rfl rfl rfl hh
    obtain ⟨n, hh⟩ := rn_i rfl rfl rfl rfl hh
    have hh : pm_run PT n fr lo 178 (18, [some (.ref 162), some (.int v), some (.int (nI 0))], [], h1, 198, sl) = some R := hh
    obtain ⟨n, hh⟩ := sm_step (i := 0) (e := 24) (by decide) z (by decide) q15 q14 qA hh
    obtain ⟨n, hh⟩ := sm_step (i := 1) (e := 16) (by decide) z (by decide) (aset_mF (by decide) q15) (aset_mF (by decide) q14) asR_self hh
    obtain ⟨n, hh⟩ := sm_step (i := 2) (e := 8) (by decide) z (by decide) (aset_mF (by decide) (aset_mF (by decide) q15)) (aset_mF (by decide) (aset_mF (by decide) q14)) asR_self hh
    obtain ⟨n, hh⟩ := sm_step (i := 3) (e := 0) (by decide) z (by decide) (aset_mF (by decide) (aset_mF (by decide) (aset_mF (by decide) q15))) (aset_mF (by decide) (aset_mF (by decide) (aset_mF (by decide) q14))) asR_self hh
    have q15' : mF (aset (aset (aset (aset h1 172 80 (upd g (n0 + 0) (chM v 24))) 172 80 (upd (upd g (n0 + 0) (chM v 24)) (n0 + 1) (chM v 16))) 172 80 (upd (upd (upd g (n0 + 0) (chM v 24)) (n0 + 1) (chM v 16)) (n0 + 2) (chM v 8))) 172 80 (upd (upd (upd (upd g (n0 + 0) (chM v 24)) (n0 + 1) (chM v 16)) (n0 + 2) (chM v 8)) (n0 + 3) (chM v 0))) 15 (.int (nI n0)) := aset_mF (by decide) (aset_mF (by decide) (aset_mF (by decide) (aset_mF (by decide) q15)))
    obtain ⟨n, hh⟩ := rn_i rfl rfl rfl rfl hh
    obtain ⟨n, hh⟩ := rn_i rfl rfl rfl rfl hh
    obtain ⟨n, hh⟩ := rn_icmp (cc := .ge) (off := 33) (t := 53) rfl rfl hh
    have hh : pm_run PT n fr lo 178 (53, [some (.ref 162), some (.int v), some (.int (nI 4))], [], _, 198, sl) = some R := hh
    obtain ⟨n, hh⟩ := rn_i rfl rfl rfl rfl hh
    obtain ⟨n, hh⟩ := rn_i rfl rfl rfl rfl hh
    obtain ⟨n, hh⟩ := rn_gfm rfl rfl q15' hh
    obtain ⟨n, hh⟩ := rn_i rfl rfl rfl rfl hh
    obtain ⟨n, hh⟩ := rn_i rfl rfl rfl rfl hh
    obtain ⟨n, hh⟩ := rn_pfm (w := .int (nI n0)) rfl rfl rfl (by decide) q15' hh
    have e4 : nI n0 + Int32.ofInt 4 = nI (n0 + 4) := (Int32.ofNat_add n0 4).symm
    have qq := mF_self (v := .int (nI n0 + Int32.ofInt 4)) q15'
    obtain ⟨n, hh⟩ := rn_i rfl rfl rfl rfl hh
    obtain ⟨n, hh⟩ := rn_gfm rfl rfl qq hh
    have e := (rn_ret rfl (Or.inl rfl) hh).2
    subst e
    refine ⟨congrArg (fun q => some (Value.int q)) e4, e4 ▸ qq, mset_arr (by decide) asR_self⟩
  · rw [decide_eq_false z] at hh ⊢
    obtain ⟨n, hh⟩ := rn_i rfl rfl rfl rfl hh
    have e := (rn_ret rfl (Or.inl rfl) hh).2
    subst e
    exact ⟨rfl, q15, qA⟩
end SGM
