/-! what courts and gifts do to what is kept: isNew, forgetStates -/
section KPT
variable {n fr lo sl ch rm : Nat} {h : pm_H} {R : pm_Rs}
theorem pm_rets_v {k : Nat} {S : List Value} {rv : Option Value} (hr : pm_ret PT k = none) (h : pm_rets PT k .return_ S = some rv) : rv = none := by
  unfold pm_rets at h
  split at h
  · rw [hr] at h
    cases h
    rfl
  · cases ‹Instr.return_ = _›
  · cases ‹Instr.return_ = _›
  · cases h
theorem rn_vret {n fr lo sl k pc : Nat} {L : pm_L} {h : pm_H} {R : pm_Rs} {S : List Value} (hi : pm_ins PT k pc = some (.return_, 1)) (hr : pm_ret PT k = none) (hh : pm_run PT n fr lo k (pc, L, S, h, 198, sl) = some R) : R = (none, h, 198, sl) := by
  cases n with
  | zero => cases hh
  | succ n =>
    unfold pm_run at hh
    split at hh
    · rename_i r' e1
      cases hh
      unfold pm_end at e1
      dsimp only at e1
      rw [hi] at e1
      dsimp only at e1
      split at e1
      · split at e1
        · rename_i rv er
          cases e1
          have := pm_rets_v hr er
          subst this
          rfl
        · cases e1
      · cases e1
    · split at hh
      · rename_i st' e2
        exfalso
        unfold pm_step at e2
        dsimp only at e2
        rw [hi] at e2
        dsimp only at e2
        split at e2
        · cases e2
        · cases e2
      · cases hh
theorem iz_19 {ch rm : Nat} (hr : rm < 1000) (h20 : mF h 20 (.int (nI rm))) (h5 : mF h 5 (.int (nI ch))) (hh : pm_run PT n fr lo 190 (19, [some (.ref 162)], [], h, 198, sl) = some R) : mF R.2.1 5 (.int (nI (ch + cond (decide (0 < rm)) 1 0))) := by
  obtain ⟨n, hh⟩ := rn_i rfl rfl rfl rfl hh
  obtain ⟨n, hh⟩ := rn_i rfl rfl rfl rfl hh
  obtain ⟨n, hh⟩ := rn_gfm rfl rfl h5 hh
  obtain ⟨n, hh⟩ := rn_i rfl rfl rfl rfl hh
  obtain ⟨n, hh⟩ := rn_gfm rfl rfl h20 hh
  obtain ⟨n, hh⟩ := rn_if (cc := .le) (off := 7) (t := 35) rfl rfl hh
  have ec : pm_cmp .le (nI rm) 0 = decide (rm ≤ 0) := hI_le (a := rm) (b := 0) (by omega) (by omega)
  rw [ec] at hh
  have fin : ∀ (n : Nat) (b : Bool), pm_run PT n fr lo 190 (36, [some (.ref 162)], [.int (cond b 1 0), .int (nI ch), .ref 162], h, 198, sl) = some R → mF R.2.1 5 (.int (nI (ch + cond b 1 0))) := by
    intro n b hh
    obtain ⟨n, fr', lo', r1, hr1, hh⟩ := rn_call (w := 2) (t := 165) rfl rfl hh
    have er := rn_dt (F := 10) (Lo := 1000) (hd_flag (fr := 10) (lo := 1000) (h := h) (sl := sl) b) hr1
    subst er
    have hh : pm_run PT n fr lo 190 (39, [some (.ref 162)], [.int (cond b 1 0), .int (nI ch), .ref 162], h, 198, sl) = some R := hh
    obtain ⟨n, hh⟩ := rn_i rfl rfl rfl rfl hh
    have e : nI ch + cond b 1 0 = nI (ch + cond b 1 0) := by
      cases b with
      | true => exact (Int32.ofNat_add ch 1).symm
      | false => exact (Int32.ofNat_add ch 0).symm
    have hh : pm_run PT n fr lo 190 (40, [some (.ref 162)], [.int (nI ch + cond b 1 0), .ref 162], h, 198, sl) = some R := hh
    rw [e] at hh
    obtain ⟨n, hh⟩ := rn_pfm (w := .int (nI ch)) rfl rfl rfl (by decide) h5 hh
    have q := rn_vret rfl rfl hh
    rw [q]
    exact mF_self h5
  by_cases z : rm ≤ 0
  · rw [decide_eq_true z] at hh
    rw [decide_eq_false (by omega)]
    obtain ⟨n, hh⟩ := rn_i rfl rfl rfl rfl hh
    exact fin n false hh
  · rw [decide_eq_false z] at hh
    rw [decide_eq_true (by omega)]
    obtain ⟨n, hh⟩ := rn_i rfl rfl rfl rfl hh
    obtain ⟨n, hh⟩ := rn_i rfl rfl rfl rfl hh
    exact fin n true hh
theorem iz_run {w : Int32} (hr : rm < 1000) (h20 : mF h 20 (.int (nI rm))) (h27 : mF h 27 (.int w)) (h5 : mF h 5 (.int (nI ch))) (hh : pm_run PT n fr lo 190 (0, pm_l0 [.ref 162] 1, [], h, 198, sl) = some R) : mF R.2.1 5 (.int (nI (ch + cond (decide (0 < rm)) 1 0))) := by
  obtain ⟨n, hh⟩ := rn_i rfl rfl rfl rfl hh
  obtain ⟨n, hh⟩ := rn_i rfl rfl rfl rfl hh
  obtain ⟨n, hh⟩ := rn_gfm rfl rfl h20 hh
  obtain ⟨n, hh⟩ := rn_if (cc := .le) (off := 7) (t := 12) rfl rfl hh
  have ec : pm_cmp .le (nI rm) 0 = decide (rm ≤ 0) := hI_le (a := rm) (b := 0) (by omega) (by omega)
  rw [ec] at hh
  by_cases z : rm ≤ 0
  · rw [decide_eq_true z] at hh
    obtain ⟨n, hh⟩ := rn_i rfl rfl rfl rfl hh
    obtain ⟨n, hh⟩ := rn_gfm rfl rfl h27 hh
    obtain ⟨n, hh⟩ := rn_pfm (w := .int w) rfl rfl rfl (by decide) h27 hh
    exact iz_19 hr (mF_ne (by decide) h20) (mF_ne (by decide) h5) hh
  · rw [decide_eq_false z] at hh
    obtain ⟨n, hh⟩ := rn_i rfl rfl rfl rfl hh
    obtain ⟨n, hh⟩ := rn_i rfl rfl rfl rfl hh
    obtain ⟨n, hh⟩ := rn_pfm (w := .int w) rfl rfl rfl (by decide) h27 hh
    exact iz_19 hr (mF_ne (by decide) h20) (mF_ne (by decide) h5) hh
def s20P (ci f : Nat) : Bool := Nat.beq ci 10
def s20K (k : Nat) : Bool := Nat.beq k 20
theorem s20_ok : sf_ok s20P s20K := sf_of (N := [20]) (fun k h => by rw [Nat.eq_of_beq_eq_true h]; decide) (by decide +kernel)
/-- nothing is kept behind forgetStates -/
theorem fs_run {fs : List Value} {v5 w7 : Value} (e0 : h 0 = .inr (10, fs)) (e5 : fs[5]? = some v5) (e7 : fs[7]? = some w7) (hh : pm_run PT n fr lo 133 (0, pm_l0 [.ref 0] 1, [], h, 198, sl) = some R) : ∃ gs, R.2.1 0 = .inr (10, gs) ∧ gs[7]? = some (.int (nI 0)) := by
  obtain ⟨n, hh⟩ := rn_i rfl rfl rfl rfl hh
  obtain ⟨n, hh⟩ := rn_gfo (g := 5) rfl rfl (by decide) e0 e5 hh
  obtain ⟨n, fr', lo', r1, hr1, hh⟩ := rn_call (w := 0) (t := 20) rfl rfl hh
  have hf := sf_run s20_ok _ _ _ 20 _ r1 rfl hr1
  have hz := sz_run s20_ok _ _ _ 20 _ r1 rfl hr1
  have hv := vd_run rfl hr1
  obtain ⟨rv, h1, s1⟩ := r1
  dsimp only at hf hz hv
  subst hz
  subst hv
  obtain ⟨gs, g0, gl, g7⟩ := hf.2 0 10 fs e0
  have g7 := (g7 7 rfl).trans e7
  have hh : pm_run PT n fr lo 133 (7, [some (.ref 0)], [], h1, 198, sl) = some R := hh
  obtain ⟨n, hh⟩ := rn_i rfl rfl rfl rfl hh
  obtain ⟨n, hh⟩ := rn_i rfl rfl rfl rfl hh
  obtain ⟨n, hh⟩ := rn_i rfl rfl rfl (pf_eq (f := 7) rfl rfl (by decide) (by decide) g0 g7) hh
  have q := rn_vret rfl rfl hh
  rw [q]
  refine ⟨gs.set 7 (.int (Int32.ofInt 0)), by simp [va_up], ?_⟩
  rw [List.getElem?_set_self (List.getElem?_eq_some_iff.mp g7).1]
  rfl
end KPT
