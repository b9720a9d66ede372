/-! what courts and gifts do to what is kept: isNew, forgetStates -/
section KPT
variable {n fr lo sl ch rm : Nat} {h : pm_H} {R : pm_Rs}
theorem pm_rets_v {k : Nat} {S : List Value} {rv : Option Value} (hr : pm_ret PT k = none) (h : pm_rets PT k .return_ S = some rv) : rv = none := by
  unfold pm_rets at h
  split at h
  · rw [hr] at h
    cases h
    rfl
  · cases ‹Instr.return_ = _›
  · cases ‹Instr.return_ = _›
  · cases h
theorem rn_vret {n fr lo sl k pc : Nat} {L : pm_L} {h : pm_H} {R : pm_Rs} {S : List Value} (hi : pm_ins PT k pc = some (.return_, 1)) (hr : pm_ret PT k = none) (hh : pm_run PT n fr lo k (pc, L, S, h, 198, sl) = some R) : R = (none, h, 198, sl) := by
  cases n with
  | zero => cases hh
  | succ n =>
    unfold pm_run at hh
    split at hh
    · rename_i r' e1
      cases hh
      unfold pm_end at e1
      dsimp only at e1
      rw [hi] at e1
      dsimp only at e1
      split at e1
      · split at e1
        · rename_i rv er
          cases e1
          have := pm_rets_v hr er
          subst this
          rfl
        · cases e1
      · cases e1
    · split at hh
      · rename_i st' e2
        exfalso
        unfold pm_step at e2
        dsimp only at e2
        rw [hi] at e2
        dsimp only at e2
        split at e2
        · cases e2
        · cases e2
      · cases hh
def s20P (ci f : Nat) : Bool := Nat.beq ci 10
def s20K (k : Nat) : Bool := Nat.beq k 20
theorem s20_ok : sf_ok s20P s20K := sf_of (N := [20]) (fun k h => by rw [Nat.eq_of_beq_eq_true h]; decide) (by decide +kernel)
/-- nothing is kept behind forgetStates -/
theorem fs_run {fs : List Value} {v5 w7 : Value} (e0 : h 0 = .inr (10, fs)) (e5 : fs[5]? = some v5) (e7 : fs[7]? = some w7) (hh : pm_run PT n fr lo 133 (0, pm_l0 [.ref 0] 1, [], h, 198, sl) = some R) : ∃ gs, R.2.1 0 = .inr (10, gs) ∧ gs[7]? = some (.int (nI 0)) := by
  obtain ⟨n, hh⟩ := rn_i rfl rfl rfl rfl hh
  obtain ⟨n, hh⟩ := rn_gfo (g := 5) rfl rfl (by decide) e0 e5 hh
  obtain ⟨n, fr', lo', r1, hr1, hh⟩ := rn_call (w := 0) (t := 20) rfl rfl hh
  have hf := sf_run s20_ok _ _ _ 20 _ r1 rfl hr1
  have hz := sz_run s20_ok _ _ _ 20 _ r1 rfl hr1
  have hv := vd_run rfl hr1
  obtain ⟨rv, h1, s1⟩ := r1
  dsimp only at hf hz hv
  subst hz
  subst hv
  obtain ⟨gs, g0, gl, g7⟩ := hf.2 0 10 fs e0
  have g7 := (g7 7 rfl).trans e7
  have hh : pm_run PT n fr lo 133 (7, [some (.ref 0)], [], h1, 198, sl) = some R := hh
  obtain ⟨n, hh⟩ := rn_i rfl rfl rfl rfl hh
  obtain ⟨n, hh⟩ := rn_i rfl rfl rfl rfl hh
  obtain ⟨n, hh⟩ := rn_i rfl rfl rfl (pf_eq (f := 7) rfl rfl (by decide) (by decide) g0 g7) hh
  have q := rn_vret rfl rfl hh
  rw [q]
  refine ⟨gs.set 7 (.int (Int32.ofInt 0)), by simp [va_up], ?_⟩
  rw [List.getElem?_set_self (List.getElem?_eq_some_iff.mp g7).1]
  rfl
end KPT
