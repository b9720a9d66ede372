/-! the reference's courts: the LINES come -/
section CMN
variable {n fr lo sl k pc sz j cc r : Nat} {h : pm_H} {L : pm_L} {S : List Value} {R : pm_Rs}
theorem vd_run {n fr lo k : Nat} {st : pm_St} {r : pm_Rs} (hr : pm_ret PT k = none) (hh : pm_run PT n fr lo k st = some r) : r.1 = none := by
  induction n generalizing st with
  | zero => cases hh
  | succ n ih =>
    unfold pm_run at hh
    split at hh
    · rename_i r' e1
      cases hh
      unfold pm_end at e1
      split at e1
      · cases e1
      · split at e1
        · split at e1
          · rename_i rv er
            cases e1
            unfold pm_rets at er
            rw [hr] at er
            repeat' split at er
            all_goals first
              | (cases er; done)
              | (cases ‹(none : Option FieldType) = some _›; done)
              | (cases er; rfl)
          · cases e1
        · cases e1
    · split at hh
      · exact ih hh
      · cases hh
theorem ld_eq {tt nn : Nat} {v : Value} (hg : pm_get L j = some v) (hT : pm_isT tt v = true) : pm_lo tt nn pc j L S h sz sl = some (pc + nn, L, v :: S, h, sz, sl) := by
  unfold pm_lo pm_ld
  rw [hg]
  dsimp only
  rw [if_pos hT]
theorem iinc_eq {x : Int32} {d : Int} (hg : pm_get L j = some (.int x)) (hj : j < pm_max PT k) : pm_simple PT fr lo k (.iinc j d) pc L S h sz sl = some (pc + 3, pm_st1 L j (.int (x + Int32.ofInt d)), S, h, sz, sl) := by
  show (match pm_get L j with
    | some (.int x) => if j < pm_max PT k then some (pc + 3, pm_st1 L j (.int (x + Int32.ofInt d)), S, h, sz, sl) else none
    | _ => none) = _
  rw [hg]
  exact if_pos hj
theorem rn_aln {j : Fin 4} {v : Value} (hi : pm_ins PT k pc = some (.aload_n j, 1)) (hg : pm_get L j.val = some v) (hT : pm_isT 2 v = true) (hh : pm_run PT n fr lo k (pc, L, S, h, 198, sl) = some R) : ∃ m, pm_run PT m fr lo k (pc + 1, L, v :: S, h, 198, sl) = some R := rn_i hi rfl rfl (show pm_lo 2 1 pc j.val L S h 198 sl = _ from ld_eq hg hT) hh
theorem rn_iln {j : Fin 4} {v : Value} (hi : pm_ins PT k pc = some (.iload_n j, 1)) (hg : pm_get L j.val = some v) (hT : pm_isT 0 v = true) (hh : pm_run PT n fr lo k (pc, L, S, h, 198, sl) = some R) : ∃ m, pm_run PT m fr lo k (pc + 1, L, v :: S, h, 198, sl) = some R := rn_i hi rfl rfl (show pm_lo 0 1 pc j.val L S h 198 sl = _ from ld_eq hg hT) hh
theorem rn_il {j : Nat} {v : Value} (hi : pm_ins PT k pc = some (.iload j, 2)) (hg : pm_get L j = some v) (hT : pm_isT 0 v = true) (hh : pm_run PT n fr lo k (pc, L, S, h, 198, sl) = some R) : ∃ m, pm_run PT m fr lo k (pc + 2, L, v :: S, h, 198, sl) = some R := rn_i hi rfl rfl (show pm_lo 0 2 pc j L S h 198 sl = _ from ld_eq hg hT) hh
theorem get_lt {v : Value} (hg : pm_get L j = some v) : j < L.length := by
  unfold pm_get at hg
  split at hg
  · rename_i e
    exact (List.getElem?_eq_some_iff.mp e).1
  · cases hg
theorem cut_len (i : Nat) : (pm_cut L i).length = L.length := by
  unfold pm_cut
  split
  · rfl
  · split
    · exact List.length_set
    · rfl
theorem get_st1 {v w : Value} (hg : pm_get L j = some w) : pm_get (pm_st1 L j v) j = some v := by
  have := get_lt hg
  unfold pm_st1 pm_get
  rw [List.getElem?_set_self (by rw [cut_len]; exact this)]
def cmP (ci f : Nat) : Bool := Nat.beq ci 11 && (Nat.beq f 3 || Nat.beq f 20)
def cmK (k : Nat) : Bool := Nat.beq k 165 || (Nat.beq k 189 || Nat.beq k 190)
def cmJ (j : Nat) : Bool := Nat.beq j 0 || Nat.beq j 5
theorem cmK_in (k : Nat) (h : cmK k = true) : k ∈ [165, 189, 190] := by
  unfold cmK at h
  rw [Bool.or_eq_true, Bool.or_eq_true] at h
  rcases h with h | h | h
  · rw [Nat.eq_of_beq_eq_true h]; decide
  · rw [Nat.eq_of_beq_eq_true h]; decide
  · rw [Nat.eq_of_beq_eq_true h]; decide
theorem cm_ok : sf_ok cmP cmK := sf_of cmK_in (by decide +kernel)
theorem cm_blk : blk_ok cmP cmK cmJ 188 90 200 := blk_of (by decide +kernel)
theorem cm_add (hr : r ≤ 6) (hc : cc ≤ 6) : ∀ (d k n : Nat) (L : pm_L) (S : List Value) (h : pm_H), k + d = r → pm_get L 0 = some (.ref 162) → pm_get L 5 = some (.int (nI k)) → mF h 20 (.int (nI r)) → mF h 3 (.int (nI (cc + k))) → pm_run PT n fr lo 188 (81, L, S, h, 198, sl) = some R → R.1 = some (.int (nI r)) ∧ mF R.2.1 3 (.int (nI (cc + r))) := by
  intro d
  induction d with
  | zero =>
    intro k n L S h hk h0 h5 q20 q3 hh
    have hk : k = r := by omega
    subst hk
    obtain ⟨n, hh⟩ := rn_il rfl h5 rfl hh
    obtain ⟨n, hh⟩ := rn_aln rfl h0 rfl hh
    obtain ⟨n, hh⟩ := rn_gfm rfl rfl q20 hh
    obtain ⟨n, hh⟩ := rn_icmp (cc := .ge) (off := 129) (t := 216) rfl rfl hh
    rw [hI_ge (by omega) (by omega), decide_eq_true (Nat.le_refl _)] at hh
    have hh : pm_run PT n fr lo 188 (216, L, S, h, 198, sl) = some R := hh
    obtain ⟨n, hh⟩ := rn_aln rfl h0 rfl hh
    obtain ⟨n, fr', lo', r1, hr1, hh⟩ := rn_call (w := 0) (t := 190) rfl rfl hh
    have hf := sf_run cm_ok _ _ _ 190 _ r1 rfl hr1
    have hz := sz_run cm_ok _ _ _ 190 _ r1 rfl hr1
    have hv := vd_run rfl hr1
    obtain ⟨rv, h1, s1⟩ := r1
    dsimp only at hf hz hv
    subst hz
    subst hv
    have hh : pm_run PT n fr lo 188 (220, L, S, h1, 198, sl) = some R := hh
    obtain ⟨n, hh⟩ := rn_aln rfl h0 rfl hh
    obtain ⟨n, hh⟩ := rn_gfm rfl rfl (fm_mF hf rfl q20) hh
    obtain ⟨-, rfl⟩ := rn_ret rfl (Or.inl rfl) hh
    exact ⟨rfl, fm_mF hf rfl q3⟩
  | succ d ih =>
    intro k n L S h hk h0 h5 q20 q3 hh
    obtain ⟨n, hh⟩ := rn_il rfl h5 rfl hh
    obtain ⟨n, hh⟩ := rn_aln rfl h0 rfl hh
    obtain ⟨n, hh⟩ := rn_gfm rfl rfl q20 hh
    obtain ⟨n, hh⟩ := rn_icmp (cc := .ge) (off := 129) (t := 216) rfl rfl hh
    rw [hI_ge (by omega) (by omega), decide_eq_false (by omega)] at hh
    have hh : pm_run PT n fr lo 188 (90, L, S, h, 198, sl) = some R := hh
    obtain ⟨n, L', S', h', hh, hl, hf⟩ := blk_run cm_ok cm_blk n fr lo _ R (Nat.le_of_ble_eq_true rfl) (Nat.le_of_ble_eq_true rfl) hh
    dsimp only at hl hf hh
    have g0 := hl 0 _ rfl h0 rfl
    have g5 := hl 5 _ rfl h5 rfl
    have q3' := fm_mF hf rfl q3
    have q20' := fm_mF hf rfl q20
    have hh : pm_run PT n fr lo 188 (200, L', S', h', 198, sl) = some R := hh
    obtain ⟨n, hh⟩ := rn_aln rfl g0 rfl hh
    obtain ⟨n, hh⟩ := rn_i rfl rfl rfl rfl hh
    obtain ⟨n, hh⟩ := rn_gfm rfl rfl q3' hh
    obtain ⟨n, hh⟩ := rn_i rfl rfl rfl rfl hh
    obtain ⟨n, hh⟩ := rn_i rfl rfl rfl rfl hh
    obtain ⟨n, hh⟩ := rn_pfm (w := .int (nI (cc + k))) rfl rfl rfl (by decide) q3' hh
    obtain ⟨n, hh⟩ := rn_i rfl rfl rfl (iinc_eq g5 (Nat.le_of_ble_eq_true rfl)) hh
    obtain ⟨n, hh⟩ := rn_i rfl rfl rfl rfl hh
    have e1 : nI (cc + k) + Int32.ofInt 1 = nI (cc + (k + 1)) := (Int32.ofNat_add (cc + k) 1).symm
    have e2 : nI k + Int32.ofInt 1 = nI (k + 1) := (Int32.ofNat_add k 1).symm
    have hh : pm_run PT n fr lo 188 (81, pm_st1 L' 5 (.int (nI k + Int32.ofInt 1)), S', mset h' 3 (.int (nI (cc + k) + Int32.ofInt 1)), 198, sl) = some R := hh
    rw [e1, e2] at hh
    exact ih (k + 1) n _ S' _ (by omega) (lkp_st1 (J := fun j => Nat.beq j 0) rfl 0 _ rfl g0 rfl) (get_st1 g5) (mF_ne (by decide) q20') (mF_self q3') hh
end CMN
