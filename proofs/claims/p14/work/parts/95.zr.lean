/-! what a run that ends tells of one step -/
section REX
variable {n fr lo sl k pc j sz : Nat} {h : pm_H} {L : pm_L} {S r : List Value} {R : pm_Rs}
theorem rn_ex {i : Instr} {len : Nat} (hi : pm_ins PT k pc = some (i, len)) (hc : pm_callee PT k i = none) (n1 : i ≠ .return_) (n2 : i ≠ .ireturn) (n3 : i ≠ .lreturn) (hh : pm_run PT n fr lo k (pc, L, S, h, sz, sl) = some R) : ∃ st' m, pm_simple PT fr lo k i pc L S h sz sl = some st' ∧ pm_run PT m fr lo k st' = some R := by
  cases n with
  | zero => cases hh
  | succ n =>
    unfold pm_run at hh
    split at hh
    · rename_i r' e1
      exfalso
      unfold pm_end at e1
      dsimp only at e1
      rw [hi] at e1
      dsimp only at e1
      split at e1
      · split at e1
        · rename_i rv er
          rcases pm_rets_no er with q | q | q
          · exact n1 q
          · exact n2 q
          · exact n3 q
        · cases e1
      · cases e1
    · split at hh
      · rename_i st2 e2
        unfold pm_step at e2
        dsimp only at e2
        rw [hi] at e2
        dsimp only at e2
        split at e2
        · rw [hc] at e2
          dsimp only at e2
          exact ⟨st2, n, e2, hh⟩
        · cases e2
      · cases hh
theorem rn_ifv {v : Value} {cc : Jvm.ClassFile.Cond} {off : Int} (hi : pm_ins PT k pc = some (.ifCond cc off, 3)) (hh : pm_run PT n fr lo k (pc, L, v :: r, h, 198, sl) = some R) : ∃ x : Int32, v = .int x := by
  obtain ⟨st, m, e, -⟩ := rn_ex hi rfl (fun q => by cases q) (fun q => by cases q) (fun q => by cases q) hh
  cases v with
  | int x => exact ⟨x, rfl⟩
  | _ => exact absurd (show (none : Option pm_St) = some st from e) (fun q => by cases q)
theorem lo_ex {tt nn : Nat} {st : pm_St} (e : pm_lo tt nn pc j L S h sz sl = some st) : ∃ v, pm_get L j = some v ∧ pm_isT tt v = true ∧ st = (pc + nn, L, v :: S, h, sz, sl) := by
  unfold pm_lo pm_ld at e
  cases hg : pm_get L j with
  | none => rw [hg] at e; cases e
  | some v =>
    rw [hg] at e
    dsimp only at e
    by_cases z : pm_isT tt v = true
    · rw [if_pos z] at e
      cases e
      exact ⟨v, rfl, z, rfl⟩
    · rw [if_neg z] at e
      cases e
theorem isT_int {v : Value} (q : pm_isT 0 v = true) : ∃ x : Int32, v = .int x := by
  cases v with
  | int x => exact ⟨x, rfl⟩
  | _ => cases q
theorem rn_ilv {j : Nat} (hi : pm_ins PT k pc = some (.iload j, 2)) (hh : pm_run PT n fr lo k (pc, L, S, h, 198, sl) = some R) : ∃ (x : Int32) (m : Nat), pm_get L j = some (.int x) ∧ pm_run PT m fr lo k (pc + 2, L, .int x :: S, h, 198, sl) = some R := by
  obtain ⟨st, m, e, hh⟩ := rn_ex hi rfl (fun q => by cases q) (fun q => by cases q) (fun q => by cases q) hh
  obtain ⟨v, e1, e2, e3⟩ := lo_ex (show pm_lo 0 2 pc j L S h 198 sl = some st from e)
  obtain ⟨x, rfl⟩ := isT_int e2
  subst e3
  exact ⟨x, m, e1, hh⟩
theorem rn_ilnv {j : Fin 4} (hi : pm_ins PT k pc = some (.iload_n j, 1)) (hh : pm_run PT n fr lo k (pc, L, S, h, 198, sl) = some R) : ∃ (x : Int32) (m : Nat), pm_get L j.val = some (.int x) ∧ pm_run PT m fr lo k (pc + 1, L, .int x :: S, h, 198, sl) = some R := by
  obtain ⟨st, m, e, hh⟩ := rn_ex hi rfl (fun q => by cases q) (fun q => by cases q) (fun q => by cases q) hh
  obtain ⟨v, e1, e2, e3⟩ := lo_ex (show pm_lo 0 1 pc j.val L S h 198 sl = some st from e)
  obtain ⟨x, rfl⟩ := isT_int e2
  subst e3
  exact ⟨x, m, e1, hh⟩
/-- a field that is there, whatever it holds -/
theorem mF_ex {P : Nat → Nat → Bool} {h' : pm_H} {g : Nat} {v : Value} (q : fm (sfF P) h h') (m : mF h g v) : ∃ w, mF h' g w := by
  obtain ⟨fs, e1, e2⟩ := m
  obtain ⟨fs', a1, a2, -⟩ := q.2 162 11 fs e1
  have hl : g < fs'.length := by rw [a2]; exact (List.getElem?_eq_some_iff.mp e2).1
  exact ⟨fs'[g], fs', a1, List.getElem?_eq_getElem hl⟩
theorem le_lt0 {x : Int32} (q : pm_cmp .ge x 0 = false) : pm_cmp .le x 0 = true := by
  have q : ¬ (0 : Int32) ≤ x := of_decide_eq_false q
  have : x ≤ (0 : Int32) := by
    rw [Int32.le_iff_toInt_le] at q ⊢
    omega
  exact decide_eq_true this
end REX
/-! the reference's courts and gifts: how often something changed -/
section KCH
variable {n fr lo sl : Nat} {h : pm_H} {R : pm_Rs} {c : Int32}
def c5P (ci f : Nat) : Bool := Nat.beq ci 11 && (Nat.beq f 5 || Nat.beq f 20)
def c5Q (ci f : Nat) : Bool := Nat.beq ci 11 && Nat.beq f 5
def c5J (j : Nat) : Bool := Nat.beq j 0
def c5X : List Nat := [0, 6, 15, 22, 45, 52, 57, 72, 78, 82, 85, 91, 92, 93, 128, 161, 188, 190, 192]
def c5K : Nat → Bool := sf_X c5X
theorem c5_all : ((List.range 271).filter (fun k => !(c5X.any (fun x => Nat.beq x k)))).all (sf_b c5Q c5K) = true := by decide +kernel
theorem c5_ok : sf_ok c5Q c5K := sf_of sf_X_in c5_all
def c0K (k : Nat) : Bool := Nat.beq k 165
theorem c0_ok : sf_ok c5P c0K := sf_of (N := [165]) (fun k h => by rw [Nat.eq_of_beq_eq_true h]; decide) (by decide +kernel)
theorem c5_isNew : blk_ok c5P c0K c5J 190 0 19 := blk_of (by decide +kernel)
theorem c5_188a : blk_ok c5Q c5K c5J 188 0 70 := blk_of (by decide +kernel)
theorem c5_188b : blk_ok c5Q c5K c5J 188 78 216 := blk_of (by decide +kernel)
theorem c5_192a : blk_ok c5Q c5K c5J 192 0 70 := blk_of (by decide +kernel)
theorem c5_192b : blk_ok c5Q c5K c5J 192 78 230 := blk_of (by decide +kernel)
theorem isN_run {v : Value} (h20 : mF h 20 v) (h5 : mF h 5 (.int c)) (hh : pm_run PT n fr lo 190 (0, pm_l0 [.ref 162] 1, [], h, 198, sl) = some R) : ∃ x : Int32, v = .int x ∧ mF R.2.1 20 v ∧ mF R.2.1 5 (.int (c + cond (pm_cmp .le x 0) 0 1)) ∧ R.1 = none ∧ R.2.2 = (198, sl) := by
  obtain ⟨n, L', S', h', hh, hl, hf⟩ := blk_run c0_ok c5_isNew n fr lo _ R (Nat.le_of_ble_eq_true rfl) (Nat.le_of_ble_eq_true rfl) hh
  dsimp only at hl hf hh
  have g0 := hl 0 (.ref 162) rfl rfl rfl
  have q20 := fm_mF hf rfl h20
  have q5 := fm_mF hf rfl h5
  have hh : pm_run PT n fr lo 190 (19, L', S', h', 198, sl) = some R := hh
  obtain ⟨n, hh⟩ := rn_aln rfl g0 rfl hh
  obtain ⟨n, hh⟩ := rn_i rfl rfl rfl rfl hh
  obtain ⟨n, hh⟩ := rn_gfm rfl rfl q5 hh
  obtain ⟨n, hh⟩ := rn_aln rfl g0 rfl hh
  obtain ⟨n, hh⟩ := rn_gfm rfl rfl q20 hh
  obtain ⟨x, rfl⟩ := rn_ifv rfl hh
  obtain ⟨n, hh⟩ := rn_if (cc := .le) (off := 7) (t := 35) rfl rfl hh
  have fin : ∀ (n : Nat) (b : Bool), pm_run PT n fr lo 190 (36, L', .int (cond b 1 0) :: .int c :: .ref 162 :: S', h', 198, sl) = some R → mF R.2.1 20 (.int x) ∧ mF R.2.1 5 (.int (c + cond b 1 0)) ∧ R.1 = none ∧ R.2.2 = (198, sl) := by
    intro n b hh
    obtain ⟨n, fr', lo', r1, hr1, hh⟩ := rn_call (w := 2) (t := 165) rfl rfl hh
    have er := rn_dt (F := 10) (Lo := 1000) (hd_flag (fr := 10) (lo := 1000) (h := h') (sl := sl) b) hr1
    subst er
    have hh : pm_run PT n fr lo 190 (39, L', .int (cond b 1 0) :: .int c :: .ref 162 :: S', h', 198, sl) = some R := hh
    obtain ⟨n, hh⟩ := rn_i rfl rfl rfl rfl hh
    have hh : pm_run PT n fr lo 190 (40, L', .int (c + cond b 1 0) :: .ref 162 :: S', h', 198, sl) = some R := hh
    obtain ⟨n, hh⟩ := rn_pfm (w := .int c) rfl rfl rfl (by decide) q5 hh
    have q := rn_vret rfl rfl hh
    rw [q]
    exact ⟨mF_ne (by decide) q20, mF_self q5, rfl, rfl⟩
  cases z : pm_cmp .le x 0 with
  | true =>
    rw [z] at hh
    obtain ⟨n, hh⟩ := rn_i rfl rfl rfl rfl hh
    obtain ⟨a1, a2, a3⟩ := fin n false hh
    exact ⟨x, rfl, a1, by rw [z]; exact a2, a3⟩
  | false =>
    rw [z] at hh
    obtain ⟨n, hh⟩ := rn_i rfl rfl rfl rfl hh
    obtain ⟨n, hh⟩ := rn_i rfl rfl rfl rfl hh
    obtain ⟨a1, a2, a3⟩ := fin n true hh
    exact ⟨x, rfl, a1, by rw [z]; exact a2, a3⟩
/-- courts: one more change just when LINES came -/
theorem ck_188 (h5 : mF h 5 (.int c)) {v20 : Value} (h20 : mF h 20 v20) (hh : pm_run PT n fr lo 188 (0, pm_l0 [.ref 162] 7, [], h, 198, sl) = some R) : ∃ v : Int32, R.1 = some (.int v) ∧ mF R.2.1 5 (.int (c + cond (pm_cmp .le v 0) 0 1)) := by
  obtain ⟨n, L', S', h', hh, hl, hf⟩ := blk_run c5_ok c5_188a n fr lo _ R (Nat.le_of_ble_eq_true rfl) (Nat.le_of_ble_eq_true rfl) hh
  dsimp only at hl hf hh
  have g0 := hl 0 (.ref 162) rfl rfl rfl
  have q5 := fm_mF hf rfl h5
  obtain ⟨w20, q20⟩ := mF_ex hf h20
  have hh : pm_run PT n fr lo 188 (70, L', S', h', 198, sl) = some R := hh
  obtain ⟨x, n, g4, hh⟩ := rn_ilv rfl hh
  obtain ⟨n, hh⟩ := rn_if (cc := .ge) (off := 6) (t := 78) rfl rfl hh
  cases z : pm_cmp .ge x 0 with
  | false =>
    rw [z] at hh
    have hh : pm_run PT n fr lo 188 (75, L', S', h', 198, sl) = some R := hh
    obtain ⟨n, hh⟩ := rn_il rfl g4 rfl hh
    have e := (rn_ret rfl (Or.inl rfl) hh).2
    rw [e]
    refine ⟨x, rfl, ?_⟩
    rw [le_lt0 z]
    show mF h' 5 (.int (c + 0))
    rw [show c + 0 = c from Int32.add_zero c]
    exact q5
  | true =>
    rw [z] at hh
    have hh : pm_run PT n fr lo 188 (78, L', S', h', 198, sl) = some R := hh
    obtain ⟨n, L2, S2, h2, hh, hl2, hf2⟩ := blk_run c5_ok c5_188b n fr lo _ R (Nat.le_of_ble_eq_true rfl) (Nat.le_of_ble_eq_true rfl) hh
    dsimp only at hl2 hf2 hh
    have g0 := hl2 0 (.ref 162) rfl g0 rfl
    have q5 := fm_mF hf2 rfl q5
    obtain ⟨w20, q20⟩ := mF_ex hf2 q20
    have hh : pm_run PT n fr lo 188 (216, L2, S2, h2, 198, sl) = some R := hh
    obtain ⟨n, hh⟩ := rn_aln rfl g0 rfl hh
    obtain ⟨n, fr', lo', r1, hr1, hh⟩ := rn_call (w := 0) (t := 190) rfl rfl hh
    obtain ⟨y, rfl, a1, a2, a3, a4⟩ := isN_run q20 q5 hr1
    obtain ⟨rv, h3, s3⟩ := r1
    dsimp only at a1 a2 a3 a4
    subst a3
    subst a4
    have hh : pm_run PT n fr lo 188 (220, L2, S2, h3, 198, sl) = some R := hh
    obtain ⟨n, hh⟩ := rn_aln rfl g0 rfl hh
    obtain ⟨n, hh⟩ := rn_gfm rfl rfl a1 hh
    have e := (rn_ret rfl (Or.inl rfl) hh).2
    rw [e]
    exact ⟨y, rfl, a2⟩
theorem ck_192 (h5 : mF h 5 (.int c)) {v20 : Value} (h20 : mF h 20 v20) (hh : pm_run PT n fr lo 192 (0, pm_l0 [.ref 162] 6, [], h, 198, sl) = some R) : ∃ v : Int32, R.1 = some (.int v) ∧ mF R.2.1 5 (.int (c + cond (pm_cmp .le v 0) 0 1)) := by
  obtain ⟨n, L', S', h', hh, hl, hf⟩ := blk_run c5_ok c5_192a n fr lo _ R (Nat.le_of_ble_eq_true rfl) (Nat.le_of_ble_eq_true rfl) hh
  dsimp only at hl hf hh
  have g0 := hl 0 (.ref 162) rfl rfl rfl
  have q5 := fm_mF hf rfl h5
  obtain ⟨w20, q20⟩ := mF_ex hf h20
  have hh : pm_run PT n fr lo 192 (70, L', S', h', 198, sl) = some R := hh
  obtain ⟨x, n, g4, hh⟩ := rn_ilv rfl hh
  obtain ⟨n, hh⟩ := rn_if (cc := .ge) (off := 6) (t := 78) rfl rfl hh
  cases z : pm_cmp .ge x 0 with
  | false =>
    rw [z] at hh
    have hh : pm_run PT n fr lo 192 (75, L', S', h', 198, sl) = some R := hh
    obtain ⟨n, hh⟩ := rn_il rfl g4 rfl hh
    have e := (rn_ret rfl (Or.inl rfl) hh).2
    rw [e]
    refine ⟨x, rfl, ?_⟩
    rw [le_lt0 z]
    show mF h' 5 (.int (c + 0))
    rw [show c + 0 = c from Int32.add_zero c]
    exact q5
  | true =>
    rw [z] at hh
    have hh : pm_run PT n fr lo 192 (78, L', S', h', 198, sl) = some R := hh
    obtain ⟨n, L2, S2, h2, hh, hl2, hf2⟩ := blk_run c5_ok c5_192b n fr lo _ R (Nat.le_of_ble_eq_true rfl) (Nat.le_of_ble_eq_true rfl) hh
    dsimp only at hl2 hf2 hh
    have g0 := hl2 0 (.ref 162) rfl g0 rfl
    have q5 := fm_mF hf2 rfl q5
    obtain ⟨w20, q20⟩ := mF_ex hf2 q20
    have hh : pm_run PT n fr lo 192 (230, L2, S2, h2, 198, sl) = some R := hh
    obtain ⟨n, hh⟩ := rn_aln rfl g0 rfl hh
    obtain ⟨n, fr', lo', r1, hr1, hh⟩ := rn_call (w := 0) (t := 190) rfl rfl hh
    obtain ⟨y, rfl, a1, a2, a3, a4⟩ := isN_run q20 q5 hr1
    obtain ⟨rv, h3, s3⟩ := r1
    dsimp only at a1 a2 a3 a4
    subst a3
    subst a4
    have hh : pm_run PT n fr lo 192 (234, L2, S2, h3, 198, sl) = some R := hh
    obtain ⟨n, hh⟩ := rn_aln rfl g0 rfl hh
    obtain ⟨n, hh⟩ := rn_gfm rfl rfl a1 hh
    have e := (rn_ret rfl (Or.inl rfl) hh).2
    rw [e]
    exact ⟨y, rfl, a2⟩
end KCH
/-! the class's courts and gifts: nothing is kept behind them when LINES came -/
section KCX
variable {n fr lo sl : Nat} {h : pm_H} {R : pm_Rs} {w : Int32}
def k10P (ci _ : Nat) : Bool := Nat.beq ci 10
def k10X : List Nat := [0, 6, 15, 22, 45, 52, 57, 72, 78, 82, 85, 88, 89, 90, 91, 92, 93, 122, 125, 128, 133, 161]
def k10K : Nat → Bool := sf_X k10X
theorem k10_all : ((List.range 271).filter (fun k => !(k10X.any (fun x => Nat.beq x k)))).all (sf_b k10P k10K) = true := by decide +kernel
theorem k10_ok : sf_ok k10P k10K := sf_of sf_X_in k10_all
def k10J (j : Nat) : Bool := Nat.ble j 1
theorem k10_88a : blk_ok k10P k10K c5J 88 0 13 := blk_of (by decide +kernel)
theorem k10_88b : blk_ok k10P k10K k10J 88 17 54 := blk_of (by decide +kernel)
theorem k10_89a : blk_ok k10P k10K c5J 89 0 13 := blk_of (by decide +kernel)
theorem k10_89b : blk_ok k10P k10K k10J 89 17 30 := blk_of (by decide +kernel)
theorem k7_10 {h' : pm_H} (q : fm (sfF k10P) h h') (x : k7 h w) : k7 h' w := by
  obtain ⟨fs, e1, e2⟩ := x
  obtain ⟨fs', a1, -, a2⟩ := q.2 0 10 fs e1
  exact ⟨fs', a1, (a2 7 rfl).trans e2⟩
/-- forgetStates, whatever the object's other fields hold -/
theorem fs_k7 (x : k7 h w) (hh : pm_run PT n fr lo 133 (0, pm_l0 [.ref 0] 1, [], h, 198, sl) = some R) : k7 R.2.1 0 := by
  obtain ⟨fs, e0, e7⟩ := x
  have hl : 5 < fs.length := by have := (List.getElem?_eq_some_iff.mp e7).1; omega
  obtain ⟨gs, g0, g7⟩ := fs_run e0 (List.getElem?_eq_getElem hl) e7 hh
  exact ⟨gs, g0, g7⟩
def k133X : List Nat := [0, 6, 15, 22, 45, 52, 57, 72, 78, 82, 85, 91, 92, 93, 128, 161]
theorem k133_all : ((List.range 271).filter (fun k => !(k133X.any (fun x => Nat.beq x k)))).all (sf_b (fun _ _ => false) (sf_X k133X)) = true := by decide +kernel
theorem k133_ok : sf_ok (fun _ _ => false) (sf_X k133X) := sf_of sf_X_in k133_all
theorem xk_88 (x : k7 h w) (hh : pm_run PT n fr lo 88 (0, pm_l0 [.ref 0] 3, [], h, 198, sl) = some R) : ∃ v : Int32, R.1 = some (.int v) ∧ k7 R.2.1 (cond (pm_cmp .le v 0) w 0) := by
  obtain ⟨n, L', S', h', hh, hl, hf⟩ := blk_run k10_ok k10_88a n fr lo _ R (Nat.le_of_ble_eq_true rfl) (Nat.le_of_ble_eq_true rfl) hh
  dsimp only at hl hf hh
  have g0 := hl 0 (.ref 0) rfl rfl rfl
  have x := k7_10 hf x
  have hh : pm_run PT n fr lo 88 (13, L', S', h', 198, sl) = some R := hh
  obtain ⟨y, n, g1, hh⟩ := rn_ilnv rfl hh
  have hh : pm_run PT n fr lo 88 (14, L', .int y :: S', h', 198, sl) = some R := hh
  obtain ⟨n, hh⟩ := rn_if (cc := .le) (off := 44) (t := 58) rfl rfl hh
  cases z : pm_cmp .le y 0 with
  | true =>
    rw [z] at hh
    have hh : pm_run PT n fr lo 88 (58, L', S', h', 198, sl) = some R := hh
    obtain ⟨n, hh⟩ := rn_iln rfl g1 rfl hh
    have e := (rn_ret rfl (Or.inl rfl) hh).2
    rw [e]
    refine ⟨y, rfl, ?_⟩
    rw [z]
    exact x
  | false =>
    rw [z] at hh
    have hh : pm_run PT n fr lo 88 (17, L', S', h', 198, sl) = some R := hh
    obtain ⟨n, L2, S2, h2, hh, hl2, hf2⟩ := blk_run k10_ok k10_88b n fr lo _ R (Nat.le_of_ble_eq_true rfl) (Nat.le_of_ble_eq_true rfl) hh
    dsimp only at hl2 hf2 hh
    have g0 := hl2 0 (.ref 0) rfl g0 rfl
    have g1 := hl2 1 (.int y) rfl g1 rfl
    have x := k7_10 hf2 x
    have hh : pm_run PT n fr lo 88 (54, L2, S2, h2, 198, sl) = some R := hh
    obtain ⟨n, hh⟩ := rn_aln rfl g0 rfl hh
    obtain ⟨n, fr', lo', r1, hr1, hh⟩ := rn_call (w := 0) (t := 133) rfl rfl hh
    have x3 := fs_k7 x hr1
    have hz := sz_run k133_ok _ _ _ 133 _ r1 rfl hr1
    have hv := vd_run rfl hr1
    obtain ⟨rv, h3, s3⟩ := r1
    dsimp only at x3 hz hv
    subst hz
    subst hv
    have hh : pm_run PT n fr lo 88 (58, L2, S2, h3, 198, sl) = some R := hh
    obtain ⟨n, hh⟩ := rn_iln rfl g1 rfl hh
    have e := (rn_ret rfl (Or.inl rfl) hh).2
    rw [e]
    refine ⟨y, rfl, ?_⟩
    rw [z]
    exact x3
theorem xk_89 (x : k7 h w) (hh : pm_run PT n fr lo 89 (0, pm_l0 [.ref 0] 2, [], h, 198, sl) = some R) : ∃ v : Int32, R.1 = some (.int v) ∧ k7 R.2.1 (cond (pm_cmp .le v 0) w 0) := by
  obtain ⟨n, L', S', h', hh, hl, hf⟩ := blk_run k10_ok k10_89a n fr lo _ R (Nat.le_of_ble_eq_true rfl) (Nat.le_of_ble_eq_true rfl) hh
  dsimp only at hl hf hh
  have g0 := hl 0 (.ref 0) rfl rfl rfl
  have x := k7_10 hf x
  have hh : pm_run PT n fr lo 89 (13, L', S', h', 198, sl) = some R := hh
  obtain ⟨y, n, g1, hh⟩ := rn_ilnv rfl hh
  have hh : pm_run PT n fr lo 89 (14, L', .int y :: S', h', 198, sl) = some R := hh
  obtain ⟨n, hh⟩ := rn_if (cc := .le) (off := 20) (t := 34) rfl rfl hh
  cases z : pm_cmp .le y 0 with
  | true =>
    rw [z] at hh
    have hh : pm_run PT n fr lo 89 (34, L', S', h', 198, sl) = some R := hh
    obtain ⟨n, hh⟩ := rn_iln rfl g1 rfl hh
    have e := (rn_ret rfl (Or.inl rfl) hh).2
    rw [e]
    refine ⟨y, rfl, ?_⟩
    rw [z]
    exact x
  | false =>
    rw [z] at hh
    have hh : pm_run PT n fr lo 89 (17, L', S', h', 198, sl) = some R := hh
    obtain ⟨n, L2, S2, h2, hh, hl2, hf2⟩ := blk_run k10_ok k10_89b n fr lo _ R (Nat.le_of_ble_eq_true rfl) (Nat.le_of_ble_eq_true rfl) hh
    dsimp only at hl2 hf2 hh
    have g0 := hl2 0 (.ref 0) rfl g0 rfl
    have g1 := hl2 1 (.int y) rfl g1 rfl
    have x := k7_10 hf2 x
    have hh : pm_run PT n fr lo 89 (30, L2, S2, h2, 198, sl) = some R := hh
    obtain ⟨n, hh⟩ := rn_aln rfl g0 rfl hh
    obtain ⟨n, fr', lo', r1, hr1, hh⟩ := rn_call (w := 0) (t := 133) rfl rfl hh
    have x3 := fs_k7 x hr1
    have hz := sz_run k133_ok _ _ _ 133 _ r1 rfl hr1
    have hv := vd_run rfl hr1
    obtain ⟨rv, h3, s3⟩ := r1
    dsimp only at x3 hz hv
    subst hz
    subst hv
    have hh : pm_run PT n fr lo 89 (34, L2, S2, h3, 198, sl) = some R := hh
    obtain ⟨n, hh⟩ := rn_iln rfl g1 rfl hh
    have e := (rn_ret rfl (Or.inl rfl) hh).2
    rw [e]
    refine ⟨y, rfl, ?_⟩
    rw [z]
    exact x3
end KCX
