/-! the reference's courts and the roads: new courts have none -/
section RDE
variable {n fr lo sl k pc cc c N j : Nat} {h : pm_H} {R : pm_Rs} {L : pm_L} {S : List Value} {g : Nat → Int32} {A : Int32}
def roA : Nat → Bool := tnA [8, 169]
/-- a store that went through -/
theorem rn_isx {a : Nat} {i x : Int32} (hi : pm_ins PT k pc = some (.iastore, 1)) (hh : pm_run PT n fr lo k (pc, L, .int x :: .int i :: .ref a :: S, h, 198, sl) = some R) : ∃ m kd q, ∃ f' : Nat → Int32, pm_run PT m fr lo k (pc + 1, L, S, va_up h a (.inl (kd, q, .inl f')), 198, sl) = some R := by
  obtain ⟨st, m, e, hh⟩ := rn_ex hi rfl (fun q => by cases q) (fun q => by cases q) (fun q => by cases q) hh
  have e : pm_iS PT .int (fun x => x) pc L (.int x :: .int i :: .ref a :: S) h 198 sl = some st := e
  unfold pm_iS at e
  dsimp only at e
  cases ha : pm_iar PT .int h 198 a with
  | none => rw [ha] at e; cases e
  | some q =>
    obtain ⟨kd, q, f⟩ := q
    rw [ha] at e
    dsimp only at e
    by_cases z : pm_in i q = true
    · rw [if_pos z] at e
      cases e
      exact ⟨m, kd, q, _, hh⟩
    · rw [if_neg z] at e
      cases e
theorem up_ne {a b : Nat} {e : pm_E} (hn : b ≠ a) : va_up h a e b = h b := by simp [va_up, hn]
theorem up_mF {a i : Nat} {e : pm_E} {v : Value} (hn : 162 ≠ a) (q : mF h i v) : mF (va_up h a e) i v := by
  obtain ⟨fs, e1, e2⟩ := q
  exact ⟨fs, (up_ne hn).trans e1, e2⟩
theorem up_nrH {a kd q : Nat} {f : Nat → Int32} (x : nrH roA roG h) : nrH roA roG (va_up h a (.inl (kd, q, .inl f))) := nrH_arr x (fun kd n f e => by cases e)
/-- what the loops keep -/
def crI (h : pm_H) (g : Nat → Int32) (c : Nat) (A : Int32) : Prop := (mF h 11 (.ref 169) ∧ mF h 12 (.ref 170) ∧ mF h 3 (.int (nI c)) ∧ mF h 20 (.int A)) ∧ (∃ g1, h 169 = .inl (0, 36, .inl g1) ∧ ∀ j, j < 36 → g1 j = g j) ∧ nrH roA roG h
theorem crI_up {kd q : Nat} {f : Nat → Int32} (x : crI h g c A) : crI (va_up h 170 (.inl (kd, q, .inl f))) g c A := by
  obtain ⟨⟨a1, a2, a3, a4⟩, ⟨g1, b1, b2⟩, d⟩ := x
  exact ⟨⟨up_mF (by decide) a1, up_mF (by decide) a2, up_mF (by decide) a3, up_mF (by decide) a4⟩, ⟨g1, (up_ne (by decide)).trans b1, b2⟩, up_nrH d⟩
/-- comes: the road is put to 0 -/
theorem cr_comes {a b : Nat} (ha : a < 6) (hb : b < 6) (hz : g (6 * a + b) = 0) (x : crI h g c A) (hh : pm_run PT n fr lo 189 (0, pm_l0 [.ref 162, .int (nI a), .int (nI b)] 3, [], h, 198, sl) = some R) : R.1 = none ∧ crI R.2.1 g c A ∧ R.2.2 = (198, sl) := by
  obtain ⟨n, hh⟩ := rn_i rfl rfl rfl rfl hh
  obtain ⟨n, hh⟩ := rn_gfm rfl rfl x.1.2.1 hh
  obtain ⟨n, hh⟩ := rn_i rfl rfl rfl rfl hh
  obtain ⟨n, hh⟩ := rn_i rfl rfl rfl rfl hh
  obtain ⟨n, hh⟩ := rn_i rfl rfl rfl rfl hh
  obtain ⟨n, hh⟩ := rn_i rfl rfl rfl rfl hh
  obtain ⟨n, hh⟩ := rn_i rfl rfl rfl rfl hh
  obtain ⟨n, hh⟩ := rn_i rfl rfl rfl rfl hh
  obtain ⟨n, hh⟩ := rn_i rfl rfl rfl rfl hh
  obtain ⟨n, hh⟩ := rn_i rfl rfl rfl rfl hh
  obtain ⟨n, kd, q, f1, hh⟩ := rn_isx rfl hh
  have x := crI_up (kd := kd) (q := q) (f := f1) x
  generalize va_up h 170 (.inl (kd, q, .inl f1)) = ha1 at *
  have hh : pm_run PT n fr lo 189 (16, [some (.ref 162), some (.int (nI a)), some (.int (nI b))], [], ha1, 198, sl) = some R := hh
  obtain ⟨n, hh⟩ := rn_i rfl rfl rfl rfl hh
  obtain ⟨n, hh⟩ := rn_gfm rfl rfl x.1.2.1 hh
  obtain ⟨n, hh⟩ := rn_i rfl rfl rfl rfl hh
  obtain ⟨n, hh⟩ := rn_i rfl rfl rfl rfl hh
  obtain ⟨n, hh⟩ := rn_i rfl rfl rfl rfl hh
  obtain ⟨n, hh⟩ := rn_i rfl rfl rfl rfl hh
  obtain ⟨n, hh⟩ := rn_i rfl rfl rfl rfl hh
  obtain ⟨n, hh⟩ := rn_i rfl rfl rfl rfl hh
  obtain ⟨n, hh⟩ := rn_i rfl rfl rfl rfl hh
  obtain ⟨n, hh⟩ := rn_i rfl rfl rfl rfl hh
  obtain ⟨n, kd, q, f1, hh⟩ := rn_isx rfl hh
  have x := crI_up (kd := kd) (q := q) (f := f1) x
  generalize va_up ha1 170 (.inl (kd, q, .inl f1)) = ha2 at *
  have hh : pm_run PT n fr lo 189 (31, [some (.ref 162), some (.int (nI a)), some (.int (nI b))], [], ha2, 198, sl) = some R := hh
  obtain ⟨⟨a1, a2, a3, a4⟩, ⟨g1, b1, b2⟩, d⟩ := x
  obtain ⟨n, hh⟩ := rn_i rfl rfl rfl rfl hh
  obtain ⟨n, hh⟩ := rn_gfm rfl rfl a1 hh
  obtain ⟨n, hh⟩ := rn_i rfl rfl rfl rfl hh
  obtain ⟨n, hh⟩ := rn_i rfl rfl rfl rfl hh
  obtain ⟨n, hh⟩ := rn_i rfl rfl rfl rfl hh
  obtain ⟨n, hh⟩ := rn_i rfl rfl rfl rfl hh
  obtain ⟨n, hh⟩ := rn_i rfl rfl rfl rfl hh
  obtain ⟨n, hh⟩ := rn_i rfl rfl rfl rfl hh
  have hh : pm_run PT n fr lo 189 (42, [some (.ref 162), some (.int (nI a)), some (.int (nI b))], [.int 0, .int (6 * nI a + nI b), .ref 169], ha2, 198, sl) = some R := hh
  rw [ix6] at hh
  obtain ⟨n, hh⟩ := rn_ism rfl b1 (hI_in (by omega) (by omega)) (by decide) hh
  rw [nI_clamp (by omega)] at hh
  have q := rn_vret rfl rfl hh
  rw [q]
  refine ⟨rfl, ⟨⟨aset_mF (by decide) a1, aset_mF (by decide) a2, aset_mF (by decide) a3, aset_mF (by decide) a4⟩, ⟨upd g1 (6 * a + b) 0, (asR_self : aset ha2 169 36 (upd g1 (6 * a + b) 0) 169 = _), fun j hj => ?_⟩, nrH_arr d (fun kd n f e => by cases e)⟩, rfl⟩
  unfold upd
  by_cases zj : j = 6 * a + b
  · rw [if_pos zj, zj, hz]
  · rw [if_neg zj]
    exact b2 j hj
def roP (ci f : Nat) : Bool := Nat.beq ci 11 && (Nat.beq f 3 || (Nat.beq f 5 || (Nat.beq f 11 || Nat.beq f 12)))
def roPn (ci f : Nat) : Bool := Nat.beq ci 11 && (Nat.beq f 3 || (Nat.beq f 20 || (Nat.beq f 11 || Nat.beq f 12)))
def roJ (j : Nat) : Bool := Nat.beq j 0 || Nat.beq j 5
def noK (_ : Nat) : Bool := false
theorem noK_sf {P : Nat → Nat → Bool} : sf_ok P noK := fun _ _ _ _ q _ => by cases q
theorem noK_tn {C : Nat → Nat → List Bool} {G : Nat → Nat → Bool} : tn_ok C G noK := fun _ _ _ _ q _ => by cases q
def ro2X : List Nat := [0, 6, 15, 22, 45, 52, 57, 72, 78, 82, 85, 91, 92, 93, 94, 128, 161, 188, 189, 190, 192, 209]
def ro2K : Nat → Bool := sf_X ro2X
theorem ro2_all : ((List.range 271).filter (fun k => !(ro2X.any (fun x => Nat.beq x k)))).all (fun k => sf_b roP ro2K k && tn_b (tk_at roC) roG ro2K k) = true := by decide +kernel
theorem ro2_sf : sf_ok roP ro2K := sf_of sf_X_in (List.all_eq_true.mpr (fun k hk => ((Bool.and_eq_true _ _).mp (List.all_eq_true.mp ro2_all k hk)).1))
theorem ro2_tn : tn_ok (tk_at roC) roG ro2K := tn_of sf_X_in (List.all_eq_true.mpr (fun k hk => ((Bool.and_eq_true _ _).mp (List.all_eq_true.mp ro2_all k hk)).2))
theorem ro_188a : blk_ok roP ro2K c5J 188 0 70 := blk_of (by decide +kernel)
theorem ro_188at : tbk_ok (tk_at roC) roG ro2K 188 0 70 := tbk_of (by decide +kernel)
theorem ro_188b : blk_ok roPn noK roJ 188 90 164 := blk_of (by decide +kernel)
theorem ro_188bt : tbk_ok (tk_at roC) roG noK 188 90 164 := tbk_of (by decide +kernel)
/-- the inner loop -/
theorem cr_in (hc : c < 6) (hz : ∀ a b, a < 6 → b < 6 → (a = c ∨ b = c) → g (6 * a + b) = 0) {x5 : Value} (h5c : x5.category = 1) : ∀ (d o n : Nat) (L : pm_L) (h : pm_H), o + d = 6 → pm_get L 0 = some (.ref 162) → pm_get L 5 = some x5 → pm_get L 6 = some (.int (nI o)) → nrL roA L → tS roA [] S → crI h g c A → pm_run PT n fr lo 188 (167, L, S, h, 198, sl) = some R → ∃ m L' h', pm_run PT m fr lo 188 (200, L', S, h', 198, sl) = some R ∧ pm_get L' 0 = some (.ref 162) ∧ pm_get L' 5 = some x5 ∧ nrL roA L' ∧ crI h' g c A := by
  intro d
  induction d with
  | zero =>
    intro o n L h ho g0 g5 g6 nl ns x hh
    have ho : o = 6 := by omega
    subst ho
    obtain ⟨n, hh⟩ := rn_il rfl g6 rfl hh
    obtain ⟨n, hh⟩ := rn_i rfl rfl rfl rfl hh
    have hh : pm_run PT n fr lo 188 (171, L, .int (nI 6) :: .int (nI 6) :: S, h, 198, sl) = some R := hh
    obtain ⟨n, hh⟩ := rn_icmp (cc := .ge) (off := 29) (t := 200) rfl rfl hh
    rw [hI_ge (by omega) (by omega), decide_eq_true (Nat.le_refl _)] at hh
    exact ⟨n, L, h, hh, g0, g5, nl, x⟩
  | succ d ih =>
    intro o n L h ho g0 g5 g6 nl ns x hh
    obtain ⟨n, hh⟩ := rn_il rfl g6 rfl hh
    obtain ⟨n, hh⟩ := rn_i rfl rfl rfl rfl hh
    have hh : pm_run PT n fr lo 188 (171, L, .int (nI 6) :: .int (nI o) :: S, h, 198, sl) = some R := hh
    obtain ⟨n, hh⟩ := rn_icmp (cc := .ge) (off := 29) (t := 200) rfl rfl hh
    rw [hI_ge (by omega) (by omega), decide_eq_false (by omega)] at hh
    have hh : pm_run PT n fr lo 188 (174, L, S, h, 198, sl) = some R := hh
    obtain ⟨n, hh⟩ := rn_aln rfl g0 rfl hh
    obtain ⟨n, hh⟩ := rn_aln rfl g0 rfl hh
    obtain ⟨n, hh⟩ := rn_gfm rfl rfl x.1.2.2.1 hh
    obtain ⟨n, hh⟩ := rn_il rfl g6 rfl hh
    obtain ⟨n, fr', lo', r1, hr1, hh⟩ := rn_call (w := 0) (t := 189) rfl rfl hh
    obtain ⟨e1, x, e2⟩ := cr_comes hc (by omega) (hz c o hc (by omega) (Or.inl rfl)) x hr1
    obtain ⟨rv, h1, s1⟩ := r1
    dsimp only at e1 e2 x
    subst e1
    subst e2
    have hh : pm_run PT n fr lo 188 (184, L, S, h1, 198, sl) = some R := hh
    obtain ⟨n, hh⟩ := rn_aln rfl g0 rfl hh
    obtain ⟨n, hh⟩ := rn_il rfl g6 rfl hh
    obtain ⟨n, hh⟩ := rn_aln rfl g0 rfl hh
    obtain ⟨n, hh⟩ := rn_gfm rfl rfl x.1.2.2.1 hh
    obtain ⟨n, fr', lo', r1, hr1, hh⟩ := rn_call (w := 0) (t := 189) rfl rfl hh
    obtain ⟨e1, x, e2⟩ := cr_comes (by omega) hc (hz o c (by omega) hc (Or.inr rfl)) x hr1
    obtain ⟨rv, h2, s2⟩ := r1
    dsimp only at e1 e2 x
    subst e1
    subst e2
    have hh : pm_run PT n fr lo 188 (194, L, S, h2, 198, sl) = some R := hh
    obtain ⟨n, hh⟩ := rn_i rfl rfl rfl (iinc_eq g6 (Nat.le_of_ble_eq_true rfl)) hh
    obtain ⟨n, hh⟩ := rn_i rfl rfl rfl rfl hh
    have e2 : nI o + Int32.ofInt 1 = nI (o + 1) := (Int32.ofNat_add o 1).symm
    have hh : pm_run PT n fr lo 188 (167, pm_st1 L 6 (.int (nI o + Int32.ofInt 1)), S, h2, 198, sl) = some R := hh
    rw [e2] at hh
    exact ih (o + 1) n _ h2 (by omega) (lkp_st1 (J := fun j => Nat.beq j 0) rfl 0 _ rfl g0 rfl) (lkp_st1 (J := fun j => Nat.beq j 5) rfl 5 _ rfl g5 h5c) (get_st1 g6) (nrL_st1 nl (nrv_i _)) ns x hh
theorem st1_get {v w : Value} (q : pm_get (pm_st1 L j v) j = some w) : pm_get (pm_st1 L j v) j = some v := by
  unfold pm_st1 pm_get at q ⊢
  by_cases z : j < (pm_cut L j).length
  · rw [List.getElem?_set_self z]
  · rw [List.getElem?_eq_none (by rw [List.length_set]; omega)] at q
    cases q
/-- behind the loop -/
theorem cr_end (g0 : pm_get L 0 = some (.ref 162)) (x : crI h g c A) (hh : pm_run PT n fr lo 188 (216, L, S, h, 198, sl) = some R) : ∃ g1, R.2.1 169 = .inl (0, 36, .inl g1) ∧ ∀ j, j < 36 → g1 j = g j := by
  obtain ⟨n, hh⟩ := rn_aln rfl g0 rfl hh
  obtain ⟨n, fr', lo', r1, hr1, hh⟩ := rn_call (w := 0) (t := 190) rfl rfl hh
  have ht := (tn_run ro_tn ro_sf _ _ _ 190 _ r1 rfl (Nat.le_refl _) (nrL_l0 (A := roA) (nrS_cons.mpr ⟨fun p e => by cases e; rfl, fun v hv => absurd hv (by simp)⟩)) tS_e x.2.2 hr1).2
  have hf := sf_run cm_ok _ _ _ 190 _ r1 rfl hr1
  have hz := sz_run cm_ok _ _ _ 190 _ r1 rfl hr1
  have hv := vd_run rfl hr1
  obtain ⟨rv, h1, s1⟩ := r1
  dsimp only at hf hz hv ht
  subst hz
  subst hv
  have hh : pm_run PT n fr lo 188 (220, L, S, h1, 198, sl) = some R := hh
  obtain ⟨n, hh⟩ := rn_aln rfl g0 rfl hh
  obtain ⟨n, hh⟩ := rn_gfm rfl rfl (fm_mF hf rfl x.1.2.2.2) hh
  have e := (rn_ret rfl (Or.inl rfl) hh).2
  rw [e]
  obtain ⟨g1, b1, b2⟩ := x.2.1
  exact ⟨g1, (ht 169 rfl).trans b1, b2⟩
/-- the outer loop -/
theorem cr_out (hcN : cc + N ≤ 6) (hz : ∀ a b, a < 6 → b < 6 → (cc ≤ a ∨ cc ≤ b) → g (6 * a + b) = 0) : ∀ (d k n : Nat) (L : pm_L) (S : List Value) (h : pm_H), k + d = N → pm_get L 0 = some (.ref 162) → pm_get L 5 = some (.int (nI k)) → nrL roA L → tS roA [] S → crI h g (cc + k) (nI N) → pm_run PT n fr lo 188 (81, L, S, h, 198, sl) = some R → ∃ g1, R.2.1 169 = .inl (0, 36, .inl g1) ∧ ∀ j, j < 36 → g1 j = g j := by
  intro d
  induction d with
  | zero =>
    intro k n L S h hk g0 g5 nl ns x hh
    have hk : k = N := by omega
    subst hk
    obtain ⟨n, hh⟩ := rn_il rfl g5 rfl hh
    obtain ⟨n, hh⟩ := rn_aln rfl g0 rfl hh
    obtain ⟨n, hh⟩ := rn_gfm rfl rfl x.1.2.2.2 hh
    obtain ⟨n, hh⟩ := rn_icmp (cc := .ge) (off := 129) (t := 216) rfl rfl hh
    rw [hI_ge (by omega) (by omega), decide_eq_true (Nat.le_refl _)] at hh
    exact cr_end g0 x hh
  | succ d ih =>
    intro k n L S h hk g0 g5 nl ns x hh
    obtain ⟨n, hh⟩ := rn_il rfl g5 rfl hh
    obtain ⟨n, hh⟩ := rn_aln rfl g0 rfl hh
    obtain ⟨n, hh⟩ := rn_gfm rfl rfl x.1.2.2.2 hh
    obtain ⟨n, hh⟩ := rn_icmp (cc := .ge) (off := 129) (t := 216) rfl rfl hh
    rw [hI_ge (by omega) (by omega), decide_eq_false (by omega)] at hh
    have hh : pm_run PT n fr lo 188 (90, L, S, h, 198, sl) = some R := hh
    obtain ⟨n, L1, S1, h1, hh, ⟨hl, hf⟩, ⟨nl, ns, nh⟩, ha⟩ := tblk_run (A := roA) noK_sf ro_188b noK_tn ro_188bt n fr lo (90, L, S, h, 198, sl) R (Nat.le_of_ble_eq_true rfl) (Nat.le_of_ble_eq_true rfl) (Nat.le_refl _) nl ns x.2.2 hh
    dsimp only at hl hf ha hh
    have g0 := hl 0 _ rfl g0 rfl
    have g5 := hl 5 _ rfl g5 rfl
    obtain ⟨⟨a1, a2, a3, a4⟩, ⟨g1, b1, b2⟩, -⟩ := x
    have x : crI h1 g (cc + k) (nI N) := ⟨⟨fm_mF hf rfl a1, fm_mF hf rfl a2, fm_mF hf rfl a3, fm_mF hf rfl a4⟩, ⟨g1, (ha 169 rfl).trans b1, b2⟩, nh⟩
    have hh : pm_run PT n fr lo 188 (164, L1, S1, h1, 198, sl) = some R := hh
    obtain ⟨n, hh⟩ := rn_i rfl rfl rfl rfl hh
    obtain ⟨st, n, e6, hh⟩ := rn_ex (i := .istore 6) (len := 2) rfl rfl (fun q => by cases q) (fun q => by cases q) (fun q => by cases q) hh
    have e6 : st = (167, pm_st1 L1 6 (.int (nI 0)), S1, h1, 198, sl) := by
      have e6 : pm_so 0 2 (pm_max PT 188) 165 6 L1 (.int (Int32.ofInt 0) :: S1) h1 198 sl = some st := e6
      unfold pm_so at e6
      dsimp only at e6
      rw [if_pos ⟨rfl, Nat.le_of_ble_eq_true rfl⟩] at e6
      cases e6
      rfl
    subst e6
    obtain ⟨y6, m6, g6, -⟩ := rn_ilv (j := 6) rfl hh
    have g6 := st1_get g6
    obtain ⟨n, L2, h2, hh, g0, g5, nl, x⟩ := cr_in (S := S1) (A := nI N) (c := cc + k) (by omega) (fun a b ha hb q => hz a b ha hb (by omega)) (x5 := .int (nI k)) rfl 6 0 n _ h1 (by omega) (lkp_st1 (J := fun j => Nat.beq j 0) rfl 0 _ rfl g0 rfl) (lkp_st1 (J := fun j => Nat.beq j 5) rfl 5 _ rfl g5 rfl) g6 (nrL_st1 nl (nrv_i _)) ns x hh
    obtain ⟨n, hh⟩ := rn_aln rfl g0 rfl hh
    obtain ⟨n, hh⟩ := rn_i rfl rfl rfl rfl hh
    obtain ⟨n, hh⟩ := rn_gfm rfl rfl x.1.2.2.1 hh
    obtain ⟨n, hh⟩ := rn_i rfl rfl rfl rfl hh
    obtain ⟨n, hh⟩ := rn_i rfl rfl rfl rfl hh
    obtain ⟨n, hh⟩ := rn_pfm (w := .int (nI (cc + k))) rfl rfl rfl (by decide) x.1.2.2.1 hh
    obtain ⟨n, hh⟩ := rn_i rfl rfl rfl (iinc_eq g5 (Nat.le_of_ble_eq_true rfl)) hh
    obtain ⟨n, hh⟩ := rn_i rfl rfl rfl rfl hh
    have e1 : nI (cc + k) + Int32.ofInt 1 = nI (cc + (k + 1)) := (Int32.ofNat_add (cc + k) 1).symm
    have e2 : nI k + Int32.ofInt 1 = nI (k + 1) := (Int32.ofNat_add k 1).symm
    have hh : pm_run PT n fr lo 188 (81, pm_st1 L2 5 (.int (nI k + Int32.ofInt 1)), S1, mset h2 3 (.int (nI (cc + k) + Int32.ofInt 1)), 198, sl) = some R := hh
    rw [e1, e2] at hh
    obtain ⟨⟨a1, a2, a3, a4⟩, ⟨g1, b1, b2⟩, nh⟩ := x
    refine ih (k + 1) n _ S1 _ (by omega) (lkp_st1 (J := fun j => Nat.beq j 0) rfl 0 _ rfl g0 rfl) (get_st1 g5) (nrL_st1 nl (nrv_i _)) ns ⟨⟨mF_ne (by decide) a1, mF_ne (by decide) a2, mF_self a3, mF_ne (by decide) a4⟩, ⟨g1, mset_arr (by decide) b1, b2⟩, ?_⟩ hh
    obtain ⟨fs, m1, m2⟩ := id a3
    rw [mset_of m1]
    exact nrH_fld nh m1 (nrv_i _)
/-- what courts answers is how many were read -/
def pvK (k : Nat) : Bool := Nat.beq k 189
theorem pv_ok : sf_ok c5P pvK := sf_of (N := [189]) (fun k h => by rw [Nat.eq_of_beq_eq_true h]; decide) (by decide +kernel)
theorem pv_blk : blk_ok c5P pvK c5J 188 81 216 := blk_of (by decide +kernel)
theorem pv_81 {w : Value} {c5 : Int32} (g0 : pm_get L 0 = some (.ref 162)) (h20 : mF h 20 w) (h5 : mF h 5 (.int c5)) (hh : pm_run PT n fr lo 188 (81, L, S, h, 198, sl) = some R) : ∃ x : Int32, w = .int x ∧ R.1 = some (.int x) := by
  obtain ⟨n, L2, S2, h2, hh, hl2, hf2⟩ := blk_run pv_ok pv_blk n fr lo _ R (Nat.le_of_ble_eq_true rfl) (Nat.le_of_ble_eq_true rfl) hh
  dsimp only at hl2 hf2 hh
  have g0 := hl2 0 (.ref 162) rfl g0 rfl
  have q5 := fm_mF hf2 rfl h5
  have q20 := fm_mF hf2 rfl h20
  have hh : pm_run PT n fr lo 188 (216, L2, S2, h2, 198, sl) = some R := hh
  obtain ⟨n, hh⟩ := rn_aln rfl g0 rfl hh
  obtain ⟨n, fr', lo', r1, hr1, hh⟩ := rn_call (w := 0) (t := 190) rfl rfl hh
  obtain ⟨y, rfl, a1, a2, a3, a4⟩ := isN_run q20 q5 hr1
  obtain ⟨rv, h3, s3⟩ := r1
  dsimp only at a1 a2 a3 a4
  subst a3
  subst a4
  have hh : pm_run PT n fr lo 188 (220, L2, S2, h3, 198, sl) = some R := hh
  obtain ⟨n, hh⟩ := rn_aln rfl g0 rfl hh
  obtain ⟨n, hh⟩ := rn_gfm rfl rfl a1 hh
  have e := (rn_ret rfl (Or.inl rfl) hh).2
  rw [e]
  exact ⟨y, rfl, rfl⟩
theorem cr_188 (hI : mInv h) (h3 : mF h 3 (.int (nI cc))) (e9 : h 169 = .inl (0, 36, .inl g)) (hz : ∀ a b, a < 6 → b < 6 → (cc ≤ a ∨ cc ≤ b) → g (6 * a + b) = 0) (hA : R.1 = some (.int A)) (hN : (A = nI N ∧ cc + N ≤ 6) ∨ pm_cmp .le A 0 = true) (hh : pm_run PT n fr lo 188 (0, pm_l0 [.ref 162] 7, [], h, 198, sl) = some R) : ∃ g1, R.2.1 169 = .inl (0, 36, .inl g1) ∧ ∀ j, j < 36 → g1 j = g j := by
  have h11 := ty_ref hI.1 (g := 11) (p := 169) rfl
  have h12 := ty_ref hI.1 (g := 12) (p := 170) rfl
  obtain ⟨w5, h5⟩ := ty_mi hI.1 5 (by decide +kernel) (by decide +kernel)
  obtain ⟨w20, h20⟩ := ty_mi hI.1 20 (by decide +kernel) (by decide +kernel)
  obtain ⟨n, L', S', h', hh, ⟨hl, hf⟩, ⟨nl, ns, nh⟩, ha⟩ := tblk_run (A := roA) ro2_sf ro_188a ro2_tn ro_188at n fr lo _ R (Nat.le_of_ble_eq_true rfl) (Nat.le_of_ble_eq_true rfl) (Nat.le_refl _) (nrL_l0 (A := roA) (nrS_cons.mpr ⟨fun p e => by cases e; rfl, fun v hv => absurd hv (by simp)⟩)) tS_e (tn_ty ro_tb hI.1) hh
  dsimp only at hl hf ha hh
  have g0 := hl 0 (.ref 162) rfl rfl rfl
  have q3 := fm_mF hf rfl h3
  have q5 := fm_mF hf rfl h5
  have q11 := fm_mF hf rfl h11
  have q12 := fm_mF hf rfl h12
  obtain ⟨w20, q20⟩ := mF_ex hf h20
  have e9 := (ha 169 rfl).trans e9
  have hh : pm_run PT n fr lo 188 (70, L', S', h', 198, sl) = some R := hh
  obtain ⟨x, n, g4, hh⟩ := rn_ilv rfl hh
  obtain ⟨n, hh⟩ := rn_if (cc := .ge) (off := 6) (t := 78) rfl rfl hh
  cases z : pm_cmp .ge x 0 with
  | false =>
    rw [z] at hh
    have hh : pm_run PT n fr lo 188 (75, L', S', h', 198, sl) = some R := hh
    obtain ⟨n, hh⟩ := rn_il rfl g4 rfl hh
    have e := (rn_ret rfl (Or.inl rfl) hh).2
    rw [e]
    exact ⟨g, e9, fun _ _ => rfl⟩
  | true =>
    rw [z] at hh
    have hh : pm_run PT n fr lo 188 (78, L', S', h', 198, sl) = some R := hh
    obtain ⟨n, hh⟩ := rn_i rfl rfl rfl rfl hh
    obtain ⟨st, n, e5, hh⟩ := rn_ex (i := .istore 5) (len := 2) rfl rfl (fun q => by cases q) (fun q => by cases q) (fun q => by cases q) hh
    have e5 : st = (81, pm_st1 L' 5 (.int (nI 0)), S', h', 198, sl) := by
      have e5 : pm_so 0 2 (pm_max PT 188) 79 5 L' (.int (Int32.ofInt 0) :: S') h' 198 sl = some st := e5
      unfold pm_so at e5
      dsimp only at e5
      rw [if_pos ⟨rfl, Nat.le_of_ble_eq_true rfl⟩] at e5
      cases e5
      rfl
    subst e5
    obtain ⟨y5, m5, g5, -⟩ := rn_ilv (j := 5) rfl hh
    have g5 := st1_get g5
    have g0 : pm_get (pm_st1 L' 5 (.int (nI 0))) 0 = some (.ref 162) := lkp_st1 (J := fun j => Nat.beq j 0) rfl 0 _ rfl g0 rfl
    obtain ⟨y, rfl, ey⟩ := pv_81 g0 q20 q5 hh
    rw [hA] at ey
    cases ey
    have x : crI h' g cc A := ⟨⟨q11, q12, q3, q20⟩, ⟨g, e9, fun _ _ => rfl⟩, nh⟩
    rcases hN with ⟨rfl, hN⟩ | hN
    · exact cr_out hN hz N 0 n _ S' h' (by omega) g0 g5 (nrL_st1 nl (nrv_i _)) ns x hh
    · obtain ⟨n, hh⟩ := rn_il rfl g5 rfl hh
      obtain ⟨n, hh⟩ := rn_aln rfl g0 rfl hh
      obtain ⟨n, hh⟩ := rn_gfm rfl rfl x.1.2.2.2 hh
      obtain ⟨n, hh⟩ := rn_icmp (cc := .ge) (off := 129) (t := 216) rfl rfl hh
      have e : pm_cmp .ge (nI 0) A = true := hN
      rw [e] at hh
      exact cr_end g0 x hh
end RDE
