/-! year: the reference reads all acts and does them -/
section YRM
variable {n fr lo sl n0 cc gc k t c u fi si : Nat} {q : QT} {h h1 h2 H X M : pm_H} {v1 v2 v3 v w : Int32} {R : pm_Rs} {f : Nat → Int32}
/-- the acts that have been read -/
def yTold (H : pm_H) (f : Nat → Int32) (t c : Nat) : Prop := ∀ j, j < c → Ar H 179 j = nI (yKd f t j) ∧ Ar H 180 j = nI (yd f (yPos f t j + 1)) ∧ (yKd f t j ≠ 1 → Ar H 181 j = nI (yd f (yPos f t j + 2))) ∧ (3 ≤ yKd f t j → Ar H 182 j = f (yPos f t j + 3) - nI 48)
theorem yTold_e (e : ∀ a, a = 179 ∨ a = 180 ∨ a = 181 ∨ a = 182 → h1 a = h a) (z : yTold h f t c) : yTold h1 f t c := by
  intro j hj
  rw [Ar_e (e 179 (Or.inl rfl)), Ar_e (e 180 (Or.inr (Or.inl rfl))), Ar_e (e 181 (Or.inr (Or.inr (Or.inl rfl)))), Ar_e (e 182 (Or.inr (Or.inr (Or.inr rfl))))]
  exact z j hj
/-- the reading of all acts -/
theorem rd_loop {x3 x4 : Option Value} (ht : t ≤ 60) (ef : Ar h 172 = f) (e17 : Fi h 162 17 = nI t) : ∀ (k c n : Nat) (H : pm_H), t + 1 ≤ yPos f t c + k → yQ h H t (yPos f t c) c → yOk f t c → yTold H f t c → pm_run PT n fr lo 228 (19, [some (.ref 162), some (.int v1), some (.int 1), x3, x4], [], H, 198, sl) = some R → ∃ (m : Nat) (H' : pm_H) (c' : Nat), yQ h H' t (yR f t k (yPos f t c)).2 c' ∧ pm_run PT m fr lo 228 (42, [some (.ref 162), some (.int v1), some (.int (cond (yR f t k (yPos f t c)).1 1 0)), x3, x4], [], H', 198, sl) = some R ∧ ((yR f t k (yPos f t c)).1 = true → yOk f t c' ∧ yPos f t c' = (yR f t k (yPos f t c)).2 ∧ yTold H' f t c')
  | 0, c, n, H, e, z, ok, td, hh => by
    have := (yPos_le c ok).1
    omega
  | k + 1, c, n, H, e, z, ok, td, hh => by
    have hle := yPos_le c ok
    have e16 := z.2.1
    have e17H : Fi H 162 17 = nI t := (yQ_17 z).trans e17
    have e172 : Ar H 172 = f := (yQ_172 z).trans ef
    obtain ⟨n, hh⟩ := rn_i rfl rfl rfl rfl hh
    have hh : pm_run PT n fr lo 228 (20, [some (.ref 162), some (.int v1), some (.int 1), x3, x4], [.int 1], H, 198, sl) = some R := hh
    obtain ⟨n, hh⟩ := rn_if (cc := .eq) (off := 22) (t := 42) rfl rfl hh
    rw [show pm_cmp .eq (1 : Int32) 0 = false by decide] at hh
    have hh : pm_run PT n fr lo 228 (23, [some (.ref 162), some (.int v1), some (.int 1), x3, x4], [], H, 198, sl) = some R := hh
    obtain ⟨n, hh⟩ := rn_i rfl rfl rfl rfl hh
    have hh : pm_run PT n fr lo 228 (24, [some (.ref 162), some (.int v1), some (.int 1), x3, x4], [.ref 162], H, 198, sl) = some R := hh
    obtain ⟨n, hh⟩ := rn_gi (x := nI (yPos f t c)) z.1.1 rfl rfl (by decide) rfl (by decide) rfl e16 hh
    obtain ⟨n, hh⟩ := rn_i rfl rfl rfl rfl hh
    have hh : pm_run PT n fr lo 228 (28, [some (.ref 162), some (.int v1), some (.int 1), x3, x4], [.ref 162, .int (nI (yPos f t c))], H, 198, sl) = some R := hh
    obtain ⟨n, hh⟩ := rn_gi (x := nI t) z.1.1 rfl rfl (by decide) rfl (by decide) rfl e17H hh
    have hh : pm_run PT n fr lo 228 (31, [some (.ref 162), some (.int v1), some (.int 1), x3, x4], [.int (nI t), .int (nI (yPos f t c))], H, 198, sl) = some R := hh
    obtain ⟨n, hh⟩ := rn_icmp (cc := .ge) (off := 11) (t := 42) rfl rfl hh
    rw [hI_ge (by omega) (by omega)] at hh
    by_cases hlt : yPos f t c < t
    · rw [decide_eq_false (by omega)] at hh
      have hh : pm_run PT n fr lo 228 (34, [some (.ref 162), some (.int v1), some (.int 1), x3, x4], [], H, 198, sl) = some R := hh
      obtain ⟨n, hh⟩ := rn_i rfl rfl rfl rfl hh
      have hh : pm_run PT n fr lo 228 (35, [some (.ref 162), some (.int v1), some (.int 1), x3, x4], [.ref 162], H, 198, sl) = some R := hh
      obtain ⟨n, fr', lo', r1, hr1, hh⟩ := rn_call (w := 0) (t := 226) rfl rfl hh
      obtain ⟨H1, z1, er, oth, told⟩ := ra_run z.1.1 e16 e17H z.2.2 (by omega) (by omega) (by omega) hr1
      rw [e172] at z1 er told
      subst er
      have z2 : yQ h H1 t (yA f t (yPos f t c)).2 (c + 1) := ⟨⟨z1.1.1, fr_g rfl rfl z1.1.2 z.1.2⟩, z1.2⟩
      have eR : yR f t (k + 1) (yPos f t c) = cond (yA f t (yPos f t c)).1 (yR f t k (yA f t (yPos f t c)).2) (yA f t (yPos f t c)) := if_pos hlt
      have hh : pm_run PT n fr lo 228 (38, [some (.ref 162), some (.int v1), some (.int 1), x3, x4], [.int (cond (yA f t (yPos f t c)).1 1 0)], H1, 198, sl) = some R := hh
      obtain ⟨n, hh⟩ := rn_i rfl rfl rfl rfl hh
      obtain ⟨n, hh⟩ := rn_i rfl rfl rfl rfl hh
      have hh : pm_run PT n fr lo 228 (19, [some (.ref 162), some (.int v1), some (.int (cond (yA f t (yPos f t c)).1 1 0)), x3, x4], [], H1, 198, sl) = some R := hh
      have hA := yA_le (f := f) (t := t) hle.1
      cases eA : (yA f t (yPos f t c)).1 with
      | true =>
        rw [eA] at hh
        have hh : pm_run PT n fr lo 228 (19, [some (.ref 162), some (.int v1), some (.int 1), x3, x4], [], H1, 198, sl) = some R := hh
        rw [eA] at eR
        have eR : yR f t (k + 1) (yPos f t c) = yR f t k (yPos f t (c + 1)) := eR
        obtain ⟨kd, eL⟩ : ∃ kd, yL f t (yPos f t c) = some kd := by
          cases y : yL f t (yPos f t c) with
          | none =>
            unfold yA at eA
            rw [y] at eA
            cases eA
          | some kd => exact ⟨kd, rfl⟩
        have ok2 : yOk f t (c + 1) := by
          intro j hj
          by_cases y : j = c
          · rw [y]
            exact ⟨⟨kd, eL⟩, eA⟩
          · exact ok j (by omega)
        obtain ⟨-, -, -, d1, d2, -⟩ := y_act eL eA
        obtain ⟨t1, t2, t3, t4⟩ := told kd eL eA
        have hk : yKd f t c = kd := by
          unfold yKd
          rw [eL]
          rfl
        have td2 : yTold H1 f t (c + 1) := by
          intro j hj
          by_cases y : j = c
          · rw [y, hk]
            exact ⟨t1, t2.trans (y_dig d1).1, fun e => (t3 e).trans (y_dig (d2 e)).1, t4⟩
          · rw [oth 179 (Or.inl rfl) j y, oth 180 (Or.inr (Or.inl rfl)) j y, oth 181 (Or.inr (Or.inr (Or.inl rfl))) j y, oth 182 (Or.inr (Or.inr (Or.inr rfl))) j y]
            exact td j (by omega)
        have fuel := hA.2.2 eA
        have pos2 : yPos f t (c + 1) = (yA f t (yPos f t c)).2 := rfl
        rw [← pos2] at z2
        have r := rd_loop ht ef e17 k (c + 1) n H1 (by rw [pos2]; omega) z2 ok2 td2 hh
        rw [eR]
        exact r
      | false =>
        rw [eA] at hh eR
        have eR : yR f t (k + 1) (yPos f t c) = yA f t (yPos f t c) := eR
        have hh : pm_run PT n fr lo 228 (19, [some (.ref 162), some (.int v1), some (.int 0), x3, x4], [], H1, 198, sl) = some R := hh
        obtain ⟨n, hh⟩ := rn_i rfl rfl rfl rfl hh
        have hh : pm_run PT n fr lo 228 (20, [some (.ref 162), some (.int v1), some (.int 0), x3, x4], [.int 0], H1, 198, sl) = some R := hh
        obtain ⟨n, hh⟩ := rn_if (cc := .eq) (off := 22) (t := 42) rfl rfl hh
        rw [show pm_cmp .eq (0 : Int32) 0 = true by decide] at hh
        have hh : pm_run PT n fr lo 228 (42, [some (.ref 162), some (.int v1), some (.int 0), x3, x4], [], H1, 198, sl) = some R := hh
        rw [eR, eA]
        exact ⟨n, H1, c + 1, z2, hh, fun z => Bool.noConfusion z⟩
    · rw [decide_eq_true (by omega)] at hh
      have eR : yR f t (k + 1) (yPos f t c) = (true, yPos f t c) := if_neg hlt
      have hh : pm_run PT n fr lo 228 (42, [some (.ref 162), some (.int v1), some (.int 1), x3, x4], [], H, 198, sl) = some R := hh
      rw [eR]
      exact ⟨n, H, c, z, hh, fun _ => ⟨ok, rfl, td⟩⟩
theorem rd_run {x3 x4 : Option Value} (ht : t ≤ 60) (ef : Ar h 172 = f) (e17 : Fi h 162 17 = nI t) (w : WT h) (e16 : Fi h 162 16 = nI 0) (e35 : Fi h 162 35 = nI 0) (hh : pm_run PT n fr lo 228 (19, [some (.ref 162), some (.int v1), some (.int 1), x3, x4], [], h, 198, sl) = some R) : ∃ (m : Nat) (H' : pm_H) (c' : Nat), yQ h H' t (yR f t 61 0).2 c' ∧ pm_run PT m fr lo 228 (42, [some (.ref 162), some (.int v1), some (.int (cond (yR f t 61 0).1 1 0)), x3, x4], [], H', 198, sl) = some R ∧ ((yR f t 61 0).1 = true → yOk f t c' ∧ yPos f t c' = (yR f t 61 0).2 ∧ yTold H' f t c') := by
  have e0 : yPos f t 0 = 0 := rfl
  have go := fun k => rd_loop (v1 := v1) (R := R) (fr := fr) (lo := lo) (sl := sl) (x3 := x3) (x4 := x4) ht ef e17 k 0 n h
  rw [e0] at go
  exact go 61 (by omega) ⟨⟨w, fr_0⟩, e16, e35⟩ (fun j hj => absurd hj (Nat.not_lt_zero j)) (fun j hj => absurd hj (Nat.not_lt_zero j)) hh
theorem yR_le : ∀ (k p : Nat), p ≤ t → (yR f t k p).2 ≤ t
  | 0, p, hp => hp
  | k + 1, p, hp => by
    have hA := yA_le (f := f) (t := t) hp
    by_cases hlt : p < t
    · have eR : yR f t (k + 1) p = cond (yA f t p).1 (yR f t k (yA f t p).2) (yA f t p) := if_pos hlt
      rw [eR]
      cases (yA f t p).1 with
      | true => exact yR_le k _ hA.2.1
      | false => exact hA.2.1
    · have eR : yR f t (k + 1) p = (true, p) := if_neg hlt
      rw [eR]
      exact hp
theorem m1q_ge : ∀ p, p < 61 → pm_cmp .ge (Int32.ofInt (-1) - nI p) 0 = false := by decide +kernel
def yHW : List Nat := [162, 179, 180, 181, 182]
def yHV : List (Nat × Nat) := [(162, 0), (162, 15), (162, 16), (162, 17), (162, 18), (162, 35)]
/-- what stands behind the reading -/
def yGood (n0 : Nat) (r : Bool × Nat) : Bool := r.1 && decide (r.2 = n0)
theorem yh_run (hw : WT h) (hn : n0 ≤ 80) (h15 : Fi h 162 15 = nI n0) (hh : pm_run PT n fr lo 228 (0, pm_l0 [.ref 162] 5, [], h, 198, sl) = some R) : ∃ (H : pm_H) (c : Nat), (WT H ∧ frm yHW yHV h H) ∧ Fi H 162 35 = nI c ∧ ((yGood n0 (yR (Ar h 172) (min n0 60) 61 0) = false ∧ R = (some (.int (Int32.ofInt (-1) - nI (yR (Ar h 172) (min n0 60) 61 0).2)), H, 198, sl)) ∨ (yGood n0 (yR (Ar h 172) (min n0 60) 61 0) = true ∧ (yOk (Ar h 172) (min n0 60) c ∧ yPos (Ar h 172) (min n0 60) c = n0 ∧ yTold H (Ar h 172) (min n0 60) c) ∧ ∃ (m : Nat) (v1 v2 v3 : Int32), pm_run PT m fr lo 228 (57, [some (.ref 162), some (.int v1), some (.int v2), some (.int v3), none], [], H, 198, sl) = some R)) := by
  obtain ⟨n, hh⟩ := rn_i rfl rfl rfl rfl hh
  obtain ⟨n, hh⟩ := rn_i rfl rfl rfl rfl hh
  have m0 : mF h 0 (.int (Fi h 162 0)) := wt_i hw (by decide) rfl (by decide) rfl
  obtain ⟨n, hh⟩ := rn_pfm rfl rfl rfl (by decide) m0 hh
  rw [mset_w (g := 0) hw rfl rfl] at hh
  have w0 : WT (fset h 162 0 (.int (Int32.ofInt 0))) := wt_fs rfl (by decide) rfl hw
  have f0 : ∀ g, g ≠ 0 → Fi (fset h 162 0 (.int (Int32.ofInt 0))) 162 g = Fi h 162 g := fun g hg => Fi_n (Or.inr hg)
  have fr0 : frm yHW yHV h (fset h 162 0 (.int (Int32.ofInt 0))) := fr_f rfl rfl fr_0
  obtain ⟨n, hh⟩ := rn_i rfl rfl rfl rfl hh
  obtain ⟨n, hh⟩ := rn_i rfl rfl rfl rfl hh
  have hh : pm_run PT n fr lo 228 (8, [some (.ref 162), none, none, none, none], [.int (nI 60), .ref 162], fset h 162 0 (.int (Int32.ofInt 0)), 198, sl) = some R := hh
  generalize fset h 162 0 (.int (Int32.ofInt 0)) = ha at *
  have hh : pm_run PT n fr lo 228 (8, [some (.ref 162), none, none, none, none], [.int (nI 60), .ref 162], ha, 198, sl) = some R := hh
  obtain ⟨n, fr', lo', r1, hr1, hh⟩ := rn_call (w := 0) (t := 180) rfl rfl hh
  have Mf : ∀ {g : Nat} {as : List av}, wd (bB 162) = .inr (11, as) → as[g]? = some ai_top → mF ha g (.int (Fi ha 162 g)) := fun hb hg => wt_i w0 (by decide) hb (by decide) hg
  have g15 : mF ha 15 (.int (nI n0)) := by
    have z := Mf (g := 15) rfl rfl
    rw [f0 15 (by decide), h15] at z
    exact z
  have er := rn_dt (F := 10) (Lo := 1000) (hd_begins (fr := 10) (lo := 1000) (sl := sl) (m := 60) g15 (Mf (g := 16) rfl rfl) (Mf (g := 17) rfl rfl) (Mf (g := 18) rfl rfl) hn (by decide) (by decide) (by decide)) hr1
  subst er
  have hh : pm_run PT n fr lo 228 (11, [some (.ref 162), none, none, none, none], [.int (nI n0)], hbeg ha n0 60, 198, sl) = some R := hh
  have eb : hbeg ha n0 60 = fset (fset (fset (fset ha 162 15 (.int 0)) 162 16 (.int 0)) 162 18 (.int 0)) 162 17 (.int (nI (min n0 60))) := by
    have a1 : WT (fset ha 162 15 (.int 0)) := wt_fs rfl (by decide) rfl w0
    have a2 : WT (fset (fset ha 162 15 (.int 0)) 162 16 (.int 0)) := wt_fs rfl (by decide) rfl a1
    have a3 : WT (fset (fset (fset ha 162 15 (.int 0)) 162 16 (.int 0)) 162 18 (.int 0)) := wt_fs rfl (by decide) rfl a2
    unfold hbeg
    rw [mset_w (g := 15) w0 rfl rfl, mset_w (g := 16) a1 rfl rfl, mset_w (g := 18) a2 rfl rfl, mset_w (g := 17) a3 rfl rfl]
  rw [eb] at hh
  have b1 : WT (fset (fset (fset (fset ha 162 15 (.int 0)) 162 16 (.int 0)) 162 18 (.int 0)) 162 17 (.int (nI (min n0 60)))) := wt_fs rfl (by decide) rfl (wt_fs rfl (by decide) rfl (wt_fs rfl (by decide) rfl (wt_fs rfl (by decide) rfl w0)))
  have b2 : frm yHW yHV h (fset (fset (fset (fset ha 162 15 (.int 0)) 162 16 (.int 0)) 162 18 (.int 0)) 162 17 (.int (nI (min n0 60)))) := fr_f rfl rfl (fr_f rfl rfl (fr_f rfl rfl (fr_f rfl rfl fr0)))
  have b16 : Fi (fset (fset (fset (fset ha 162 15 (.int 0)) 162 16 (.int 0)) 162 18 (.int 0)) 162 17 (.int (nI (min n0 60)))) 162 16 = nI 0 := (Fi_n (Or.inr (by decide))).trans ((Fi_n (Or.inr (by decide))).trans (Fi_s (wt_fs rfl (by decide) rfl w0) (by decide) rfl (by decide) rfl))
  have b17 : Fi (fset (fset (fset (fset ha 162 15 (.int 0)) 162 16 (.int 0)) 162 18 (.int 0)) 162 17 (.int (nI (min n0 60)))) 162 17 = nI (min n0 60) := Fi_s (wt_fs rfl (by decide) rfl (wt_fs rfl (by decide) rfl (wt_fs rfl (by decide) rfl w0))) (by decide) rfl (by decide) rfl
  generalize fset (fset (fset (fset ha 162 15 (.int 0)) 162 16 (.int 0)) 162 18 (.int 0)) 162 17 (.int (nI (min n0 60))) = hb at *
  have hh : pm_run PT n fr lo 228 (11, [some (.ref 162), none, none, none, none], [.int (nI n0)], hb, 198, sl) = some R := hh
  obtain ⟨n, hh⟩ := rn_i rfl rfl rfl rfl hh
  obtain ⟨n, hh⟩ := rn_i rfl rfl rfl rfl hh
  obtain ⟨n, hh⟩ := rn_i rfl rfl rfl rfl hh
  have m35 : mF hb 35 (.int (Fi hb 162 35)) := wt_i b1 (by decide) rfl (by decide) rfl
  obtain ⟨n, hh⟩ := rn_pfm rfl rfl rfl (by decide) m35 hh
  rw [mset_w (g := 35) b1 rfl rfl] at hh
  have d1 : WT (fset hb 162 35 (.int (nI 0))) := wt_fs rfl (by decide) rfl b1
  have d2 : frm yHW yHV h (fset hb 162 35 (.int (nI 0))) := fr_f rfl rfl b2
  have d16 : Fi (fset hb 162 35 (.int (nI 0))) 162 16 = nI 0 := (Fi_n (Or.inr (by decide))).trans b16
  have d17 : Fi (fset hb 162 35 (.int (nI 0))) 162 17 = nI (min n0 60) := (Fi_n (Or.inr (by decide))).trans b17
  have d35 : Fi (fset hb 162 35 (.int (nI 0))) 162 35 = nI 0 := Fi_s b1 (by decide) rfl (by decide) rfl
  have hh : pm_run PT n fr lo 228 (17, [some (.ref 162), some (.int (nI n0)), none, none, none], [], fset hb 162 35 (.int (nI 0)), 198, sl) = some R := hh
  generalize fset hb 162 35 (.int (nI 0)) = hd at *
  have hh : pm_run PT n fr lo 228 (17, [some (.ref 162), some (.int (nI n0)), none, none, none], [], hd, 198, sl) = some R := hh
  obtain ⟨n, hh⟩ := rn_i rfl rfl rfl rfl hh
  obtain ⟨n, hh⟩ := rn_i rfl rfl rfl rfl hh
  have hh : pm_run PT n fr lo 228 (19, [some (.ref 162), some (.int (nI n0)), some (.int 1), none, none], [], hd, 198, sl) = some R := hh
  have et : Ar hd 172 = Ar h 172 := Ar_e (d2.1 172 rfl)
  obtain ⟨m, H, c, z, hm, zt⟩ := rd_run (h := hd) (t := min n0 60) (f := Ar h 172) (by omega) et d17 d1 d16 d35 hh
  have hr := yR_le (f := Ar h 172) (t := min n0 60) 61 0 (Nat.zero_le _)
  generalize yR (Ar h 172) (min n0 60) 61 0 = r at *
  obtain ⟨rb, rp⟩ := r
  dsimp only at z hm zt hr
  refine ⟨H, c, ⟨z.1.1, fr_g rfl rfl z.1.2 d2⟩, z.2.2, ?_⟩
  obtain ⟨m, hm⟩ := rn_i rfl rfl rfl rfl hm
  obtain ⟨m, hm⟩ := rn_i rfl rfl rfl rfl hm
  obtain ⟨m, hm⟩ := rn_i rfl rfl rfl rfl hm
  obtain ⟨m, hm⟩ := rn_i rfl rfl rfl rfl hm
  have hm : pm_run PT m fr lo 228 (47, [some (.ref 162), some (.int (nI n0)), some (.int (cond rb 1 0)), none, none], [.int (cond rb 1 0), .int (nI 60), .int (nI n0), .ref 162], H, 198, sl) = some R := hm
  obtain ⟨m, fr', lo', r1, hr1, hm⟩ := rn_call (w := 0) (t := 186) rfl rfl hm
  have Mg : ∀ {g : Nat} {as : List av}, wd (bB 162) = .inr (11, as) → as[g]? = some ai_top → mF H g (.int (Fi H 162 g)) := fun hb hg => wt_i z.1.1 (by decide) hb (by decide) hg
  have q1 := Mg (g := 16) rfl rfl
  have q2 := Mg (g := 17) rfl rfl
  rw [z.2.1] at q1
  rw [(yQ_17 z).trans d17] at q2
  have er := fo_run (m := 60) hn (by decide) (by omega) (by omega) q1 q2 hr1
  subst er
  rw [fO_eq2 (by decide) hr] at hm
  have hm : pm_run PT m fr lo 228 (50, [some (.ref 162), some (.int (nI n0)), some (.int (cond rb 1 0)), none, none], [.int (cond (rb && decide (rp = n0)) (Int32.ofInt 0) (Int32.ofInt (-1) - nI rp))], H, 198, sl) = some R := hm
  obtain ⟨m, hm⟩ := rn_i rfl rfl rfl rfl hm
  obtain ⟨m, hm⟩ := rn_i rfl rfl rfl rfl hm
  have hm : pm_run PT m fr lo 228 (52, [some (.ref 162), some (.int (nI n0)), some (.int (cond rb 1 0)), some (.int (cond (rb && decide (rp = n0)) (Int32.ofInt 0) (Int32.ofInt (-1) - nI rp))), none], [.int (cond (rb && decide (rp = n0)) (Int32.ofInt 0) (Int32.ofInt (-1) - nI rp))], H, 198, sl) = some R := hm
  obtain ⟨m, hm⟩ := rn_if (cc := .ge) (off := 5) (t := 57) rfl rfl hm
  unfold yGood
  dsimp only
  cases y : rb && decide (rp = n0) with
  | false =>
    rw [y, cond_false, m1q_ge rp (by omega)] at hm
    have hm : pm_run PT m fr lo 228 (55, [some (.ref 162), some (.int (nI n0)), some (.int (cond rb 1 0)), some (.int (Int32.ofInt (-1) - nI rp)), none], [], H, 198, sl) = some R := hm
    obtain ⟨m, hm⟩ := rn_i rfl rfl rfl rfl hm
    exact Or.inl ⟨rfl, (rn_ret rfl (Or.inl rfl) hm).2⟩
  | true =>
    rw [y, cond_true, show pm_cmp .ge (Int32.ofInt 0) 0 = true by decide] at hm
    rw [Bool.and_eq_true] at y
    obtain ⟨t1, t2, t3⟩ := zt y.1
    exact Or.inr ⟨rfl, ⟨t1, t2.trans (of_decide_eq_true y.2), t3⟩, m, _, _, _, hm⟩
/-- what the reference's acts keep -/
theorem yM_na {kd a b : Nat} (hc : HC q cc gc h) (na : NA h 170 78 86 6) (hk : kd ≤ 4) (ha : a < 10) (hb : b < 10) : NA (yM q cc gc h k kd a b).2 170 78 86 6 := by
  have h6 := hc.cb
  have e20 : ∀ m : Int32, NA (v220 q cc gc h a b m).2 170 78 86 6 := by
    intro m
    unfold v220
    cases zp : pP cc (nI a) (nI b) with
    | false => exact na
    | true =>
      cases in_b m.toInt64 (-9 : Int64) (9 : Int64) with
      | false => exact na
      | true =>
        cases pm_cmp .ne m 0 with
        | false => exact na
        | true =>
          obtain ⟨a', b', g1, g2, -, e1, e2⟩ := pP_iv zp
          have e1 := nI_ij (by omega) (by omega) e1
          have e2 := nI_ij (by omega) (by omega) e2
          exact NA_as (NAf_up (Or.inr (Or.inl (by omega))) (by decide) na)
  rcases (by omega : kd = 0 ∨ kd = 1 ∨ kd = 2 ∨ kd = 3 ∨ kd = 4) with rfl | rfl | rfl | rfl | rfl
  · exact v217_na hc na
  · have z := lp_in (f := fun _ x => v219 q cc gc x) (P := fun _ x => HC q cc gc x ∧ NA x 170 78 86 6) a 0 h ⟨hc, na⟩ (fun i x _ _ p => ⟨(v219_fr p.1).1, v219_na p.1 p.2⟩)
    exact z.2
  · show NA (v221 q cc gc h a b).2 170 78 86 6
    unfold v221
    cases zp : pP cc (nI a) (nI b) with
    | false => exact na
    | true =>
      obtain ⟨a', b', g1, g2, -, e1, e2⟩ := pP_iv zp
      have e1 := nI_ij (by omega) (by omega) e1
      have e2 := nI_ij (by omega) (by omega) e2
      exact NA_as (NAf_up (Or.inr (Or.inl (by omega))) (by decide) na)
  · exact e20 _
  · exact e20 _
theorem yX_1 {a b : Nat} {d : Int32} : yX q cc gc h 1 a b d = (true, v140 q cc gc h a) := by
  unfold yX
  rw [if_neg (by decide), if_pos rfl]
theorem yM_1 {a b : Nat} : yM q cc gc h k 1 a b = v227m q cc gc h k a := by
  unfold yM
  rw [if_pos rfl]
/-- does -/
theorem ym_run {j : Nat} (hc : HC q cc gc M) (na : NA M 170 78 86 6) (ok : yOk f t c) (td : yTold M f t c) (hj : j < c) (hj2 : j < 100) (hh : pm_run PT n fr lo 227 (0, pm_l0 [.ref 162, .int (nI j)] 5, [], M, 198, sl) = some R) : R = (some (.int (cond (yMj q cc gc f t j M).1 1 0)), (yMj q cc gc f t j M).2, 198, sl) ∧ (HC q cc gc (yMj q cc gc f t j M).2 ∧ frm yWM yVM M (yMj q cc gc f t j M).2) ∧ NA (yMj q cc gc f t j M).2 170 78 86 6 := by
  obtain ⟨⟨kd, eL⟩, oA⟩ := ok j hj
  obtain ⟨t1, t2, t3, -⟩ := td j hj
  obtain ⟨k4, -, -, d1, d2, -⟩ := y_act eL oA
  have hk : yKd f t j = kd := by
    unfold yKd
    rw [eL]
    rfl
  have la := (y_dig d1).2
  unfold yMj
  rw [hk] at t1 t3 ⊢
  by_cases y : kd = 1
  · subst y
    have n1 := yM_na (k := j) (kd := 1) (a := yd f (yPos f t j + 1)) (b := 0) hc na (by decide) la (by decide)
    rw [yM_1] at n1 ⊢
    obtain ⟨g1, g2, g3⟩ := v227m_ok hc (by omega) t1 t2 la na hh
    exact ⟨g1, ⟨g2, fr_g rfl rfl g3 fr_0⟩, n1⟩
  · have t3 := t3 y
    have lb := (y_dig (d2 y)).2
    have e : yM q cc gc M j kd (yd f (yPos f t j + 1)) (yd f (yPos f t j + 2)) = v227 q cc gc M j kd (yd f (yPos f t j + 1)) (yd f (yPos f t j + 2)) := if_neg y
    have n1 := yM_na (k := j) (b := yd f (yPos f t j + 2)) hc na k4 la lb
    rw [e] at n1 ⊢
    obtain ⟨g1, g2, g3⟩ := v227_ok hc (by omega) t1 t2 t3 (by omega) la lb na hh
    exact ⟨g1, ⟨g2, g3⟩, n1⟩
theorem yM_told (f1 : frm yWM yVM M H) (td : yTold M f t c) : yTold H f t c := yTold_e (fun a ha => f1.1 a (by rcases ha with rfl | rfl | rfl | rfl <;> rfl)) td
/-- the reference's acts -/
theorem yw_loop (ok : yOk f t c) (hc60 : c ≤ 60) : ∀ (k j n : Nat) (M : pm_H), j + k = c → HC q cc gc M → NA M 170 78 86 6 → Fi M 162 35 = nI c → yTold M f t c → pm_run PT n fr lo 228 (64, [some (.ref 162), some (.int v1), some (.int v2), some (.int v3), some (.int (nI j))], [], M, 198, sl) = some R → ∃ m, pm_run PT m fr lo 228 (88, [some (.ref 162), some (.int v1), some (.int v2), some (.int v3), some (.int (nI (yG (yMj q cc gc f t) k j M).1))], [], (yG (yMj q cc gc f t) k j M).2, 198, sl) = some R
  | 0, j, n, M, e, hc, na, e35, td, hh => by
    obtain ⟨n, hh⟩ := rn_i rfl rfl rfl rfl hh
    obtain ⟨n, hh⟩ := rn_i rfl rfl rfl rfl hh
    have hh : pm_run PT n fr lo 228 (67, [some (.ref 162), some (.int v1), some (.int v2), some (.int v3), some (.int (nI j))], [.ref 162, .int (nI j)], M, 198, sl) = some R := hh
    obtain ⟨n, hh⟩ := rn_gi (x := nI c) hc.wt rfl rfl (by decide) rfl (by decide) rfl e35 hh
    have hh : pm_run PT n fr lo 228 (70, [some (.ref 162), some (.int v1), some (.int v2), some (.int v3), some (.int (nI j))], [.int (nI c), .int (nI j)], M, 198, sl) = some R := hh
    obtain ⟨n, hh⟩ := rn_icmp (cc := .ge) (off := 18) (t := 88) rfl rfl hh
    rw [hI_ge (by omega) (by omega), decide_eq_true (by omega)] at hh
    exact ⟨n, hh⟩
  | k + 1, j, n, M, e, hc, na, e35, td, hh => by
    obtain ⟨n, hh⟩ := rn_i rfl rfl rfl rfl hh
    obtain ⟨n, hh⟩ := rn_i rfl rfl rfl rfl hh
    have hh : pm_run PT n fr lo 228 (67, [some (.ref 162), some (.int v1), some (.int v2), some (.int v3), some (.int (nI j))], [.ref 162, .int (nI j)], M, 198, sl) = some R := hh
    obtain ⟨n, hh⟩ := rn_gi (x := nI c) hc.wt rfl rfl (by decide) rfl (by decide) rfl e35 hh
    have hh : pm_run PT n fr lo 228 (70, [some (.ref 162), some (.int v1), some (.int v2), some (.int v3), some (.int (nI j))], [.int (nI c), .int (nI j)], M, 198, sl) = some R := hh
    obtain ⟨n, hh⟩ := rn_icmp (cc := .ge) (off := 18) (t := 88) rfl rfl hh
    rw [hI_ge (by omega) (by omega), decide_eq_false (by omega)] at hh
    have hh : pm_run PT n fr lo 228 (73, [some (.ref 162), some (.int v1), some (.int v2), some (.int v3), some (.int (nI j))], [], M, 198, sl) = some R := hh
    obtain ⟨n, hh⟩ := rn_i rfl rfl rfl rfl hh
    obtain ⟨n, hh⟩ := rn_i rfl rfl rfl rfl hh
    have hh : pm_run PT n fr lo 228 (76, [some (.ref 162), some (.int v1), some (.int v2), some (.int v3), some (.int (nI j))], [.int (nI j), .ref 162], M, 198, sl) = some R := hh
    obtain ⟨n, fr', lo', r1, hr1, hh⟩ := rn_call (w := 0) (t := 227) rfl rfl hh
    obtain ⟨er, ⟨c2, f2⟩, na2⟩ := ym_run hc na ok td (by omega) (by omega) hr1
    subst er
    have eG : yG (yMj q cc gc f t) (k + 1) j M = cond (yMj q cc gc f t j M).1 (yG (yMj q cc gc f t) k (j + 1) (yMj q cc gc f t j M).2) (j, (yMj q cc gc f t j M).2) := rfl
    have td2 := yM_told f2 td
    have e35b : Fi (yMj q cc gc f t j M).2 162 35 = nI c := (f2.2 162 35 rfl rfl).trans e35
    rw [eG]
    generalize yMj q cc gc f t j M = z at *
    obtain ⟨zb, zh⟩ := z
    dsimp only at hh c2 f2 na2 td2 e35b ⊢
    have hh : pm_run PT n fr lo 228 (79, [some (.ref 162), some (.int v1), some (.int v2), some (.int v3), some (.int (nI j))], [.int (cond zb 1 0)], zh, 198, sl) = some R := hh
    obtain ⟨n, hh⟩ := rn_if (cc := .eq) (off := 9) (t := 88) rfl rfl hh
    cases zb with
    | true =>
      rw [show pm_cmp .eq (cond true 1 0 : Int32) 0 = false by decide] at hh
      have hh : pm_run PT n fr lo 228 (82, [some (.ref 162), some (.int v1), some (.int v2), some (.int v3), some (.int (nI j))], [], zh, 198, sl) = some R := hh
      obtain ⟨n, hh⟩ := en_inc (x := j) (c := 1) (j := 4) rfl rfl (by decide) hh
      obtain ⟨n, hh⟩ := rn_i rfl rfl rfl rfl hh
      have hh : pm_run PT n fr lo 228 (64, [some (.ref 162), some (.int v1), some (.int v2), some (.int v3), some (.int (nI (j + 1)))], [], zh, 198, sl) = some R := hh
      exact yw_loop ok hc60 k (j + 1) n zh (by omega) c2 na2 e35b td2 hh
    | false =>
      rw [show pm_cmp .eq (cond false 1 0 : Int32) 0 = true by decide] at hh
      exact ⟨n, hh⟩
/-- both sides' acts: as many, and the same state -/
theorem yG_rel (ok : yOk f t c) : ∀ (k j : Nat) (X M : pm_H), j + k = c → VE q cc gc X M → yTold M f t c → (yG (yXj q cc gc f t) k j X).1 = (yG (yMj q cc gc f t) k j M).1 ∧ VE q cc gc (yG (yXj q cc gc f t) k j X).2 (yG (yMj q cc gc f t) k j M).2
  | 0, j, X, M, e, z, td => ⟨rfl, z⟩
  | k + 1, j, X, M, e, z, td => by
    obtain ⟨⟨kd, eL⟩, oA⟩ := ok j (by omega)
    obtain ⟨t1, t2, t3, t4⟩ := td j (by omega)
    obtain ⟨k4, -, -, d1, d2, -⟩ := y_act eL oA
    have hk : yKd f t j = kd := by
      unfold yKd
      rw [eL]
      rfl
    rw [hk] at t1 t3 t4
    have la := (y_dig d1).2
    obtain ⟨b, lb, e1, e2, fM⟩ : ∃ b : Nat, b < 10 ∧ (yXj q cc gc f t j X = yX q cc gc X kd (yd f (yPos f t j + 1)) b (f (yPos f t j + 3) - nI 48)) ∧ (yMj q cc gc f t j M = yM q cc gc M j kd (yd f (yPos f t j + 1)) b) ∧ frm yWM yVM M (yMj q cc gc f t j M).2 := by
      by_cases y : kd = 1
      · subst y
        refine ⟨0, by decide, ?_, ?_, ?_⟩
        · unfold yXj
          rw [hk, yX_1, yX_1]
        · unfold yMj
          rw [hk, yM_1, yM_1]
        · unfold yMj
          rw [hk, yM_1]
          exact fr_g rfl rfl (v227m_fr (k := j) (a := yd f (yPos f t j + 1)) z.1.2 t1 t2 la).2 fr_0
      · refine ⟨yd f (yPos f t j + 2), (y_dig (d2 y)).2, ?_, ?_, ?_⟩
        · unfold yXj
          rw [hk]
        · unfold yMj
          rw [hk]
        · unfold yMj
          rw [hk]
          exact (yM_fr z.1.2 t1 t2 t3 (by omega) la (y_dig (d2 y)).2).2
    obtain ⟨s1, s2⟩ := y_step (k := j) (d := f (yPos f t j + 3) - nI 48) z la lb k4 t4
    rw [← e1, ← e2] at s1 s2
    have td2 := yM_told fM td
    have g1 : yG (yXj q cc gc f t) (k + 1) j X = cond (yXj q cc gc f t j X).1 (yG (yXj q cc gc f t) k (j + 1) (yXj q cc gc f t j X).2) (j, (yXj q cc gc f t j X).2) := rfl
    have g2 : yG (yMj q cc gc f t) (k + 1) j M = cond (yMj q cc gc f t j M).1 (yG (yMj q cc gc f t) k (j + 1) (yMj q cc gc f t j M).2) (j, (yMj q cc gc f t j M).2) := rfl
    rw [g1, g2, s1]
    cases (yMj q cc gc f t j M).1 with
    | true => exact yG_rel ok k (j + 1) _ _ (by omega) s2 td2
    | false => exact ⟨rfl, s2⟩
theorem yG_le (g : Nat → pm_H → Bool × pm_H) : ∀ (k j : Nat) (X : pm_H), (yG g k j X).1 ≤ j + k
  | 0, j, X => Nat.le_refl _
  | k + 1, j, X => by
    have e : yG g (k + 1) j X = cond (g j X).1 (yG g k (j + 1) (g j X).2) (j, (g j X).2) := rfl
    rw [e]
    cases (g j X).1 with
    | true =>
      have := yG_le g k (j + 1) (g j X).2
      show (yG g k (j + 1) (g j X).2).1 ≤ j + (k + 1)
      omega
    | false =>
      show j ≤ j + (k + 1)
      omega
/-- frames of all acts -/
theorem yGX_fr : ∀ (k j : Nat) (X : pm_H), HC q cc gc X → HC q cc gc (yG (yXj q cc gc f t) k j X).2 ∧ frm yWX yVX X (yG (yXj q cc gc f t) k j X).2
  | 0, j, X, hc => ⟨hc, fr_0⟩
  | k + 1, j, X, hc => by
    have e : yG (yXj q cc gc f t) (k + 1) j X = cond (yXj q cc gc f t j X).1 (yG (yXj q cc gc f t) k (j + 1) (yXj q cc gc f t j X).2) (j, (yXj q cc gc f t j X).2) := rfl
    obtain ⟨c1, f1⟩ := yX_fr (kd := yKd f t j) (a := yd f (yPos f t j + 1)) (b := yd f (yPos f t j + 2)) (d := f (yPos f t j + 3) - nI 48) hc
    have c1 : HC q cc gc (yXj q cc gc f t j X).2 := c1
    have f1 : frm yWX yVX X (yXj q cc gc f t j X).2 := f1
    rw [e]
    cases (yXj q cc gc f t j X).1 with
    | true =>
      obtain ⟨c2, f2⟩ := yGX_fr k (j + 1) _ c1
      exact ⟨c2, fr_g rfl rfl f2 f1⟩
    | false => exact ⟨c1, f1⟩
theorem yGM_fr (ok : yOk f t c) : ∀ (k j : Nat) (M : pm_H), j + k = c → HC q cc gc M → yTold M f t c → HC q cc gc (yG (yMj q cc gc f t) k j M).2 ∧ frm yWM yVM M (yG (yMj q cc gc f t) k j M).2
  | 0, j, M, _, hc, _ => ⟨hc, fr_0⟩
  | k + 1, j, M, he, hc, td => by
    have e : yG (yMj q cc gc f t) (k + 1) j M = cond (yMj q cc gc f t j M).1 (yG (yMj q cc gc f t) k (j + 1) (yMj q cc gc f t j M).2) (j, (yMj q cc gc f t j M).2) := rfl
    obtain ⟨⟨kd, eL⟩, oA⟩ := ok j (by omega)
    obtain ⟨t1, t2, t3, -⟩ := td j (by omega)
    obtain ⟨k4, -, -, d1, d2, -⟩ := y_act eL oA
    have hk : yKd f t j = kd := by
      unfold yKd
      rw [eL]
      rfl
    rw [hk] at t1 t3
    have la := (y_dig d1).2
    have c1 : HC q cc gc (yMj q cc gc f t j M).2 ∧ frm yWM yVM M (yMj q cc gc f t j M).2 := by
      unfold yMj
      rw [hk]
      by_cases y : kd = 1
      · subst y
        rw [yM_1]
        obtain ⟨x1, x2⟩ := v227m_fr (k := j) (a := yd f (yPos f t j + 1)) hc t1 t2 la
        exact ⟨x1, fr_g rfl rfl x2 fr_0⟩
      · exact yM_fr hc t1 t2 t3 (by omega) la (y_dig (d2 y)).2
    have td2 := yM_told c1.2 td
    rw [e]
    cases (yMj q cc gc f t j M).1 with
    | true =>
      obtain ⟨c2, f2⟩ := yGM_fr ok k (j + 1) _ (by omega) c1.1 td2
      exact ⟨c2, fr_g rfl rfl f2 c1.2⟩
    | false => exact c1
end YRM
