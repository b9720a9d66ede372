section MG95zzzkx0
/-! year: the reference reads all acts and does them -/
section YRM
variable {n fr lo sl n0 cc gc k t c u fi si : Nat} {q : QT} {h h1 h2 H X M : pm_H} {v1 v2 v3 v w : Int32} {R : pm_Rs} {f : Nat → Int32}
/-- the acts that have been read -/
def yTold (H : pm_H) (f : Nat → Int32) (t c : Nat) : Prop := ∀ j, j < c → Ar H 179 j = nI (yKd f t j) ∧ Ar H 180 j = nI (yd f (yPos f t j + 1)) ∧ (yKd f t j ≠ 1 → Ar H 181 j = nI (yd f (yPos f t j + 2))) ∧ (3 ≤ yKd f t j → Ar H 182 j = f (yPos f t j + 3) - nI 48)
theorem yTold_e (e : ∀ a, a = 179 ∨ a = 180 ∨ a = 181 ∨ a = 182 → h1 a = h a) (z : yTold h f t c) : yTold h1 f t c := by
  intro j hj
  rw [Ar_e (e 179 (Or.inl rfl)), Ar_e (e 180 (Or.inr (Or.inl rfl))), Ar_e (e 181 (Or.inr (Or.inr (Or.inl rfl)))), Ar_e (e 182 (Or.inr (Or.inr (Or.inr rfl))))]
  exact z j hj
/-- the reading of all acts -/
theorem rd_loop {x3 x4 : Option Value} (ht : t ≤ 60) (ef : Ar h 172 = f) (e17 : Fi h 162 17 = nI t) : ∀ (k c n : Nat) (H : pm_H), t + 1 ≤ yPos f t c + k → yQ h H t (yPos f t c) c → yOk f t c → yTold H f t c → pm_run PT n fr lo 228 (19, [some (.ref 162), some (.int v1), some (.int 1), x3, x4], [], H, 198, sl) = some R → ∃ (m : Nat) (H' : pm_H) (c' : Nat), yQ h H' t (yR f t k (yPos f t c)).2 c' ∧ pm_run PT m fr lo 228 (42, [some (.ref 162), some (.int v1), some (.int (cond (yR f t k (yPos f t c)).1 1 0)), x3, x4], [], H', 198, sl) = some R ∧ ((yR f t k (yPos f t c)).1 = true → yOk f t c' ∧ yPos f t c' = (yR f t k (yPos f t c)).2 ∧ yTold H' f t c')
  | 0, c, n, H, e, z, ok, td, hh => by
    have := (yPos_le c ok).1
    omega
  | k + 1, c, n, H, e, z, ok, td, hh => by
    have hle := yPos_le c ok
    have e16 := z.2.1
    have e17H : Fi H 162 17 = nI t := (yQ_17 z).trans e17
    have e172 : Ar H 172 = f := (yQ_172 z).trans ef
    obtain ⟨n, hh⟩ := rn_i rfl rfl rfl rfl hh
    have hh : pm_run PT n fr lo 228 (20, [some (.ref 162), some (.int v1), some (.int 1), x3, x4], [.int 1], H, 198, sl) = some R := hh
    obtain ⟨n, hh⟩ := rn_if (cc := .eq) (off := 22) (t := 42) rfl rfl hh
    rw [show pm_cmp .eq (1 : Int32) 0 = false by decide] at hh
    have hh : pm_run PT n fr lo 228 (23, [some (.ref 162), some (.int v1), some (.int 1), x3, x4], [], H, 198, sl) = some R := hh
    obtain ⟨n, hh⟩ := rn_i rfl rfl rfl rfl hh
    have hh : pm_run PT n fr lo 228 (24, [some (.ref 162), some (.int v1), some (.int 1), x3, x4], [.ref 162], H, 198, sl) = some R := hh
    obtain ⟨n, hh⟩ := rn_gi (x := nI (yPos f t c)) z.1.1 rfl rfl (by decide) rfl (by decide) rfl e16 hh
    obtain ⟨n, hh⟩ := rn_i rfl rfl rfl rfl hh
    have hh : pm_run PT n fr lo 228 (28, [some (.ref 162), some (.int v1), some (.int 1), x3, x4], [.ref 162, .int (nI (yPos f t c))], H, 198, sl) = some R := hh
    obtain ⟨n, hh⟩ := rn_gi (x := nI t) z.1.1 rfl rfl (by decide) rfl (by decide) rfl e17H hh
    have hh : pm_run PT n fr lo 228 (31, [some (.ref 162), some (.int v1), some (.int 1), x3, x4], [.int (nI t), .int (nI (yPos f t c))], H, 198, sl) = some R := hh
    obtain ⟨n, hh⟩ := rn_icmp (cc := .ge) (off := 11) (t := 42) rfl rfl hh
    rw [hI_ge (by omega) (by omega)] at hh
    by_cases hlt : yPos f t c < t
    · rw [decide_eq_false (by omega)] at hh
      have hh : pm_run PT n fr lo 228 (34, [some (.ref 162), some (.int v1), some (.int 1), x3, x4], [], H, 198, sl) = some R := hh
      obtain ⟨n, hh⟩ := rn_i rfl rfl rfl rfl hh
      have hh : pm_run PT n fr lo 228 (35, [some (.ref 162), some (.int v1), some (.int 1), x3, x4], [.ref 162], H, 198, sl) = some R := hh
      obtain ⟨n, fr', lo', r1, hr1, hh⟩ := rn_call (w := 0) (t := 226) rfl rfl hh
      obtain ⟨H1, z1, er, oth, told⟩ := ra_run z.1.1 e16 e17H z.2.2 (by omega) (by omega) (by omega) hr1
      rw [e172] at z1 er told
      subst er
      have z2 : yQ h H1 t (yA f t (yPos f t c)).2 (c + 1) := ⟨⟨z1.1.1, fr_g rfl rfl z1.1.2 z.1.2⟩, z1.2⟩
      have eR : yR f t (k + 1) (yPos f t c) = cond (yA f t (yPos f t c)).1 (yR f t k (yA f t (yPos f t c)).2) (yA f t (yPos f t c)) := if_pos hlt
      have hh : pm_run PT n fr lo 228 (38, [some (.ref 162), some (.int v1), some (.int 1), x3, x4], [.int (cond (yA f t (yPos f t c)).1 1 0)], H1, 198, sl) = some R := hh
      obtain ⟨n, hh⟩ := rn_i rfl rfl rfl rfl hh
      obtain ⟨n, hh⟩ := rn_i rfl rfl rfl rfl hh
      have hh : pm_run PT n fr lo 228 (19, [some (.ref 162), some (.int v1), some (.int (cond (yA f t (yPos f t c)).1 1 0)), x3, x4], [], H1, 198, sl) = some R := hh
      have hA := yA_le (f := f) (t := t) hle.1
      cases eA : (yA f t (yPos f t c)).1 with
      | true =>
        rw [eA] at hh
        have hh : pm_run PT n fr lo 228 (19, [some (.ref 162), some (.int v1), some (.int 1), x3, x4], [], H1, 198, sl) = some R := hh
        rw [eA] at eR
        have eR : yR f t (k + 1) (yPos f t c) = yR f t k (yPos f t (c + 1)) := eR
        obtain ⟨kd, eL⟩ : ∃ kd, yL f t (yPos f t c) = some kd := by
          cases y : yL f t (yPos f t c) with
          | none =>
            unfold yA at eA
            rw [y] at eA
            cases eA
          | some kd => exact ⟨kd, rfl⟩
        have ok2 : yOk f t (c + 1) := by
          intro j hj
          by_cases y : j = c
          · rw [y]
            exact ⟨⟨kd, eL⟩, eA⟩
          · exact ok j (by omega)
        obtain ⟨-, -, -, d1, d2, -⟩ := y_act eL eA
        obtain ⟨t1, t2, t3, t4⟩ := told kd eL eA
        have hk : yKd f t c = kd := by
          unfold yKd
          rw [eL]
          rfl
        have td2 : yTold H1 f t (c + 1) := by
          intro j hj
          by_cases y : j = c
          · rw [y, hk]
            exact ⟨t1, t2.trans (y_dig d1).1, fun e => (t3 e).trans (y_dig (d2 e)).1, t4⟩
          · rw [oth 179 (Or.inl rfl) j y, oth 180 (Or.inr (Or.inl rfl)) j y, oth 181 (Or.inr (Or.inr (Or.inl rfl))) j y, oth 182 (Or.inr (Or.inr (Or.inr rfl))) j y]
            exact td j (by omega)
        have fuel := hA.2.2 eA
        have pos2 : yPos f t (c + 1) = (yA f t (yPos f t c)).2 := rfl
        rw [← pos2] at z2
        have r := rd_loop ht ef e17 k (c + 1) n H1 (by rw [pos2]; omega) z2 ok2 td2 hh
        rw [eR]
        exact r
      | false =>
        rw [eA] at hh eR
        have eR : yR f t (k + 1) (yPos f t c) = yA f t (yPos f t c) := eR
        have hh : pm_run PT n fr lo 228 (19, [some (.ref 162), some (.int v1), some (.int 0), x3, x4], [], H1, 198, sl) = some R := hh
        obtain ⟨n, hh⟩ := rn_i rfl rfl rfl rfl hh
        have hh : pm_run PT n fr lo 228 (20, [some (.ref 162), some (.int v1), some (.int 0), x3, x4], [.int 0], H1, 198, sl) = some R := hh
        obtain ⟨n, hh⟩ := rn_if (cc := .eq) (off := 22) (t := 42) rfl rfl hh
        rw [show pm_cmp .eq (0 : Int32) 0 = true by decide] at hh
        have hh : pm_run PT n fr lo 228 (42, [some (.ref 162), some (.int v1), some (.int 0), x3, x4], [], H1, 198, sl) = some R := hh
        rw [eR, eA]
        exact ⟨n, H1, c + 1, z2, hh, fun z => Bool.noConfusion z⟩
    · rw [decide_eq_true (by omega)] at hh
      have eR : yR f t (k + 1) (yPos f t c) = (true, yPos f t c) := if_neg hlt
      have hh : pm_run PT n fr lo 228 (42, [some (.ref 162), some (.int v1), some (.int 1), x3, x4], [], H, 198, sl) = some R := hh
      rw [eR]
      exact ⟨n, H, c, z, hh, fun _ => ⟨ok, rfl, td⟩⟩
theorem rd_run {x3 x4 : Option Value} (ht : t ≤ 60) (ef : Ar h 172 = f) (e17 : Fi h 162 17 = nI t) (w : WT h) (e16 : Fi h 162 16 = nI 0) (e35 : Fi h 162 35 = nI 0) (hh : pm_run PT n fr lo 228 (19, [some (.ref 162), some (.int v1), some (.int 1), x3, x4], [], h, 198, sl) = some R) : ∃ (m : Nat) (H' : pm_H) (c' : Nat), yQ h H' t (yR f t 61 0).2 c' ∧ pm_run PT m fr lo 228 (42, [some (.ref 162), some (.int v1), some (.int (cond (yR f t 61 0).1 1 0)), x3, x4], [], H', 198, sl) = some R ∧ ((yR f t 61 0).1 = true → yOk f t c' ∧ yPos f t c' = (yR f t 61 0).2 ∧ yTold H' f t c') := by
  have e0 : yPos f t 0 = 0 := rfl
  have go := fun k => rd_loop (v1 := v1) (R := R) (fr := fr) (lo := lo) (sl := sl) (x3 := x3) (x4 := x4) ht ef e17 k 0 n h
  rw [e0] at go
  exact go 61 (by omega) ⟨⟨w, fr_0⟩, e16, e35⟩ (fun j hj => absurd hj (Nat.not_lt_zero j)) (fun j hj => absurd hj (Nat.not_lt_zero j)) hh
theorem yR_le : ∀ (k p : Nat), p ≤ t → (yR f t k p).2 ≤ t
  | 0, p, hp => hp
  | k + 1, p, hp => by
    have hA := yA_le (f := f) (t := t) hp
    by_cases hlt : p < t
    · have eR : yR f t (k + 1) p = cond (yA f t p).1 (yR f t k (yA f t p).2) (yA f t p) := if_pos hlt
      rw [eR]
      cases (yA f t p).1 with
      | true => exact yR_le k _ hA.2.1
      | false => exact hA.2.1
    · have eR : yR f t (k + 1) p = (true, p) := if_neg hlt
      rw [eR]
      exact hp
theorem m1q_ge : ∀ p, p < 61 → pm_cmp .ge (Int32.ofInt (-1) - nI p) 0 = false := by decide +kernel
def yHW : List Nat := [162, 179, 180, 181, 182]
def yHV : List (Nat × Nat) := [(162, 0), (162, 15), (162, 16), (162, 17), (162, 18), (162, 35)]
/-- what stands behind the reading -/
def yGood (n0 : Nat) (r : Bool × Nat) : Bool := r.1 && decide (r.2 = n0)
theorem yh_run (hw : WT h) (hn : n0 ≤ 80) (h15 : Fi h 162 15 = nI n0) (hh : pm_run PT n fr lo 228 (0, pm_l0 [.ref 162] 5, [], h, 198, sl) = some R) : ∃ (H : pm_H) (c : Nat), (WT H ∧ frm yHW yHV h H) ∧ Fi H 162 35 = nI c ∧ ((yGood n0 (yR (Ar h 172) (min n0 60) 61 0) = false ∧ R = (some (.int (Int32.ofInt (-1) - nI (yR (Ar h 172) (min n0 60) 61 0).2)), H, 198, sl)) ∨ (yGood n0 (yR (Ar h 172) (min n0 60) 61 0) = true ∧ (yOk (Ar h 172) (min n0 60) c ∧ yPos (Ar h 172) (min n0 60) c = n0 ∧ yTold H (Ar h 172) (min n0 60) c) ∧ ∃ (m : Nat) (v1 v2 v3 : Int32), pm_run PT m fr lo 228 (57, [some (.ref 162), some (.int v1), some (.int v2), some (.int v3), none], [], H, 198, sl) = some R)) := by
  obtain ⟨n, hh⟩ := rn_i rfl rfl rfl rfl hh
  obtain ⟨n, hh⟩ := rn_i rfl rfl rfl rfl hh
  have m0 : mF h 0 (.int (Fi h 162 0)) := wt_i hw (by decide) rfl (by decide) rfl
  obtain ⟨n, hh⟩ := rn_pfm rfl rfl rfl (by decide) m0 hh
  rw [mset_w (g := 0) hw rfl rfl] at hh
  have w0 : WT (fset h 162 0 (.int (Int32.ofInt 0))) := wt_fs rfl (by decide) rfl hw
  have f0 : ∀ g, g ≠ 0 → Fi (fset h 162 0 (.int (Int32.ofInt 0))) 162 g = Fi h 162 g := fun g hg => Fi_n (Or.inr hg)
  have fr0 : frm yHW yHV h (fset h 162 0 (.int (Int32.ofInt 0))) := fr_f rfl rfl fr_0
  obtain ⟨n, hh⟩ := rn_i rfl rfl rfl rfl hh
  obtain ⟨n, hh⟩ := rn_i rfl rfl rfl rfl hh
  have hh : pm_run PT n fr lo 228 (8, [some (.ref 162), none, none, none, none], [.int (nI 60), .ref 162], fset h 162 0 (.int (Int32.ofInt 0)), 198, sl) = some R := hh
  generalize fset h 162 0 (.int (Int32.ofInt 0)) = ha at *
  have hh : pm_run PT n fr lo 228 (8, [some (.ref 162), none, none, none, none], [.int (nI 60), .ref 162], ha, 198, sl) = some R := hh
  obtain ⟨n, fr', lo', r1, hr1, hh⟩ := rn_call (w := 0) (t := 180) rfl rfl hh
  have Mf : ∀ {g : Nat} {as : List av}, wd (bB 162) = .inr (11, as) → as[g]? = some ai_top → mF ha g (.int (Fi ha 162 g)) := fun hb hg => wt_i w0 (by decide) hb (by decide) hg
  have g15 : mF ha 15 (.int (nI n0)) := by
    have z := Mf (g := 15) rfl rfl
    rw [f0 15 (by decide), h15] at z
    exact z
  have er := rn_dt (F := 10) (Lo := 1000) (hd_begins (fr := 10) (lo := 1000) (sl := sl) (m := 60) g15 (Mf (g := 16) rfl rfl) (Mf (g := 17) rfl rfl) (Mf (g := 18) rfl rfl) hn (by decide) (by decide) (by decide)) hr1
  subst er
  have hh : pm_run PT n fr lo 228 (11, [some (.ref 162), none, none, none, none], [.int (nI n0)], hbeg ha n0 60, 198, sl) = some R := hh
  have eb : hbeg ha n0 60 = fset (fset (fset (fset ha 162 15 (.int 0)) 162 16 (.int 0)) 162 18 (.int 0)) 162 17 (.int (nI (min n0 60))) := by
    have a1 : WT (fset ha 162 15 (.int 0)) := wt_fs rfl (by decide) rfl w0
    have a2 : WT (fset (fset ha 162 15 (.int 0)) 162 16 (.int 0)) := wt_fs rfl (by decide) rfl a1
    have a3 : WT (fset (fset (fset ha 162 15 (.int 0)) 162 16 (.int 0)) 162 18 (.int 0)) := wt_fs rfl (by decide) rfl a2
    unfold hbeg
    rw [mset_w (g := 15) w0 rfl rfl, mset_w (g := 16) a1 rfl rfl, mset_w (g := 18) a2 rfl rfl, mset_w (g := 17) a3 rfl rfl]
  rw [eb] at hh
  have b1 : WT (fset (fset (fset (fset ha 162 15 (.int 0)) 162 16 (.int 0)) 162 18 (.int 0)) 162 17 (.int (nI (min n0 60)))) := wt_fs rfl (by decide) rfl (wt_fs rfl (by decide) rfl (wt_fs rfl (by decide) rfl (wt_fs rfl (by decide) rfl w0)))
  have b2 : frm yHW yHV h (fset (fset (fset (fset ha 162 15 (.int 0)) 162 16 (.int 0)) 162 18 (.int 0)) 162 17 (.int (nI (min n0 60)))) := fr_f rfl rfl (fr_f rfl rfl (fr_f rfl rfl (fr_f rfl rfl fr0)))
  have b16 : Fi (fset (fset (fset (fset ha 162 15 (.int 0)) 162 16 (.int 0)) 162 18 (.int 0)) 162 17 (.int (nI (min n0 60)))) 162 16 = nI 0 := (Fi_n (Or.inr (by decide))).trans ((Fi_n (Or.inr (by decide))).trans (Fi_s (wt_fs rfl (by decide) rfl w0) (by decide) rfl (by decide) rfl))
  have b17 : Fi (fset (fset (fset (fset ha 162 15 (.int 0)) 162 16 (.int 0)) 162 18 (.int 0)) 162 17 (.int (nI (min n0 60)))) 162 17 = nI (min n0 60) := Fi_s (wt_fs rfl (by decide) rfl (wt_fs rfl (by decide) rfl (wt_fs rfl (by decide) rfl w0))) (by decide) rfl (by decide) rfl
  generalize fset (fset (fset (fset ha 162 15 (.int 0)) 162 16 (.int 0)) 162 18 (.int 0)) 162 17 (.int (nI (min n0 60))) = hb at *
  have hh : pm_run PT n fr lo 228 (11, [some (.ref 162), none, none, none, none], [.int (nI n0)], hb, 198, sl) = some R := hh
  obtain ⟨n, hh⟩ := rn_i rfl rfl rfl rfl hh
  obtain ⟨n, hh⟩ := rn_i rfl rfl rfl rfl hh
  obtain ⟨n, hh⟩ := rn_i rfl rfl rfl rfl hh
  have m35 : mF hb 35 (.int (Fi hb 162 35)) := wt_i b1 (by decide) rfl (by decide) rfl
  obtain ⟨n, hh⟩ := rn_pfm rfl rfl rfl (by decide) m35 hh
  rw [mset_w (g := 35) b1 rfl rfl] at hh
  have d1 : WT (fset hb 162 35 (.int (nI 0))) := wt_fs rfl (by decide) rfl b1
  have d2 : frm yHW yHV h (fset hb 162 35 (.int (nI 0))) := fr_f rfl rfl b2
  have d16 : Fi (fset hb 162 35 (.int (nI 0))) 162 16 = nI 0 := (Fi_n (Or.inr (by decide))).trans b16
  have d17 : Fi (fset hb 162 35 (.int (nI 0))) 162 17 = nI (min n0 60) := (Fi_n (Or.inr (by decide))).trans b17
  have d35 : Fi (fset hb 162 35 (.int (nI 0))) 162 35 = nI 0 := Fi_s b1 (by decide) rfl (by decide) rfl
  have hh : pm_run PT n fr lo 228 (17, [some (.ref 162), some (.int (nI n0)), none, none, none], [], fset hb 162 35 (.int (nI 0)), 198, sl) = some R := hh
  generalize fset hb 162 35 (.int (nI 0)) = hd at *
  have hh : pm_run PT n fr lo 228 (17, [some (.ref 162), some (.int (nI n0)), none, none, none], [], hd, 198, sl) = some R := hh
  obtain ⟨n, hh⟩ := rn_i rfl rfl rfl rfl hh
  obtain ⟨n, hh⟩ := rn_i rfl rfl rfl rfl hh
  have hh : pm_run PT n fr lo 228 (19, [some (.ref 162), some (.int (nI n0)), some (.int 1), none, none], [], hd, 198, sl) = some R := hh
  have et : Ar hd 172 = Ar h 172 := Ar_e (d2.1 172 rfl)
  obtain ⟨m, H, c, z, hm, zt⟩ := rd_run (h := hd) (t := min n0 60) (f := Ar h 172) (by omega) et d17 d1 d16 d35 hh
  have hr := yR_le (f := Ar h 172) (t := min n0 60) 61 0 (Nat.zero_le _)
  generalize yR (Ar h 172) (min n0 60) 61 0 = r at *
  obtain ⟨rb, rp⟩ := r
  dsimp only at z hm zt hr
  refine ⟨H, c, ⟨z.1.1, fr_g rfl rfl z.1.2 d2⟩, z.2.2, ?_⟩
  obtain ⟨m, hm⟩ := rn_i rfl rfl rfl rfl hm
  obtain ⟨m, hm⟩ := rn_i rfl rfl rfl rfl hm
  obtain ⟨m, hm⟩ := rn_i rfl rfl rfl rfl hm
  obtain ⟨m, hm⟩ := rn_i rfl rfl rfl rfl hm
  have hm : pm_run PT m fr lo 228 (47, [some (.ref 162), some (.int (nI n0)), some (.int (cond rb 1 0)), none, none], [.int (cond rb 1 0), .int (nI 60), .int (nI n0), .ref 162], H, 198, sl) = some R := hm
  obtain ⟨m, fr', lo', r1, hr1, hm⟩ := rn_call (w := 0) (t := 186) rfl rfl hm
  have Mg : ∀ {g : Nat} {as : List av}, wd (bB 162) = .inr (11, as) → as[g]? = some ai_top → mF H g (.int (Fi H 162 g)) := fun hb hg => wt_i z.1.1 (by decide) hb (by decide) hg
  have q1 := Mg (g := 16) rfl rfl
  have q2 := Mg (g := 17) rfl rfl
  rw [z.2.1] at q1
  rw [(yQ_17 z).trans d17] at q2
  have er := fo_run (m := 60) hn (by decide) (by omega) (by omega) q1 q2 hr1
  subst er
  rw [fO_eq2 (by decide) hr] at hm
  have hm : pm_run PT m fr lo 228 (50, [some (.ref 162), some (.int (nI n0)), some (.int (cond rb 1 0)), none, none], [.int (cond (rb && decide (rp = n0)) (Int32.ofInt 0) (Int32.ofInt (-1) - nI rp))], H, 198, sl) = some R := hm
  obtain ⟨m, hm⟩ := rn_i rfl rfl rfl rfl hm
  obtain ⟨m, hm⟩ := rn_i rfl rfl rfl rfl hm
  have hm : pm_run PT m fr lo 228 (52, [some (.ref 162), some (.int (nI n0)), some (.int (cond rb 1 0)), some (.int (cond (rb && decide (rp = n0)) (Int32.ofInt 0) (Int32.ofInt (-1) - nI rp))), none], [.int (cond (rb && decide (rp = n0)) (Int32.ofInt 0) (Int32.ofInt (-1) - nI rp))], H, 198, sl) = some R := hm
  obtain ⟨m, hm⟩ := rn_if (cc := .ge) (off := 5) (t := 57) rfl rfl hm
  unfold yGood
  dsimp only
  cases y : rb && decide (rp = n0) with
  | false =>
    rw [y, cond_false, m1q_ge rp (by omega)] at hm
    have hm : pm_run PT m fr lo 228 (55, [some (.ref 162), some (.int (nI n0)), some (.int (cond rb 1 0)), some (.int (Int32.ofInt (-1) - nI rp)), none], [], H, 198, sl) = some R := hm
    obtain ⟨m, hm⟩ := rn_i rfl rfl rfl rfl hm
    exact Or.inl ⟨rfl, (rn_ret rfl (Or.inl rfl) hm).2⟩
  | true =>
    rw [y, cond_true, show pm_cmp .ge (Int32.ofInt 0) 0 = true by decide] at hm
    rw [Bool.and_eq_true] at y
    obtain ⟨t1, t2, t3⟩ := zt y.1
    exact Or.inr ⟨rfl, ⟨t1, t2.trans (of_decide_eq_true y.2), t3⟩, m, _, _, _, hm⟩
/-- what the reference's acts keep -/
theorem yM_na {kd a b : Nat} (hc : HC q cc gc h) (na : NA h 170 78 86 6) (hk : kd ≤ 4) (ha : a < 10) (hb : b < 10) : NA (yM q cc gc h k kd a b).2 170 78 86 6 := by
  have h6 := hc.cb
  have e20 : ∀ m : Int32, NA (v220 q cc gc h a b m).2 170 78 86 6 := by
    intro m
    unfold v220
    cases zp : pP cc (nI a) (nI b) with
    | false => exact na
    | true =>
      cases in_b m.toInt64 (-9 : Int64) (9 : Int64) with
      | false => exact na
      | true =>
        cases pm_cmp .ne m 0 with
        | false => exact na
        | true =>
          obtain ⟨a', b', g1, g2, -, e1, e2⟩ := pP_iv zp
          have e1 := nI_ij (by omega) (by omega) e1
          have e2 := nI_ij (by omega) (by omega) e2
          exact NA_as (NAf_up (Or.inr (Or.inl (by omega))) (by decide) na)
  rcases (by omega : kd = 0 ∨ kd = 1 ∨ kd = 2 ∨ kd = 3 ∨ kd = 4) with rfl | rfl | rfl | rfl | rfl
  · exact v217_na hc na
  · have z := lp_in (f := fun _ x => v219 q cc gc x) (P := fun _ x => HC q cc gc x ∧ NA x 170 78 86 6) a 0 h ⟨hc, na⟩ (fun i x _ _ p => ⟨(v219_fr p.1).1, v219_na p.1 p.2⟩)
    exact z.2
  · show NA (v221 q cc gc h a b).2 170 78 86 6
    unfold v221
    cases zp : pP cc (nI a) (nI b) with
    | false => exact na
    | true =>
      obtain ⟨a', b', g1, g2, -, e1, e2⟩ := pP_iv zp
      have e1 := nI_ij (by omega) (by omega) e1
      have e2 := nI_ij (by omega) (by omega) e2
      exact NA_as (NAf_up (Or.inr (Or.inl (by omega))) (by decide) na)
  · exact e20 _
  · exact e20 _
theorem yX_1 {a b : Nat} {d : Int32} : yX q cc gc h 1 a b d = (true, v140 q cc gc h a) := by
  unfold yX
  rw [if_neg (by decide), if_pos rfl]
theorem yM_1 {a b : Nat} : yM q cc gc h k 1 a b = v227m q cc gc h k a := by
  unfold yM
  rw [if_pos rfl]
/-- does -/
theorem ym_run {j : Nat} (hc : HC q cc gc M) (na : NA M 170 78 86 6) (ok : yOk f t c) (td : yTold M f t c) (hj : j < c) (hj2 : j < 100) (hh : pm_run PT n fr lo 227 (0, pm_l0 [.ref 162, .int (nI j)] 5, [], M, 198, sl) = some R) : R = (some (.int (cond (yMj q cc gc f t j M).1 1 0)), (yMj q cc gc f t j M).2, 198, sl) ∧ (HC q cc gc (yMj q cc gc f t j M).2 ∧ frm yWM yVM M (yMj q cc gc f t j M).2) ∧ NA (yMj q cc gc f t j M).2 170 78 86 6 := by
  obtain ⟨⟨kd, eL⟩, oA⟩ := ok j hj
  obtain ⟨t1, t2, t3, -⟩ := td j hj
  obtain ⟨k4, -, -, d1, d2, -⟩ := y_act eL oA
  have hk : yKd f t j = kd := by
    unfold yKd
    rw [eL]
    rfl
  have la := (y_dig d1).2
  unfold yMj
  rw [hk] at t1 t3 ⊢
  by_cases y : kd = 1
  · subst y
    have n1 := yM_na (k := j) (kd := 1) (a := yd f (yPos f t j + 1)) (b := 0) hc na (by decide) la (by decide)
    rw [yM_1] at n1 ⊢
    obtain ⟨g1, g2, g3⟩ := v227m_ok hc (by omega) t1 t2 la na hh
    exact ⟨g1, ⟨g2, fr_g rfl rfl g3 fr_0⟩, n1⟩
  · have t3 := t3 y
    have lb := (y_dig (d2 y)).2
    have e : yM q cc gc M j kd (yd f (yPos f t j + 1)) (yd f (yPos f t j + 2)) = v227 q cc gc M j kd (yd f (yPos f t j + 1)) (yd f (yPos f t j + 2)) := if_neg y
    have n1 := yM_na (k := j) (b := yd f (yPos f t j + 2)) hc na k4 la lb
    rw [e] at n1 ⊢
    obtain ⟨g1, g2, g3⟩ := v227_ok hc (by omega) t1 t2 t3 (by omega) la lb na hh
    exact ⟨g1, ⟨g2, g3⟩, n1⟩
theorem yM_told (f1 : frm yWM yVM M H) (td : yTold M f t c) : yTold H f t c := yTold_e (fun a ha => f1.1 a (by rcases ha with rfl | rfl | rfl | rfl <;> rfl)) td
/-- the reference's acts -/
theorem yw_loop (ok : yOk f t c) (hc60 : c ≤ 60) : ∀ (k j n : Nat) (M : pm_H), j + k = c → HC q cc gc M → NA M 170 78 86 6 → Fi M 162 35 = nI c → yTold M f t c → pm_run PT n fr lo 228 (64, [some (.ref 162), some (.int v1), some (.int v2), some (.int v3), some (.int (nI j))], [], M, 198, sl) = some R → ∃ m, pm_run PT m fr lo 228 (88, [some (.ref 162), some (.int v1), some (.int v2), some (.int v3), some (.int (nI (yG (yMj q cc gc f t) k j M).1))], [], (yG (yMj q cc gc f t) k j M).2, 198, sl) = some R
  | 0, j, n, M, e, hc, na, e35, td, hh => by
    obtain ⟨n, hh⟩ := rn_i rfl rfl rfl rfl hh
    obtain ⟨n, hh⟩ := rn_i rfl rfl rfl rfl hh
    have hh : pm_run PT n fr lo 228 (67, [some (.ref 162), some (.int v1), some (.int v2), some (.int v3), some (.int (nI j))], [.ref 162, .int (nI j)], M, 198, sl) = some R := hh
    obtain ⟨n, hh⟩ := rn_gi (x := nI c) hc.wt rfl rfl (by decide) rfl (by decide) rfl e35 hh
    have hh : pm_run PT n fr lo 228 (70, [some (.ref 162), some (.int v1), some (.int v2), some (.int v3), some (.int (nI j))], [.int (nI c), .int (nI j)], M, 198, sl) = some R := hh
    obtain ⟨n, hh⟩ := rn_icmp (cc := .ge) (off := 18) (t := 88) rfl rfl hh
    rw [hI_ge (by omega) (by omega), decide_eq_true (by omega)] at hh
    exact ⟨n, hh⟩
  | k + 1, j, n, M, e, hc, na, e35, td, hh => by
    obtain ⟨n, hh⟩ := rn_i rfl rfl rfl rfl hh
    obtain ⟨n, hh⟩ := rn_i rfl rfl rfl rfl hh
    have hh : pm_run PT n fr lo 228 (67, [some (.ref 162), some (.int v1), some (.int v2), some (.int v3), some (.int (nI j))], [.ref 162, .int (nI j)], M, 198, sl) = some R := hh
    obtain ⟨n, hh⟩ := rn_gi (x := nI c) hc.wt rfl rfl (by decide) rfl (by decide) rfl e35 hh
    have hh : pm_run PT n fr lo 228 (70, [some (.ref 162), some (.int v1), some (.int v2), some (.int v3), some (.int (nI j))], [.int (nI c), .int (nI j)], M, 198, sl) = some R := hh
    obtain ⟨n, hh⟩ := rn_icmp (cc := .ge) (off := 18) (t := 88) rfl rfl hh
    rw [hI_ge (by omega) (by omega), decide_eq_false (by omega)] at hh
    have hh : pm_run PT n fr lo 228 (73, [some (.ref 162), some (.int v1), some (.int v2), some (.int v3), some (.int (nI j))], [], M, 198, sl) = some R := hh
    obtain ⟨n, hh⟩ := rn_i rfl rfl rfl rfl hh
    obtain ⟨n, hh⟩ := rn_i rfl rfl rfl rfl hh
    have hh : pm_run PT n fr lo 228 (76, [some (.ref 162), some (.int v1), some (.int v2), some (.int v3), some (.int (nI j))], [.int (nI j), .ref 162], M, 198, sl) = some R := hh
    obtain ⟨n, fr', lo', r1, hr1, hh⟩ := rn_call (w := 0) (t := 227) rfl rfl hh
    obtain ⟨er, ⟨c2, f2⟩, na2⟩ := ym_run hc na ok td (by omega) (by omega) hr1
    subst er
    have eG : yG (yMj q cc gc f t) (k + 1) j M = cond (yMj q cc gc f t j M).1 (yG (yMj q cc gc f t) k (j + 1) (yMj q cc gc f t j M).2) (j, (yMj q cc gc f t j M).2) := rfl
    have td2 := yM_told f2 td
    have e35b : Fi (yMj q cc gc f t j M).2 162 35 = nI c := (f2.2 162 35 rfl rfl).trans e35
    rw [eG]
    generalize yMj q cc gc f t j M = z at *
    obtain ⟨zb, zh⟩ := z
    dsimp only at hh c2 f2 na2 td2 e35b ⊢
    have hh : pm_run PT n fr lo 228 (79, [some (.ref 162), some (.int v1), some (.int v2), some (.int v3), some (.int (nI j))], [.int (cond zb 1 0)], zh, 198, sl) = some R := hh
    obtain ⟨n, hh⟩ := rn_if (cc := .eq) (off := 9) (t := 88) rfl rfl hh
    cases zb with
    | true =>
      rw [show pm_cmp .eq (cond true 1 0 : Int32) 0 = false by decide] at hh
      have hh : pm_run PT n fr lo 228 (82, [some (.ref 162), some (.int v1), some (.int v2), some (.int v3), some (.int (nI j))], [], zh, 198, sl) = some R := hh
      obtain ⟨n, hh⟩ := en_inc (x := j) (c := 1) (j := 4) rfl rfl (by decide) hh
      obtain ⟨n, hh⟩ := rn_i rfl rfl rfl rfl hh
      have hh : pm_run PT n fr lo 228 (64, [some (.ref 162), some (.int v1), some (.int v2), some (.int v3), some (.int (nI (j + 1)))], [], zh, 198, sl) = some R := hh
      exact yw_loop ok hc60 k (j + 1) n zh (by omega) c2 na2 e35b td2 hh
    | false =>
      rw [show pm_cmp .eq (cond false 1 0 : Int32) 0 = true by decide] at hh
      exact ⟨n, hh⟩
/-- both sides' acts: as many, and the same state -/
theorem yG_rel (ok : yOk f t c) : ∀ (k j : Nat) (X M : pm_H), j + k = c → VE q cc gc X M → yTold M f t c → (yG (yXj q cc gc f t) k j X).1 = (yG (yMj q cc gc f t) k j M).1 ∧ VE q cc gc (yG (yXj q cc gc f t) k j X).2 (yG (yMj q cc gc f t) k j M).2
  | 0, j, X, M, e, z, td => ⟨rfl, z⟩
  | k + 1, j, X, M, e, z, td => by
    obtain ⟨⟨kd, eL⟩, oA⟩ := ok j (by omega)
    obtain ⟨t1, t2, t3, t4⟩ := td j (by omega)
    obtain ⟨k4, -, -, d1, d2, -⟩ := y_act eL oA
    have hk : yKd f t j = kd := by
      unfold yKd
      rw [eL]
      rfl
    rw [hk] at t1 t3 t4
    have la := (y_dig d1).2
    obtain ⟨b, lb, e1, e2, fM⟩ : ∃ b : Nat, b < 10 ∧ (yXj q cc gc f t j X = yX q cc gc X kd (yd f (yPos f t j + 1)) b (f (yPos f t j + 3) - nI 48)) ∧ (yMj q cc gc f t j M = yM q cc gc M j kd (yd f (yPos f t j + 1)) b) ∧ frm yWM yVM M (yMj q cc gc f t j M).2 := by
      by_cases y : kd = 1
      · subst y
        refine ⟨0, by decide, ?_, ?_, ?_⟩
        · unfold yXj
          rw [hk, yX_1, yX_1]
        · unfold yMj
          rw [hk, yM_1, yM_1]
        · unfold yMj
          rw [hk, yM_1]
          exact fr_g rfl rfl (v227m_fr (k := j) (a := yd f (yPos f t j + 1)) z.1.2 t1 t2 la).2 fr_0
      · refine ⟨yd f (yPos f t j + 2), (y_dig (d2 y)).2, ?_, ?_, ?_⟩
        · unfold yXj
          rw [hk]
        · unfold yMj
          rw [hk]
        · unfold yMj
          rw [hk]
          exact (yM_fr z.1.2 t1 t2 t3 (by omega) la (y_dig (d2 y)).2).2
    obtain ⟨s1, s2⟩ := y_step (k := j) (d := f (yPos f t j + 3) - nI 48) z la lb k4 t4
    rw [← e1, ← e2] at s1 s2
    have td2 := yM_told fM td
    have g1 : yG (yXj q cc gc f t) (k + 1) j X = cond (yXj q cc gc f t j X).1 (yG (yXj q cc gc f t) k (j + 1) (yXj q cc gc f t j X).2) (j, (yXj q cc gc f t j X).2) := rfl
    have g2 : yG (yMj q cc gc f t) (k + 1) j M = cond (yMj q cc gc f t j M).1 (yG (yMj q cc gc f t) k (j + 1) (yMj q cc gc f t j M).2) (j, (yMj q cc gc f t j M).2) := rfl
    rw [g1, g2, s1]
    cases (yMj q cc gc f t j M).1 with
    | true => exact yG_rel ok k (j + 1) _ _ (by omega) s2 td2
    | false => exact ⟨rfl, s2⟩
theorem yG_le (g : Nat → pm_H → Bool × pm_H) : ∀ (k j : Nat) (X : pm_H), (yG g k j X).1 ≤ j + k
  | 0, j, X => Nat.le_refl _
  | k + 1, j, X => by
    have e : yG g (k + 1) j X = cond (g j X).1 (yG g k (j + 1) (g j X).2) (j, (g j X).2) := rfl
    rw [e]
    cases (g j X).1 with
    | true =>
      have := yG_le g k (j + 1) (g j X).2
      show (yG g k (j + 1) (g j X).2).1 ≤ j + (k + 1)
      omega
    | false =>
      show j ≤ j + (k + 1)
      omega
/-- frames of all acts -/
theorem yGX_fr : ∀ (k j : Nat) (X : pm_H), HC q cc gc X → HC q cc gc (yG (yXj q cc gc f t) k j X).2 ∧ frm yWX yVX X (yG (yXj q cc gc f t) k j X).2
  | 0, j, X, hc => ⟨hc, fr_0⟩
  | k + 1, j, X, hc => by
    have e : yG (yXj q cc gc f t) (k + 1) j X = cond (yXj q cc gc f t j X).1 (yG (yXj q cc gc f t) k (j + 1) (yXj q cc gc f t j X).2) (j, (yXj q cc gc f t j X).2) := rfl
    obtain ⟨c1, f1⟩ := yX_fr (kd := yKd f t j) (a := yd f (yPos f t j + 1)) (b := yd f (yPos f t j + 2)) (d := f (yPos f t j + 3) - nI 48) hc
    have c1 : HC q cc gc (yXj q cc gc f t j X).2 := c1
    have f1 : frm yWX yVX X (yXj q cc gc f t j X).2 := f1
    rw [e]
    cases (yXj q cc gc f t j X).1 with
    | true =>
      obtain ⟨c2, f2⟩ := yGX_fr k (j + 1) _ c1
      exact ⟨c2, fr_g rfl rfl f2 f1⟩
    | false => exact ⟨c1, f1⟩
theorem yGM_fr (ok : yOk f t c) : ∀ (k j : Nat) (M : pm_H), j + k = c → HC q cc gc M → yTold M f t c → HC q cc gc (yG (yMj q cc gc f t) k j M).2 ∧ frm yWM yVM M (yG (yMj q cc gc f t) k j M).2
  | 0, j, M, _, hc, _ => ⟨hc, fr_0⟩
  | k + 1, j, M, he, hc, td => by
    have e : yG (yMj q cc gc f t) (k + 1) j M = cond (yMj q cc gc f t j M).1 (yG (yMj q cc gc f t) k (j + 1) (yMj q cc gc f t j M).2) (j, (yMj q cc gc f t j M).2) := rfl
    obtain ⟨⟨kd, eL⟩, oA⟩ := ok j (by omega)
    obtain ⟨t1, t2, t3, -⟩ := td j (by omega)
    obtain ⟨k4, -, -, d1, d2, -⟩ := y_act eL oA
    have hk : yKd f t j = kd := by
      unfold yKd
      rw [eL]
      rfl
    rw [hk] at t1 t3
    have la := (y_dig d1).2
    have c1 : HC q cc gc (yMj q cc gc f t j M).2 ∧ frm yWM yVM M (yMj q cc gc f t j M).2 := by
      unfold yMj
      rw [hk]
      by_cases y : kd = 1
      · subst y
        rw [yM_1]
        obtain ⟨x1, x2⟩ := v227m_fr (k := j) (a := yd f (yPos f t j + 1)) hc t1 t2 la
        exact ⟨x1, fr_g rfl rfl x2 fr_0⟩
      · exact yM_fr hc t1 t2 t3 (by omega) la (y_dig (d2 y)).2
    have td2 := yM_told c1.2 td
    rw [e]
    cases (yMj q cc gc f t j M).1 with
    | true =>
      obtain ⟨c2, f2⟩ := yGM_fr ok k (j + 1) _ (by omega) c1.1 td2
      exact ⟨c2, fr_g rfl rfl f2 c1.2⟩
    | false => exact c1
end YRM
end MG95zzzkx0
section MG95zzzkx1
/-! year: SR is kept, both sides answer alike -/
section YRE
variable {n fr lo sl n0 cc gc k t c u fi si : Nat} {q : QT} {h h1 h2 H X M X1 M1 : pm_H} {v w : Int32} {f g : Nat → Int32} {R : pm_Rs} {W : List Nat} {V : List (Nat × Nat)}
/-- both readers see the same signs -/
theorem cg_L (e : ∀ j, j < t → f j = g j) (p : Nat) : yL f t p = yL g t p := by
  unfold yL
  by_cases y : p < t
  · rw [if_pos y, if_pos y, e p y]
  · rw [if_neg y, if_neg y]
theorem cg_B (e : ∀ j, j < t → f j = g j) (p j : Nat) : yB f t p j = yB g t p j := by
  unfold yB
  rw [dg_cg e (p + j)]
  cases z : dg g (p + j) t with
  | false => rfl
  | true => rw [e (p + j) (dg_lt z)]
theorem cg_D (e : ∀ j, j < t → f j = g j) (p : Nat) : ∀ k j, yD f t p k j = yD g t p k j
  | 0, _ => rfl
  | k + 1, j => by
    show cond (yB f t p j) (yD f t p k (j + 1)) j = cond (yB g t p j) (yD g t p k (j + 1)) j
    rw [cg_B e p j, cg_D e p k (j + 1)]
theorem cg_A (e : ∀ j, j < t → f j = g j) (p : Nat) : yA f t p = yA g t p := by
  unfold yA
  rw [cg_L e p]
  cases yL g t p with
  | none => rfl
  | some kd =>
    show (decide (yD f t p (yS kd - 1) 1 = yS kd), p + yD f t p (yS kd - 1) 1) = (decide (yD g t p (yS kd - 1) 1 = yS kd), p + yD g t p (yS kd - 1) 1)
    rw [cg_D e p]
theorem cg_R (e : ∀ j, j < t → f j = g j) : ∀ k p, yR f t k p = yR g t k p
  | 0, _ => rfl
  | k + 1, p => by
    have e1 : yR f t (k + 1) p = if p < t then (cond (yA f t p).1 (yR f t k (yA f t p).2) (yA f t p)) else (true, p) := rfl
    have e2 : yR g t (k + 1) p = if p < t then (cond (yA g t p).1 (yR g t k (yA g t p).2) (yA g t p)) else (true, p) := rfl
    rw [e1, e2, cg_A e p, cg_R e k]
theorem cg_P (e : ∀ j, j < t → f j = g j) : ∀ j, yPos f t j = yPos g t j
  | 0 => rfl
  | j + 1 => by
    show (yA f t (yPos f t j)).2 = (yA g t (yPos g t j)).2
    rw [cg_P e j, cg_A e]
theorem cg_K (e : ∀ j, j < t → f j = g j) (j : Nat) : yKd f t j = yKd g t j := by
  unfold yKd
  rw [cg_P e j, cg_L e]
theorem cg_ok (e : ∀ j, j < t → f j = g j) (z : yOk f t c) : yOk g t c := by
  intro j hj
  have y := z j hj
  rw [cg_P e j, cg_L e, cg_A e] at y
  exact y
theorem cg_told (e : ∀ j, j < t → f j = g j) (ok : yOk f t c) (z : yTold h f t c) : yTold h g t c := by
  intro j hj
  obtain ⟨⟨kd, eL⟩, oA⟩ := ok j hj
  obtain ⟨k4, -, -, d1, d2, d3⟩ := y_act eL oA
  have hk : yKd f t j = kd := by
    unfold yKd
    rw [eL]
    rfl
  obtain ⟨z1, z2, z3, z4⟩ := z j hj
  have hk2 : yKd g t j = kd := (cg_K e j).symm.trans hk
  have a1 : f (yPos f t j + 1) = g (yPos f t j + 1) := e _ (dg_lt d1)
  rw [hk] at z1 z3 z4
  rw [hk2, ← cg_P e j]
  refine ⟨z1, ?_, fun y => ?_, fun y => ?_⟩
  · rw [z2]
    unfold yd
    rw [a1]
  · rw [z3 y]
    unfold yd
    rw [e _ (dg_lt (d2 y))]
  · rw [z4 y, e _ (dg_lt (d3 y))]
/-- the class's end of a year -/
def yEnd (q : QT) (cc gc : Nat) (h : pm_H) (fi si k : Nat) (A B : Int64) : pm_H := v56 q cc gc (cond (decide (k ≤ 0)) (fset h 1 1 (.int (nI 0))) (v17 q cc gc (fset h 1 1 (.int (nI 0))) fi si)) A B
theorem v100e_is {a s p i : Int32} : ∃ A B, v100e q cc gc h fi si a k s p i = (nI k, yEnd q cc gc h fi si k A B) := by
  unfold v100e yEnd
  cases decide (k ≤ 0) with
  | true =>
    rw [cond_true, cond_true]
    cases pm_cmp .eq s 0 with
    | true =>
      rw [cond_true]
      exact ⟨_, _, rfl⟩
    | false =>
      rw [cond_false]
      exact ⟨_, _, rfl⟩
  | false =>
    rw [cond_false, cond_false]
    cases pm_cmp .eq s 0 with
    | true =>
      rw [cond_true]
      exact ⟨_, _, rfl⟩
    | false =>
      rw [cond_false]
      exact ⟨_, _, rfl⟩
/-- what stands before the reference's 'adds' -/
def yMid (q : QT) (cc gc : Nat) (h : pm_H) (A B : Int64) : pm_H := v167 q cc gc (v167 q cc gc (fset h 162 1 (.int (nI 0))) A) B
theorem v228e_is {a b d : Int32} : ∃ A B, v228e q cc gc h c u a b d k = cond (decide (k ≤ 0)) (nI 0, yMid q cc gc h A B) ((v212 q cc gc (yMid q cc gc h A B) u (nI k)).1, (v212 q cc gc (yMid q cc gc h A B) u (nI k)).2) := ⟨_, _, rfl⟩
theorem v212_1 : (v212 q cc gc h u v).1 = v := by
  unfold v212
  cases decide (u + 1 ≤ 15) <;> rfl
/-- the class's year -/
theorem yc_run (hn : n0 ≤ 80) (hc : HC q cc gc h) (t1 : Fi h 1 1 = nI n0) (na : NA h 17 0 8 6) (hfi : fi < 16) (hsi : si ≤ 15) (e1 : Fi h 25 1 = nI fi) (e2 : Fi h 25 2 = nI si) (hh : pm_run PT n fr lo 100 (0, pm_l0 [.ref 0] 6, [], h, 198, sl) = some R) : (yGood n0 (yR (Ar h 2) (min n0 60) 61 0) = false ∧ R = (some (.int (Int32.ofInt (-1) - nI (yR (Ar h 2) (min n0 60) 61 0).2)), fset h 1 1 (.int (nI 0)), 198, sl)) ∨ (yGood n0 (yR (Ar h 2) (min n0 60) 61 0) = true ∧ ∀ c, yOk (Ar h 2) (min n0 60) c → yPos (Ar h 2) (min n0 60) c = n0 → ∃ A B, R = (some (.int (nI (yG (yXj q cc gc (Ar h 2) (min n0 60)) c 0 (v16 q cc gc h fi si)).1)), yEnd q cc gc (yG (yXj q cc gc (Ar h 2) (min n0 60)) c 0 (v16 q cc gc h fi si)).2 fi si (yG (yXj q cc gc (Ar h 2) (min n0 60)) c 0 (v16 q cc gc h fi si)).1 A B, 198, sl)) := by
  have px := pX_hc hc t1
  obtain ⟨n, hh⟩ := rn_i rfl rfl rfl rfl hh
  have hh : pm_run PT n fr lo 100 (1, [some (.ref 0), none, none, none, none, none], [.ref 0], h, 198, sl) = some R := hh
  obtain ⟨n, fr', lo', r1, hr1, hh⟩ := rn_call (w := 0) (t := 134) rfl rfl hh
  have er := yf_run hn hc px hr1
  subst er
  have hr := yR_le (f := Ar h 2) (t := min n0 60) 61 0 (Nat.zero_le _)
  generalize yR (Ar h 2) (min n0 60) 61 0 = r at *
  obtain ⟨rb, rp⟩ := r
  unfold yO at hh
  unfold yGood
  dsimp only at hh hr ⊢
  have hh : pm_run PT n fr lo 100 (4, [some (.ref 0), none, none, none, none, none], [.int (cond (rb && decide (rp = n0)) (Int32.ofInt (-1)) (nI rp))], h, 198, sl) = some R := hh
  obtain ⟨n, hh⟩ := rn_i rfl rfl rfl rfl hh
  obtain ⟨n, hh⟩ := rn_i rfl rfl rfl rfl hh
  have hh : pm_run PT n fr lo 100 (6, [some (.ref 0), some (.int (cond (rb && decide (rp = n0)) (Int32.ofInt (-1)) (nI rp))), none, none, none, none], [.int (cond (rb && decide (rp = n0)) (Int32.ofInt (-1)) (nI rp))], h, 198, sl) = some R := hh
  obtain ⟨n, hh⟩ := rn_if (cc := .lt) (off := 15) (t := 21) rfl rfl hh
  cases y : rb && decide (rp = n0) with
  | false =>
    rw [y, cond_false, show pm_cmp .lt (nI rp) 0 = false from lt0_val (by rw [nI_toInt (by omega)]; omega)] at hh
    have hh : pm_run PT n fr lo 100 (9, [some (.ref 0), some (.int (nI rp)), none, none, none, none], [], h, 198, sl) = some R := hh
    obtain ⟨n, hh⟩ := rn_i rfl rfl rfl rfl hh
    have hh : pm_run PT n fr lo 100 (10, [some (.ref 0), some (.int (nI rp)), none, none, none, none], [.ref 0], h, 198, sl) = some R := hh
    obtain ⟨n, hh⟩ := rn_gr hc.wt rfl rfl (by decide) rfl (by decide) (show _ = some (2, ((1 : Nat) : Int), 1) from rfl) rfl hh
    obtain ⟨n, hh⟩ := rn_i rfl rfl rfl rfl hh
    have hh : pm_run PT n fr lo 100 (14, [some (.ref 0), some (.int (nI rp)), none, none, none, none], [.int (nI 0), .ref 1], h, 198, sl) = some R := hh
    obtain ⟨n, hh⟩ := rn_pi hc.wt rfl rfl (by decide) rfl (by decide) rfl hh
    obtain ⟨n, hh⟩ := rn_i rfl rfl rfl rfl hh
    obtain ⟨n, hh⟩ := rn_i rfl rfl rfl rfl hh
    obtain ⟨n, hh⟩ := rn_i rfl rfl rfl rfl hh
    have hh : pm_run PT n fr lo 100 (20, [some (.ref 0), some (.int (nI rp)), none, none, none, none], [.int (Int32.ofInt (-1) - nI rp)], fset h 1 1 (.int (nI 0)), 198, sl) = some R := hh
    exact Or.inl ⟨rfl, (rn_ret rfl (Or.inl rfl) hh).2⟩
  | true =>
    refine Or.inr ⟨rfl, fun c ok hend => ?_⟩
    rw [y, cond_true, show pm_cmp .lt (Int32.ofInt (-1)) 0 = true by decide] at hh
    have hh : pm_run PT n fr lo 100 (21, [some (.ref 0), some (.int (Int32.ofInt (-1))), none, none, none, none], [], h, 198, sl) = some R := hh
    obtain ⟨n, hh⟩ := rn_i rfl rfl rfl rfl hh
    have hh : pm_run PT n fr lo 100 (22, [some (.ref 0), some (.int (Int32.ofInt (-1))), none, none, none, none], [.ref 0], h, 198, sl) = some R := hh
    obtain ⟨n, hh⟩ := rn_gr hc.wt rfl rfl (by decide) rfl (by decide) (show _ = some (2, ((25 : Nat) : Int), 1) from rfl) rfl hh
    obtain ⟨n, hh⟩ := rn_i rfl rfl rfl rfl hh
    have hh : pm_run PT n fr lo 100 (26, [some (.ref 0), some (.int (Int32.ofInt (-1))), none, none, none, none], [.ref 0, .ref 25], h, 198, sl) = some R := hh
    obtain ⟨n, hh⟩ := rn_gr hc.wt rfl rfl (by decide) rfl (by decide) (show _ = some (2, ((13 : Nat) : Int), 1) from rfl) rfl hh
    have hh : pm_run PT n fr lo 100 (29, [some (.ref 0), some (.int (Int32.ofInt (-1))), none, none, none, none], [.ref 13, .ref 25], h, 198, sl) = some R := hh
    obtain ⟨n, fr', lo', r1, hr1, hh⟩ := rn_call (w := 0) (t := 16) rfl rfl hh
    obtain ⟨er, c0, f0⟩ := v16_ok hc hfi hsi e1 e2 hr1
    subst er
    have g1 : v16 q cc gc h fi si 1 = h 1 := f0.1 1 rfl
    have g2 : v16 q cc gc h fi si 2 = h 2 := f0.1 2 rfl
    have g17 : v16 q cc gc h fi si 17 = h 17 := f0.1 17 rfl
    have g25 : v16 q cc gc h fi si 25 = h 25 := f0.1 25 rfl
    have hh : pm_run PT n fr lo 100 (32, [some (.ref 0), some (.int (Int32.ofInt (-1))), none, none, none, none], [], v16 q cc gc h fi si, 198, sl) = some R := hh
    generalize v16 q cc gc h fi si = X0 at *
    have hh : pm_run PT n fr lo 100 (32, [some (.ref 0), some (.int (Int32.ofInt (-1))), none, none, none, none], [], X0, 198, sl) = some R := hh
    obtain ⟨n, hh⟩ := rn_i rfl rfl rfl rfl hh
    obtain ⟨n, hh⟩ := rn_i rfl rfl rfl rfl hh
    obtain ⟨n, hh⟩ := rn_i rfl rfl rfl rfl hh
    obtain ⟨n, hh⟩ := rn_i rfl rfl rfl rfl hh
    obtain ⟨n, hh⟩ := rn_i rfl rfl rfl rfl hh
    obtain ⟨n, hh⟩ := rn_i rfl rfl rfl rfl hh
    obtain ⟨n, hh⟩ := rn_i rfl rfl rfl rfl hh
    obtain ⟨n, hh⟩ := rn_i rfl rfl rfl rfl hh
    have hh : pm_run PT n fr lo 100 (42, [some (.ref 0), some (.int (Int32.ofInt (-1))), some (.int (nI 0)), some (.int 0), some (.int (nI (yPos (Ar h 2) (min n0 60) 0))), some (.int (nI 0))], [], X0, 198, sl) = some R := hh
    obtain ⟨m, s, p, i, hm⟩ := yl_loop (q := q) (cc := cc) (gc := gc) hn ok hend c 0 n X0 (Nat.zero_add c) c0 (NA_e (Ar_e g17) na) ((Fi_e g1).trans t1) (Ar_e g2) hh
    obtain ⟨cX, fX⟩ := yGX_fr (f := Ar h 2) (t := min n0 60) c 0 X0 c0
    have hk := yG_le (yXj q cc gc (Ar h 2) (min n0 60)) c 0 X0
    have hle := yPos_le c ok
    have x25 : (yG (yXj q cc gc (Ar h 2) (min n0 60)) c 0 X0).2 25 = h 25 := (fX.1 25 rfl).trans g25
    generalize yG (yXj q cc gc (Ar h 2) (min n0 60)) c 0 X0 = z at *
    obtain ⟨kk, Xe⟩ := z
    dsimp only at hm cX fX hk x25 ⊢
    obtain ⟨er, -, -⟩ := v100e_ok cX (by omega) hfi hsi ((Fi_e x25).trans e1) ((Fi_e x25).trans e2) hm
    obtain ⟨A, B, eE⟩ := v100e_is (q := q) (cc := cc) (gc := gc) (h := Xe) (fi := fi) (si := si) (k := kk) (a := Int32.ofInt (-1)) (s := s) (p := p) (i := i)
    rw [eE] at er
    exact ⟨A, B, er⟩
end YRE
end MG95zzzkx1
section MG95zzzkx2
/-! year: SR is kept, both sides answer alike -/
section YRF
variable {n fr lo sl n0 cc gc k t c u fi si : Nat} {q : QT} {a b h h1 h2 H X M X0 M0 hx hm hm' : pm_H} {v w : Int32} {f g : Nat → Int32} {R : pm_Rs} {W : List Nat} {V : List (Nat × Nat)}
theorem HC_fr (hc : HC q cc gc h) (w1 : WT h1) (z : frm W V h h1) (k : srF W V = true) : HC q cc gc h1 := by
  unfold srF at k
  rw [Bool.and_eq_true, Bool.and_eq_true] at k
  obtain ⟨k1, k2, k3⟩ := k
  refine HC_keep w1 (fun c g e => ?_) (fun fs p e1 e2 => ⟨fs, (z.1 0 (nel k3)).trans e1, e2⟩) hc
  have y := List.all_eq_true.mp k2 (c, g) (List.elem_iff.mp e)
  rw [Bool.and_eq_true] at y
  exact z.2 c g y.1 (nel2 y.2)
theorem VE_m2 (z : VE q cc gc hx hm) (hc : HC q cc gc hm') (ce : ∀ a, List.elem a [164, 165, 166, 167, 168, 170, 174] = true → hm' a = hm a) : VE q cc gc hx hm' := by
  obtain ⟨⟨z1, z2⟩, z3, z4, z5, z6⟩ := z
  refine ⟨⟨z1, hc⟩, ?_, ?_, ?_, ?_⟩
  · rw [Ar_e (ce 174 rfl)]
    exact z3
  · unfold RMm
    rw [Ar_e (ce 164 rfl), Ar_e (ce 165 rfl), Ar_e (ce 166 rfl), Ar_e (ce 167 rfl), Ar_e (ce 168 rfl)]
    exact z4
  · rw [Ar_e (ce 170 rfl)]
    exact z5
  · rw [Ar_e (ce 170 rfl)]
    exact z6
theorem v17_ne {i : Nat} (hi : i ≠ 25) : v17 q cc gc h fi si i = h i := by
  unfold v17
  cases decide (15 ≤ si) with
  | true => exact fs_ne hi
  | false => exact fs_ne hi
theorem fset_at {c g : Nat} {x : Value} : fset h c g x c = (match h c with
  | .inr (ci, fs) => .inr (ci, fs.set g x)
  | e => e) := if_pos rfl
theorem v17_25 (e : b 25 = a 25) : v17 q cc gc b fi si 25 = v17 q cc gc a fi si 25 := by
  unfold v17
  cases decide (15 ≤ si) with
  | true =>
    rw [cond_true, cond_true, fset_at, fset_at, e]
  | false =>
    rw [cond_false, cond_false, fset_at, fset_at, e]
/-- a commit behind something that leaves the undo list alone -/
theorem v17_cg (z : frm W V a b) (k : W.elem 25 = false) : frm W V (v17 q cc gc a fi si) (v17 q cc gc b fi si) := by
  have e25 := v17_25 (q := q) (cc := cc) (gc := gc) (fi := fi) (si := si) (z.1 25 k)
  refine ⟨fun i hi => ?_, fun c g ho hv => ?_⟩
  · by_cases y : i = 25
    · rw [y]
      exact e25
    · rw [v17_ne y, v17_ne y]
      exact z.1 i hi
  · by_cases y : c = 25
    · rw [y]
      exact Fi_e e25
    · rw [Fi_e (v17_ne y), Fi_e (v17_ne y)]
      exact z.2 c g ho hv
theorem el178 {i : Nat} (y : i ≠ 178) : List.elem i [178] = false := by
  cases z : List.elem i [178] with
  | false => rfl
  | true =>
    have z := List.elem_iff.mp z
    simp at z
    exact absurd z y
/-- a state put by, behind something that leaves the state and the rows alone -/
theorem v211_cg (ca : HC q cc gc a) (cb : HC q cc gc b) (hu : u ≤ 15) (z : frm W V a b) (k8 : W.elem 178 = false) (k0 : W.elem 170 = false) : frm W V (v211 q cc gc a u) (v211 q cc gc b u) := by
  obtain ⟨c1, f1⟩ := v211_fr (u := u) ca hu
  obtain ⟨c2, f2⟩ := v211_fr (u := u) cb hu
  obtain ⟨p1, p2, p3⟩ := v211_ar (q := q) (cc := cc) (gc := gc) (h := a) (u := u)
  obtain ⟨r1, r2, r3⟩ := v211_ar (q := q) (cc := cc) (gc := gc) (h := b) (u := u)
  have e0 : Ar b 170 = Ar a 170 := Ar_e (z.1 170 k0)
  have e8 : Ar b 178 = Ar a 178 := Ar_e (z.1 178 k8)
  have eA : Ar (v211 q cc gc b u) 178 = Ar (v211 q cc gc a u) 178 := by
    funext x
    by_cases y : x < 96 * u ∨ 96 * u + 96 ≤ x
    · rw [p3 x y, r3 x y, e8]
    · obtain ⟨k, hk, rfl⟩ : ∃ k, k < 96 ∧ x = 96 * u + k := ⟨x - 96 * u, by omega, by omega⟩
      rw [p2 k hk, r2 k hk, e0]
  have e178 : v211 q cc gc b u 178 = v211 q cc gc a u 178 := by
    rw [wt_a c1.wt (by decide) (show wd (bB 178) = .inl (0, 1536, ai_top) from rfl) (by decide), wt_a c2.wt (by decide) (show wd (bB 178) = .inl (0, 1536, ai_top) from rfl) (by decide), eA]
  refine ⟨fun i hi => ?_, fun c g ho hv => ?_⟩
  · by_cases y : i = 178
    · rw [y]
      exact e178
    · exact (f2.1 i (el178 y)).trans ((z.1 i hi).trans (f1.1 i (el178 y)).symm)
  · exact (f2.2 c g ho rfl).trans ((z.2 c g ho hv).trans (f1.2 c g ho rfl).symm)
theorem yEnd_hc {A B : Int64} (hc : HC q cc gc h) (hfi : fi < 16) (hsi : si ≤ 15) : HC q cc gc (yEnd q cc gc h fi si k A B) := by
  have c1 : HC q cc gc (fset h 1 1 (.int (nI 0))) := hc_f rfl rfl (by decide) rfl hc
  unfold yEnd
  cases decide (k ≤ 0) with
  | true =>
    rw [cond_true]
    exact (v56_fr c1).1
  | false =>
    rw [cond_false]
    exact (v56_fr (v17_fr c1 hfi hsi).1).1
theorem yMid_fr {A B : Int64} (hc : HC q cc gc h) : HC q cc gc (yMid q cc gc h A B) ∧ frm [162, 163] [(162, 1)] h (yMid q cc gc h A B) := by
  have c1 : HC q cc gc (fset h 162 1 (.int (nI 0))) := hc_f rfl rfl (by decide) rfl hc
  obtain ⟨c2, f2⟩ := v167_fr (v := A) c1
  obtain ⟨c3, f3⟩ := v167_fr (v := B) c2
  exact ⟨c3, fr_t f3 (fr_t f2 (fr_f rfl rfl fr_0))⟩
def yWb : List Nat := [1, 3, 4, 12, 13, 14, 15, 16, 17, 18, 142, 144, 145, 147, 162, 163, 170, 176, 177, 178, 179, 180, 181, 182]
def yVb : List (Nat × Nat) := [(1, 1), (3, 1), (13, 5), (13, 6), (142, 3), (145, 3), (162, 0), (162, 15), (162, 16), (162, 17), (162, 18), (162, 35), (162, 29), (162, 30), (162, 1)]
def yWc : List Nat := [1, 3, 4, 12, 13, 14, 15, 16, 17, 18, 142, 144, 145, 147]
def yVc : List (Nat × Nat) := [(1, 1), (3, 1), (13, 5), (13, 6), (142, 3), (145, 3)]
def yWd : List Nat := [162, 163, 170, 176, 177, 179, 180, 181, 182]
def yVd : List (Nat × Nat) := [(162, 0), (162, 15), (162, 16), (162, 17), (162, 18), (162, 35), (162, 29), (162, 30), (162, 1)]
theorem CK_wb : CK.all (fun a => !(yWb.elem a)) = true := by decide +kernel
theorem sl_wb : (List.range 96).all (fun j => !(yWb.elem (27 + j))) = true := by decide +kernel
/-- a year in which nothing went through -/
theorem SR_yr0 (hc : HC q cc gc h) (s : SRq q cc gc h) (hfi : fi < 16) (hsi : si ≤ 15) (e1 : Fi h 25 1 = nI fi) (e2 : Fi h 25 2 = nI si) (e3 : Fi h 162 27 = nI si) (pa : ∀ j, j < si → RSb cc gc (27 + 6 * ((fi + j) % 16)) h (fun k => Ar h 178 (96 * j + k)) ∧ RI cc gc (fun k => Ar h 178 (96 * j + k))) (c2 : HC q cc gc h2) (z : frm yWb yVb (cp73 h (27 + 6 * ((fi + si) % 16)) 13) h2) (e178 : ∀ x, x < 96 * si → Ar h2 178 x = Ar h 178 x) (nw : RSb cc gc 13 h2 (Ar h2 170) ∧ RI cc gc (Ar h2 170)) : SR h2 := by
  have out : ∀ a, (a < 27 ∨ 123 ≤ a) → yWb.elem a = false → h2 a = h a := fun a y e => (z.1 a e).trans (cp73_ne (by omega))
  have cs : ∀ a, CK.elem a = true → h2 a = h a := fun a e => out a (CK_of e).1 (nel (List.all_eq_true.mp CK_wb a (List.elem_iff.mp e)))
  have ka : kpt AK h h2 := fun a e => Ar_e (cs a (List.elem_iff.mpr (List.mem_append_left _ (List.elem_iff.mp e))))
  have i162 : cp73 h (27 + 6 * ((fi + si) % 16)) 13 162 = h 162 := cp73_ne (by omega)
  have f47 : Fi h2 162 47 = Fi h 162 47 := (z.2 162 47 rfl rfl).trans (Fi_e i162)
  have kf : kpf FK h h2 := by
    intro c g e
    have e := List.elem_iff.mp e
    simp only [FK, List.mem_cons, Prod.mk.injEq, List.not_mem_nil, or_false] at e
    rcases e with ⟨rfl, rfl⟩ | ⟨rfl, rfl⟩ | ⟨rfl, rfl⟩ | ⟨rfl, rfl⟩ | ⟨rfl, rfl⟩ | ⟨rfl, rfl⟩ | ⟨rfl, rfl⟩ | ⟨rfl, rfl⟩ | ⟨rfl, rfl⟩ | ⟨rfl, rfl⟩ | ⟨rfl, rfl⟩
    · exact Fi_e (cs 0 rfl)
    · exact Fi_e (cs 5 rfl)
    · exact Fi_e (cs 5 rfl)
    · exact Fi_e (cs 159 rfl)
    · exact f47
    · exact Fi_e (cs 124 rfl)
    · exact Fi_e (cs 124 rfl)
    · exact Fi_e (cs 130 rfl)
    · exact Fi_e (cs 130 rfl)
    · exact Fi_e (cs 136 rfl)
    · exact Fi_e (cs 136 rfl)
  have k9 : k0f 9 h h2 := fun fs p e1 e2 => ⟨fs, (cs 0 rfl).trans e1, e2⟩
  have c25 : h2 25 = h 25 := out 25 (Or.inl (by decide)) rfl
  have hs : ∀ i, 27 ≤ i → i < 123 → (i < 27 + 6 * ((fi + si) % 16) ∨ 27 + 6 * ((fi + si) % 16) + 6 ≤ i) → h2 i = h i := by
    intro i h1 h3 h4
    have e := List.all_eq_true.mp sl_wb (i - 27) (List.mem_range.mpr (by omega))
    rw [show 27 + (i - 27) = i by omega] at e
    exact (z.1 i (nel e)).trans (cp73_ne h4)
  refine SR_act c2 hc.qq s ka kf k9 nw ⟨fi, si, hfi, hsi, ⟨?_, ?_, ?_⟩, fun j hj => ?_⟩
  · exact (Fi_e c25).trans e1
  · exact (Fi_e c25).trans e2
  · exact ((z.2 162 27 rfl rfl).trans (Fi_e i162)).trans e3
  · obtain ⟨q1, q2⟩ := pa j hj
    exact ⟨RS_cg hc.cb hc.gb (fun k hk => e178 _ (by omega)) (RSb_e (fun i h1 h2 => hs i (by omega) (by omega) (by omega)) q1), RI_cg hc.cb hc.gb (fun k hk => e178 _ (by omega)) q2⟩
/-- year keeps SR; both sides answer alike -/
theorem sr_year (hL : LI5 h) (pr : prun sl 100 228 [] h h1 h2 v w) (z : SR h) : v = w ∧ SR h2 := by
  obtain ⟨q, cc, gc, fi, si, hc, s, hfi, hsi, e1, e2, e3, pa⟩ := SR_open z
  obtain ⟨⟨m1, r1⟩, ⟨f1, i1⟩, ⟨m2, r2⟩, lo1, i2⟩ := pr
  obtain ⟨n0, hn, t1, t15, hjj⟩ := li_text hL
  have hI : mInv h := hL.1
  have hx : ∀ i, i = 164 ∨ i = 165 ∨ i = 166 ∨ i = 167 ∨ i = 168 ∨ i = 170 ∨ i = 174 ∨ i = 178 ∨ i = 162 ∨ i = 172 → h1 i = h i := fun i hi => f1.1 i (by rcases hi with rfl | rfl | rfl | rfl | rfl | rfl | rfl | rfl | rfl | rfl <;> rfl)
  have e172 : Ar h1 172 = Ar h 172 := Ar_e (hx 172 (by decide))
  have eq : ∀ j, j < min n0 60 → Ar h 2 j = Ar h 172 j := fun j hj => hjj j (by omega)
  have qe : ∀ j, j < min n0 60 → Ar h 172 j = Ar h 2 j := fun j hj => (eq j hj).symm
  have eR := cg_R eq 61 0
  obtain ⟨M, c, ⟨wM, fM⟩, e35, ry⟩ := yh_run (wt_of i1.1) hn ((Fi_e (hx 162 (by decide))).trans t15) r2
  rw [e172, ← eR] at ry
  have kc := yc_run hn hc t1 (na_17 hI.1) hfi hsi e1 e2 r1
  generalize yR (Ar h 2) (min n0 60) 61 0 = r at *
  rcases kc with ⟨g0, er⟩ | ⟨g1, gk⟩
  · rcases ry with ⟨-, er2⟩ | ⟨g2, -⟩
    · injection er with b1 b2
      injection b1 with b1
      injection b1 with b1
      injection b2 with b2 b3
      injection er2 with d1 d2
      injection d1 with d1
      injection d1 with d1
      injection d2 with d2 d3
      rw [b2] at fM
      have fa : frm (1 :: yHW) ((1, 1) :: yHV) h M := fr_g rfl rfl fM (fr_f rfl rfl fr_0)
      have k : srF (1 :: yHW) ((1, 1) :: yHV) = true := by decide +kernel
      rw [b1, d1, d2]
      exact ⟨rfl, q, cc, gc, HC_fr hc wM fa k, SR_fr hc s fa k⟩
    · rw [g0] at g2
      cases g2
  · rcases ry with ⟨g2, -⟩ | ⟨-, ⟨ok, hend, td⟩, m, v1, v2, v3, hm⟩
    · rw [g1] at g2
      cases g2
    · have ok2 := cg_ok qe ok
      have hend2 : yPos (Ar h 2) (min n0 60) c = n0 := (cg_P eq c).trans hend
      have td2 := cg_told qe ok td
      have hle := yPos_le c ok2
      obtain ⟨A, B, er⟩ := gk c ok2 hend2
      obtain ⟨c0, f0⟩ := v16_fr (fi := fi) (si := si) hc hfi hsi
      have ve0 : VE q cc gc (v16 q cc gc h fi si) h := VE_x (VE_0 hc s) c0 f0 (by decide +kernel)
      have x0 : v16 q cc gc h fi si = cp73 h (27 + 6 * ((fi + si) % 16)) 13 := rfl
      obtain ⟨cX, fX⟩ := yGX_fr (f := Ar h 2) (t := min n0 60) c 0 (v16 q cc gc h fi si) c0
      injection er with b1 b2
      injection b1 with b1
      injection b1 with b1
      injection b2 with b2 b3
      have c1 : HC q cc gc h1 := by
        rw [b2]
        exact yEnd_hc cX hfi hsi
      have cM : HC q cc gc M := HC_fr c1 wM fM (by decide +kernel)
      have m27 : Fi M 162 27 = nI si := (fM.2 162 27 rfl rfl).trans ((Fi_e (hx 162 (by decide))).trans e3)
      -- the reference
      obtain ⟨m, hm⟩ := rn_i rfl rfl rfl rfl hm
      have hm : pm_run PT m _ _ 228 (58, [some (.ref 162), some (.int v1), some (.int v2), some (.int v3), none], [.ref 162], M, 198, sl) = some (some (.int w), h2, 198, sl) := hm
      obtain ⟨m, fr', lo', r1', hr1, hm⟩ := rn_call (w := 0) (t := 211) rfl rfl hm
      obtain ⟨er1, c3, f3⟩ := v211_ok cM hsi m27 hr1
      subst er1
      have a3 := v211_ar (q := q) (cc := cc) (gc := gc) (h := M) (u := si)
      have hm : pm_run PT m _ _ 228 (61, [some (.ref 162), some (.int v1), some (.int v2), some (.int v3), none], [], v211 q cc gc M si, 198, sl) = some (some (.int w), h2, 198, sl) := hm
      obtain ⟨m, hm⟩ := rn_i rfl rfl rfl rfl hm
      obtain ⟨m, hm⟩ := rn_i rfl rfl rfl rfl hm
      have hm : pm_run PT m _ _ 228 (64, [some (.ref 162), some (.int v1), some (.int v2), some (.int v3), some (.int (nI 0))], [], v211 q cc gc M si, 198, sl) = some (some (.int w), h2, 198, sl) := hm
      have fS : frm yHW yHV (fset h1 162 0 (.int (nI 0))) M := ⟨fun i hi => (fM.1 i hi).trans (fs_ne (fun e => by rw [e] at hi; cases hi)).symm, fun c' g' ho hv => (fM.2 c' g' ho hv).trans (Fi_n (Classical.byContradiction (fun y => by
        have y1 : c' = 162 := Classical.byContradiction (fun e => y (Or.inl e))
        have y2 : g' = 0 := Classical.byContradiction (fun e => y (Or.inr e))
        rw [y1, y2] at hv
        cases hv))).symm⟩
      have cS : HC q cc gc (fset h1 162 0 (.int (nI 0))) := hc_f rfl rfl (by decide) rfl c1
      have fP := v211_cg (u := si) cS cM hsi fS rfl rfl
      have fQ : frm (178 :: yHW) yHV h1 (v211 q cc gc M si) := fr_g rfl rfl f3 (fr_g rfl rfl fM fr_0)
      have mh : ∀ i, i = 164 ∨ i = 165 ∨ i = 166 ∨ i = 167 ∨ i = 168 ∨ i = 170 ∨ i = 174 → v211 q cc gc M si i = h i := fun i hi => (fQ.1 i (by rcases hi with rfl | rfl | rfl | rfl | rfl | rfl | rfl <;> rfl)).trans (hx i (by omega))
      have ve : VE q cc gc (v16 q cc gc h fi si) (v211 q cc gc M si) := VE_m2 ve0 c3 (fun i hi => mh i (by
        have hi := List.elem_iff.mp hi
        simp at hi
        omega))
      have td3 : yTold (v211 q cc gc M si) (Ar h 2) (min n0 60) c := yTold_e (fun i hi => f3.1 i (by rcases hi with rfl | rfl | rfl | rfl <;> rfl)) td2
      have na3 : NA (v211 q cc gc M si) 170 78 86 6 := NA_e (Ar_e (mh 170 (by decide))) (na_170 hI.1)
      obtain ⟨m, hm⟩ := yw_loop (v1 := v1) (v2 := v2) (v3 := v3) ok2 (by omega) c 0 m (v211 q cc gc M si) (Nat.zero_add c) c3 na3 ((f3.2 162 35 rfl rfl).trans e35) td3 hm
      obtain ⟨y1, y2⟩ := yG_rel ok2 c 0 (v16 q cc gc h fi si) (v211 q cc gc M si) (Nat.zero_add c) ve td3
      obtain ⟨cE, fE⟩ := yGM_fr ok2 c 0 (v211 q cc gc M si) (Nat.zero_add c) c3 td3
      have hk := yG_le (yMj q cc gc (Ar h 2) (min n0 60)) c 0 (v211 q cc gc M si)
      have m178 : ∀ x, x < 96 * si → Ar (v211 q cc gc M si) 178 x = Ar h 178 x := fun x hx2 => (a3.2.2 x (Or.inl hx2)).trans (congrFun ((Ar_e (fM.1 178 rfl)).trans (Ar_e (hx 178 (by decide)))) x)
      have ex : XP q cc gc fi si h (v17 q cc gc (v16 q cc gc h fi si) fi si) := by
        unfold v17
        by_cases y : 15 ≤ si
        · rw [decide_eq_true y, cond_true]
          exact xp_1 hc y hsi e2
        · rw [decide_eq_false y, cond_false]
          exact xp_0 hc y e1
      have e35e : Fi (yG (yMj q cc gc (Ar h 2) (min n0 60)) c 0 (v211 q cc gc M si)).2 162 35 = nI c := (fE.2 162 35 rfl rfl).trans ((f3.2 162 35 rfl rfl).trans e35)
      have e27e : Fi (yG (yMj q cc gc (Ar h 2) (min n0 60)) c 0 (v211 q cc gc M si)).2 162 27 = nI si := (fE.2 162 27 rfl rfl).trans ((f3.2 162 27 rfl rfl).trans m27)
      generalize yG (yXj q cc gc (Ar h 2) (min n0 60)) c 0 (v16 q cc gc h fi si) = zx at *
      obtain ⟨kx, Xe⟩ := zx
      generalize yG (yMj q cc gc (Ar h 2) (min n0 60)) c 0 (v211 q cc gc M si) = zm at *
      obtain ⟨km, Me⟩ := zm
      dsimp only at b1 b2 y1 y2 cX fX hm cE fE hk e35e e27e
      subst y1
      obtain ⟨er2, -, -⟩ := v228e_ok cE (by omega) (by omega) hsi e35e e27e hm
      obtain ⟨A2, B2, eE⟩ := v228e_is (q := q) (cc := cc) (gc := gc) (h := Me) (c := c) (u := si) (k := kx) (a := v1) (b := v2) (d := v3)
      rw [eE] at er2
      obtain ⟨cMid, fMid⟩ := yMid_fr (A := A2) (B := B2) cE
      obtain ⟨r5, r6⟩ := y2.2.2.2
      have cF : HC q cc gc (fset Xe 1 1 (.int (nI 0))) := hc_f rfl rfl (by decide) rfl cX
      have lo : ∀ i, i < 162 → yMid q cc gc Me A2 B2 i = h1 i := fun i hi => (fMid.1 i (el_ge (by decide) hi)).trans ((fE.1 i (el_ge (by decide) hi)).trans ((f3.1 i (el_ge (by decide) hi)).trans (fM.1 i (el_ge (by decide) hi))))
      have a170 : Ar (yMid q cc gc Me A2 B2) 170 = Ar Me 170 := Ar_e (fMid.1 170 rfl)
      by_cases y : kx ≤ 0
      · rw [decide_eq_true y, cond_true] at er2
        injection er2 with d1 d2
        injection d1 with d1
        injection d1 with d1
        injection d2 with d2 d3
        unfold yEnd at b2
        rw [decide_eq_true y, cond_true] at b2
        have hk0 : kx = 0 := by omega
        have fH : frm [1, 3, 4] [(1, 1), (3, 1)] Xe h1 := by
          rw [b2]
          exact fr_g rfl rfl (v56_fr cF).2 (fr_f rfl rfl fr_0)
        have hX : ∀ i, i = 13 ∨ i = 14 ∨ i = 15 ∨ i = 16 ∨ i = 17 ∨ i = 18 → h1 i = Xe i := fun i hi => fH.1 i (by rcases hi with rfl | rfl | rfl | rfl | rfl | rfl <;> rfl)
        have fz : frm yWb yVb (v16 q cc gc h fi si) (yMid q cc gc Me A2 B2) := fr_g (by decide +kernel) (by decide +kernel) fMid (fr_g (by decide +kernel) (by decide +kernel) fE (fr_g (by decide +kernel) (by decide +kernel) f3 (fr_g (by decide +kernel) (by decide +kernel) fM (fr_g (by decide +kernel) (by decide +kernel) fH (fr_g (by decide +kernel) (by decide +kernel) fX fr_0)))))
        rw [b1, d1, d2, hk0]
        refine ⟨rfl, SR_yr0 hc s hfi hsi e1 e2 e3 pa cMid fz (fun x hx2 => (congrFun ((Ar_e (fMid.1 178 rfl)).trans (Ar_e (fE.1 178 rfl))) x).trans (m178 x hx2)) ?_⟩
        rw [a170]
        refine ⟨?_, r6⟩
        unfold RSb
        rw [Ar_e ((lo (13 + 1) (by decide)).trans (hX 14 (by decide))), Ar_e ((lo (13 + 2) (by decide)).trans (hX 15 (by decide))), Ar_e ((lo (13 + 3) (by decide)).trans (hX 16 (by decide))), Ar_e ((lo (13 + 4) (by decide)).trans (hX 17 (by decide))), Ar_e ((lo (13 + 5) (by decide)).trans (hX 18 (by decide))), Fi_e ((lo 13 (by decide)).trans (hX 13 (by decide))), Fi_e ((lo 13 (by decide)).trans (hX 13 (by decide)))]
        exact r5
      · rw [decide_eq_false y, cond_false, v212_1] at er2
        injection er2 with d1 d2
        injection d1 with d1
        injection d1 with d1
        injection d2 with d2 d3
        unfold yEnd at b2
        rw [decide_eq_false y, cond_false] at b2
        have g1 : frm yWc yVc (v16 q cc gc h fi si) (fset Xe 1 1 (.int (nI 0))) := fr_f rfl rfl (fr_g rfl rfl fX fr_0)
        have cV : HC q cc gc (v17 q cc gc (fset Xe 1 1 (.int (nI 0))) fi si) := (v17_fr cF hfi hsi).1
        have fXX : frm yWc yVc (v17 q cc gc (v16 q cc gc h fi si) fi si) h1 := by
          rw [b2]
          exact fr_g rfl rfl (v56_fr cV).2 (v17_cg g1 rfl)
        have hX : ∀ i, i = 13 ∨ i = 14 ∨ i = 15 ∨ i = 16 ∨ i = 17 ∨ i = 18 → h1 i = Xe i := fun i hi => by
          rw [b2]
          exact ((v56_fr cV).2.1 i (by rcases hi with rfl | rfl | rfl | rfl | rfl | rfl <;> rfl)).trans ((v17_ne (by omega)).trans (fs_ne (by omega)))
        have fMM : frm yWd yVd (v211 q cc gc (fset h1 162 0 (.int (nI 0))) si) (yMid q cc gc Me A2 B2) := fr_g (by decide +kernel) (by decide +kernel) fMid (fr_g (by decide +kernel) (by decide +kernel) fE (fr_g (by decide +kernel) (by decide +kernel) fP fr_0))
        rw [b1, d1, d2]
        refine ⟨rfl, act_sr (W2 := []) (V2 := []) hc s hfi hsi pa ex fXX (by decide +kernel) c1 fMM (by decide +kernel) cMid fr_0 (by decide +kernel) rfl (v212_fr cMid hsi).1 ?_⟩
        rw [a170, Ar_e (hX 14 (by decide)), Ar_e (hX 15 (by decide)), Ar_e (hX 16 (by decide)), Ar_e (hX 17 (by decide)), Ar_e (hX 18 (by decide)), Fi_e (hX 13 (by decide)), Fi_e (hX 13 (by decide))]
        exact ⟨r5, r6⟩
end YRF
end MG95zzzkx2
section MG95zzzkx3
/-! the relation of the whole states and every call -/
section RL8
variable {sl kx km : Nat} {h h1 h2 : pm_H} {R : pm_Rs} {vs : List Int32} {v w x y z k m e s r : Int32}
theorem SR_tw (q : twX h h1) (z : SR h) : SR h1 := by
  obtain ⟨q0, cc, gc, hc, s⟩ := z
  have f : frm [197] [] h h1 := ⟨fun i hi => q.1 i (fun e => by rw [e] at hi; cases hi), fun c g ho _ => Fi_e (q.1 c (fr_no rfl ho))⟩
  have k : srF [197] [] = true := by decide +kernel
  exact ⟨q0, cc, gc, HC_fr hc (wt_of q.2) f k, SR_fr hc s f k⟩
def REL8 (h : pm_H) : Prop := REL h ∧ SR h
def LI8 (h : pm_H) : Prop := mInv h ∧ REL8 h
theorem LI8_7 (hI : LI8 h) : LI h := ⟨hI.1, hI.2.1⟩
theorem LI8_6 (hI : LI8 h) : LI6 h := LI_6 (LI8_7 hI)
theorem LI8_56 (hI : LI8 h) : LI5 h := LI_56 (LI8_7 hI)
theorem twX_LI8 (hI : LI8 h) (q : twX h h1) : LI8 h1 := by
  have h7 := twX_LI (LI8_7 hI) q
  exact ⟨h7.1, h7.2, SR_tw q hI.2.2⟩
theorem rel8_w (sm : sMK km = true) (gm : sGK km = true) (tm : sKK km = true) (nm : nKK km = true) (om : roK km = true) (cm : sCK km = true) (k1 : sf_X wMRX km = true) (k2 : sf_X wMNX km = true) (k3 : sf_X wMCX km = true) (k4 : sf_X wMPX km = true) (k5 : sf_X wMKX km = true) (k6 : sf_X wMLX km = true) (k7 : sf_X wFX km = true) (i1 : mInv h1) (vs : List Int32) {mx m f l : Nat} (r2 : pm_run PT m f l km (0, pm_l0 (.ref 162 :: vs.map Value.int) mx, [], h1, 198, sl) = some R) (lo : ∀ i, i < 162 → R.2.1 i = h1 i) (i2 : mInv R.2.1) (r : REL8 h1) : REL8 R.2.1 := by
  refine ⟨rel_w sm gm tm nm om cm i1 vs r2 lo r.1, ?_⟩
  obtain ⟨rv, h2, s2⟩ := R
  exact SR_m k1 (now_keep k2 i1 r2) k3 k4 k5 k6 k7 i1 i2 lo r2 r.2
theorem rel8_answer (pr : prun sl 104 232 vs h h1 h2 v w) (hI : LI8 h) : REL8 h2 := ⟨rel_R rfl rfl rfl rfl rfl rfl rfl rfl rfl rfl pr (LI8_7 hI), sr_answer hI.1 pr hI.2.2⟩
theorem rel8_wins (pr : prun sl 105 234 vs h h1 h2 v w) (hI : LI8 h) : REL8 h2 := ⟨rel_R rfl rfl rfl rfl rfl rfl rfl rfl rfl rfl pr (LI8_7 hI), sr_wins hI.1 pr hI.2.2⟩
theorem rel8_unseen (pr : prun sl 106 235 vs h h1 h2 v w) (hI : LI8 h) : REL8 h2 := ⟨rel_R rfl rfl rfl rfl rfl rfl rfl rfl rfl rfl pr (LI8_7 hI), sr_unseen hI.1 pr hI.2.2⟩
theorem rel8_way (pr : prun sl 108 238 vs h h1 h2 v w) (hI : LI8 h) : REL8 h2 := ⟨rel_R rfl rfl rfl rfl rfl rfl rfl rfl rfl rfl pr (LI8_7 hI), sr_way hI.1 pr hI.2.2⟩
theorem rel8_walks (pr : prun sl 109 239 vs h h1 h2 v w) (hI : LI8 h) : REL8 h2 := ⟨rel_R rfl rfl rfl rfl rfl rfl rfl rfl rfl rfl pr (LI8_7 hI), sr_walks hI.1 pr hI.2.2⟩
theorem rel8_alive (pr : prun sl 110 240 vs h h1 h2 v w) (hI : LI8 h) : REL8 h2 := ⟨rel_R rfl rfl rfl rfl rfl rfl rfl rfl rfl rfl pr (LI8_7 hI), sr_alive hI.1 pr hI.2.2⟩
theorem rel8_net (pr : prun sl 113 244 vs h h1 h2 v w) (hI : LI8 h) : REL8 h2 := ⟨rel_R rfl rfl rfl rfl rfl rfl rfl rfl rfl rfl pr (LI8_7 hI), sr_net hI.1 pr hI.2.2⟩
theorem rel8_settle (pr : prun sl 114 245 vs h h1 h2 v w) (hI : LI8 h) : REL8 h2 := ⟨rel_R rfl rfl rfl rfl rfl rfl rfl rfl rfl rfl pr (LI8_7 hI), sr_settle hI.1 pr hI.2.2⟩
theorem rel8_ring (pr : prun sl 115 247 vs h h1 h2 v w) (hI : LI8 h) : REL8 h2 := ⟨rel_R rfl rfl rfl rfl rfl rfl rfl rfl rfl rfl pr (LI8_7 hI), sr_ring hI.1 pr hI.2.2⟩
theorem rel8_ranks (pr : prun sl 116 249 vs h h1 h2 v w) (hI : LI8 h) : REL8 h2 := ⟨rel_R rfl rfl rfl rfl rfl rfl rfl rfl rfl rfl pr (LI8_7 hI), sr_ranks hI.1 pr hI.2.2⟩
theorem rel8_league (pr : prun sl 117 250 vs h h1 h2 v w) (hI : LI8 h) : REL8 h2 := ⟨rel_R rfl rfl rfl rfl rfl rfl rfl rfl rfl rfl pr (LI8_7 hI), sr_league hI.1 pr hI.2.2⟩
theorem rel8_fits (pr : prun sl 120 255 vs h h1 h2 v w) (hI : LI8 h) : REL8 h2 := ⟨rel_R rfl rfl rfl rfl rfl rfl rfl rfl rfl rfl pr (LI8_7 hI), sr_fits hI.1 pr hI.2.2⟩
theorem rel8_ask (pr : prun sl 121 256 vs h h1 h2 v w) (hI : LI8 h) : REL8 h2 := ⟨rel_R rfl rfl rfl rfl rfl rfl rfl rfl rfl rfl pr (LI8_7 hI), sr_ask hI.1 pr hI.2.2⟩
theorem rel8_rests (pr : prun sl 123 261 vs h h1 h2 v w) (hI : LI8 h) : REL8 h2 := ⟨rel_R rfl rfl rfl rfl rfl rfl rfl rfl rfl rfl pr (LI8_7 hI), sr_rests hI.1 pr hI.2.2⟩
theorem rel8_count (pr : prun sl 127 267 vs h h1 h2 v w) (hI : LI8 h) : REL8 h2 := ⟨rel_R rfl rfl rfl rfl rfl rfl rfl rfl rfl rfl pr (LI8_7 hI), sr_count hI.1 pr hI.2.2⟩
theorem rel8_sign (pr : prun sl 86 178 [x] h h1 h2 v w) (hI : LI8 h) : REL8 h2 := ⟨rel_sign pr (LI8_7 hI), sr_sign hI.1 pr hI.2.2⟩
theorem rel8_end (pr : prun sl 87 179 [x] h h1 h2 v w) (hI : LI8 h) : REL8 h2 := ⟨rel_end pr (LI8_7 hI), sr_end hI.1 pr hI.2.2⟩
theorem rel8_courts (pr : prun sl 88 188 [] h h1 h2 v w) (hI : LI8 h) : REL8 h2 := ⟨rel_courts pr (LI8_7 hI), (sr_courts pr (LI8_56 hI) hI.2.2).2⟩
theorem rel8_gifts (pr : prun sl 89 192 [] h h1 h2 v w) (hI : LI8 h) : REL8 h2 := ⟨rel_gifts pr (LI8_7 hI), (sr_gifts pr (LI8_56 hI) hI.2.2).2⟩
theorem rel8_rule (pr : prun sl 90 198 [] h h1 h2 v w) (hI : LI8 h) : REL8 h2 := ⟨rel_rule pr (LI8_7 hI), sr_rule (LI8_56 hI) pr hI.2.2⟩
theorem rel8_year (pr : prun sl 100 228 [] h h1 h2 v w) (hI : LI8 h) : REL8 h2 := ⟨rel_year pr (LI8_7 hI), (sr_year (LI8_56 hI) pr hI.2.2).2⟩
theorem rel8_law (pr : prun sl 122 258 [] h h1 h2 v w) (hI : LI8 h) : REL8 h2 := ⟨rel_law pr (LI8_7 hI), sr_law (LI8_56 hI) pr hI.2.2⟩
theorem rel8_keep (pr : prun sl 125 264 [x] h h1 h2 v w) (hI : LI8 h) : REL8 h2 := ⟨rel_keep pr (LI8_7 hI), sr_keep pr (LI8_6 hI).2.2 hI.2.2⟩
theorem rel8_again (pr : prun sl 126 265 [x] h h1 h2 v w) (hI : LI8 h) : v = w ∧ REL8 h2 := ⟨(rel_again pr (LI8_7 hI)).1, (rel_again pr (LI8_7 hI)).2, sr_again pr (LI8_6 hI).2.2 hI.2.2⟩
theorem rel8_road (pr : prun sl 94 209 [x, y, z] h h1 h2 v w) (hI : LI8 h) : v = w ∧ REL8 h2 := ⟨(rel_road pr (LI8_7 hI)).1, (rel_road pr (LI8_7 hI)).2, sr_road hI.1 pr hI.2.2⟩
theorem rel8_send (pr : prun sl 96 222 [x, y] h h1 h2 v w) (hI : LI8 h) : REL8 h2 := ⟨rel_R rfl rfl rfl rfl rfl rfl rfl rfl rfl rfl pr (LI8_7 hI), (sr_send pr hI.1 hI.2.2).2⟩
theorem rel8_envoy (pr : prun sl 98 224 [x, y, z] h h1 h2 v w) (hI : LI8 h) : REL8 h2 := ⟨rel_R rfl rfl rfl rfl rfl rfl rfl rfl rfl rfl pr (LI8_7 hI), (sr_envoy pr hI.2.2).2⟩
theorem rel8_forgive (pr : prun sl 99 225 [x, y] h h1 h2 v w) (hI : LI8 h) : REL8 h2 := ⟨rel_R rfl rfl rfl rfl rfl rfl rfl rfl rfl rfl pr (LI8_7 hI), (sr_forgive pr hI.2.2).2⟩
theorem rel8_months (pr : prun sl 97 223 [x] h h1 h2 v w) (hI : LI8 h) : REL8 h2 := ⟨rel_R rfl rfl rfl rfl rfl rfl rfl rfl rfl rfl pr (LI8_7 hI), (sr_months pr hI.2.2).2⟩
theorem rel8_undo (pr : prun sl 101 214 [] h h1 h2 v w) (hI : LI8 h) : REL8 h2 := ⟨rel_R rfl rfl rfl rfl rfl rfl rfl rfl rfl rfl pr (LI8_7 hI), (sr_undo pr hI.2.2).2⟩
theorem rel8_value (pr : prun sl 102 230 [x, y] h h1 h2 v w) (hI : LI8 h) : REL8 h2 := ⟨rel_R rfl rfl rfl rfl rfl rfl rfl rfl rfl rfl pr (LI8_7 hI), (sr_value pr hI.2.2).2⟩
theorem rel8_where (pr : prun sl 103 231 [x] h h1 h2 v w) (hI : LI8 h) : REL8 h2 := ⟨rel_R rfl rfl rfl rfl rfl rfl rfl rfl rfl rfl pr (LI8_7 hI), (sr_where pr hI.2.2).2⟩
theorem rel8_swaps (pr : prun sl 107 236 [] h h1 h2 v w) (hI : LI8 h) : REL8 h2 := ⟨rel_R rfl rfl rfl rfl rfl rfl rfl rfl rfl rfl pr (LI8_7 hI), st_swaps pr hI.1 hI.2.2⟩
theorem rel8_feeds (pr : prun sl 111 242 [x] h h1 h2 v w) (hI : LI8 h) : REL8 h2 := ⟨rel_R rfl rfl rfl rfl rfl rfl rfl rfl rfl rfl pr (LI8_7 hI), st_feeds pr hI.2.2⟩
theorem rel8_starves (pr : prun sl 112 243 [x, y] h h1 h2 v w) (hI : LI8 h) : REL8 h2 := ⟨rel_R rfl rfl rfl rfl rfl rfl rfl rfl rfl rfl pr (LI8_7 hI), st_starves pr hI.2.2⟩
theorem rel8_sheet (pr : prun sl 95 210 [k, m, e, s] h h1 h2 v w) (hI : LI8 h) : REL8 h2 := ⟨rel_R rfl rfl rfl rfl rfl rfl rfl rfl rfl rfl pr (LI8_7 hI), sr_sheet pr hI.2.2⟩
theorem rel8_heard (pr : prun sl 118 251 [x, y] h h1 h2 v w) (hI : LI8 h) : REL8 h2 := ⟨rel_R rfl rfl rfl rfl rfl rfl rfl rfl rfl rfl pr (LI8_7 hI), sr_heard pr hI.2.2⟩
theorem rel8_forget (pr : prun sl 119 252 [] h h1 h2 v w) (hI : LI8 h) : REL8 h2 := ⟨rel_R rfl rfl rfl rfl rfl rfl rfl rfl rfl rfl pr (LI8_7 hI), sr_forget pr hI.2.2⟩
theorem rel8_years (pr : prun sl 124 263 [r, m] h h1 h2 v w) (hI : LI8 h) : REL8 h2 := ⟨rel_R rfl rfl rfl rfl rfl rfl rfl rfl rfl rfl pr (LI8_7 hI), st_years pr hI.1 hI.2.2⟩
theorem eq8_envoy (pr : prun sl 98 224 [x, y, z] h h1 h2 v w) (hI : LI8 h) : v = w := (sr_envoy pr hI.2.2).1
end RL8
end MG95zzzkx3
section MG95zzzkx4
/-! settle: both sides answer alike -/
section QS8
variable {n fr lo sl cc gc g c : Nat} {q : QT} {h h1 h2 : pm_H} {v w x y : Int32} {R : pm_Rs} {e r G D hd ha : Nat → Int32} {dx mx : Int32}
/-- one COURT less -/
def er (i : Nat) : List Nat → List Nat
  | [] => []
  | x :: l => if x = i then l else x :: er i l
/-- the most groups that cancel out, by what is owed to each -/
def gi (W : Nat → Int32) : Nat → List Nat → Int32
  | 0, _ => nI 0
  | k + 1, l => (l.foldl (fun a i => imax a (gi W k (er i l))) (nI 0)) + (cond (pm_cmp .ne (l.foldl (fun s i => s + W i) (nI 0)) 0) (nI 0) (nI 1))
def ol (t : Nat → Bool) : Nat → Nat → List Nat
  | 0, _ => []
  | j + 1, i => cond (t i) (i :: ol t j (i + 1)) (ol t j (i + 1))
def gl (W : Nat → Int32) (n m : Nat) : Int32 := gi W (ol (fun b => m.testBit b) n 0).length (ol (fun b => m.testBit b) n 0)
/-- who owes or is owed at all -/
def opn (W : Nat → Int32) (a : Nat) : Bool := !(pm_cmp .eq (W a) 0)
end QS8
end MG95zzzkx4
section MG95zzzkx5
/-! every opcode whose answers are thrown away -/
section RDT
variable {P : pm_St → Prop} {sl bS Ln i : Nat} {xs : Nat → Int32} {L : pm_L} {h : pm_H}
theorem rd_sign (H : lc_Cl 198 sl bS Ln xs P) (hL : lc_L bS i L) (hi : i + 5 ≤ Ln) (hI : LI8 h) (kk : ∀ h2, LI8 h2 → P (1443, L, [], h2, 198, sl)) : P (224, L, [], h, 198, sl) := op_run H (n := 1) (kx := 86) (km := 178) (pe := 1443) (by decide +kernel) hL (by omega) hI.1 cxw_sign rfl (by decide +kernel) (A := anInt) (fun _ q => q) (fun h1 hI1 => hm_sign hI1 _ (Nat.le_of_ble_eq_true rfl) (Nat.le_of_ble_eq_true rfl)) (fun h1 h2 v w pr => kk h2 ⟨pr.2.2.2.2, rel8_sign pr hI⟩)
theorem rd_end (H : lc_Cl 198 sl bS Ln xs P) (hL : lc_L bS i L) (hi : i + 5 ≤ Ln) (hI : LI8 h) (kk : ∀ h2, LI8 h2 → P (1443, L, [], h2, 198, sl)) : P (249, L, [], h, 198, sl) := op_run H (n := 1) (kx := 87) (km := 179) (pe := 1443) (by decide +kernel) hL (by omega) hI.1 cxw_end rfl (by decide +kernel) (A := aBool) (fun _ q => q.elim (fun e => ⟨_, e⟩) (fun e => ⟨_, e⟩)) (fun h1 hI1 => hm_end hI1 _ (Nat.le_of_ble_eq_true rfl) (Nat.le_of_ble_eq_true rfl)) (fun h1 h2 v w pr => kk h2 ⟨pr.2.2.2.2, rel8_end pr hI⟩)
theorem rd_courts (H : lc_Cl 198 sl bS Ln xs P) (hL : lc_L bS i L) (hi : i + 5 ≤ Ln) (hI : LI8 h) (kk : ∀ h2, LI8 h2 → P (1443, L, [], h2, 198, sl)) : P (274, L, [], h, 198, sl) := op_run H (n := 0) (kx := 88) (km := 188) (pe := 1443) (by decide +kernel) hL (by omega) hI.1 cxw_courts rfl (by decide +kernel) (A := anInt) (fun _ q => q) (fun h1 hI1 => hm_courts hI1 (Nat.le_of_ble_eq_true rfl) (Nat.le_of_ble_eq_true rfl)) (fun h1 h2 v w pr => kk h2 ⟨pr.2.2.2.2, rel8_courts pr hI⟩)
theorem rd_gifts (H : lc_Cl 198 sl bS Ln xs P) (hL : lc_L bS i L) (hi : i + 5 ≤ Ln) (hI : LI8 h) (kk : ∀ h2, LI8 h2 → P (1443, L, [], h2, 198, sl)) : P (287, L, [], h, 198, sl) := op_run H (n := 0) (kx := 89) (km := 192) (pe := 1443) (by decide +kernel) hL (by omega) hI.1 cxw_gifts rfl (by decide +kernel) (A := anInt) (fun _ q => q) (fun h1 hI1 => hm_gifts hI1 (Nat.le_of_ble_eq_true rfl) (Nat.le_of_ble_eq_true rfl)) (fun h1 h2 v w pr => kk h2 ⟨pr.2.2.2.2, rel8_gifts pr hI⟩)
theorem rd_rule (H : lc_Cl 198 sl bS Ln xs P) (hL : lc_L bS i L) (hi : i + 5 ≤ Ln) (hI : LI8 h) (kk : ∀ h2, LI8 h2 → P (1443, L, [], h2, 198, sl)) : P (300, L, [], h, 198, sl) := op_run H (n := 0) (kx := 90) (km := 198) (pe := 1443) (by decide +kernel) hL (by omega) hI.1 cxw_rule rfl (by decide +kernel) (A := anInt) (fun _ q => q) (fun h1 hI1 => hd_rule hI1 (Nat.le_of_ble_eq_true rfl) (Nat.le_of_ble_eq_true rfl)) (fun h1 h2 v w pr => kk h2 ⟨pr.2.2.2.2, rel8_rule pr hI⟩)
theorem rd_road (H : lc_Cl 198 sl bS Ln xs P) (hL : lc_L bS i L) (hi : i + 5 ≤ Ln) (hI : LI8 h) (kk : ∀ h2, LI8 h2 → P (1443, L, [], h2, 198, sl)) : P (445, L, [], h, 198, sl) := op_run H (n := 3) (kx := 94) (km := 209) (pe := 1443) (by decide +kernel) hL (by omega) hI.1 cxw_road rfl (by decide +kernel) (A := anInt) (fun _ q => q) (fun h1 hI1 => hm_road hI1 _ _ _ (Nat.le_of_ble_eq_true rfl) (Nat.le_of_ble_eq_true rfl)) (fun h1 h2 v w pr => kk h2 ⟨pr.2.2.2.2, (rel8_road pr hI).2⟩)
theorem rd_sheet (H : lc_Cl 198 sl bS Ln xs P) (hL : lc_L bS i L) (hi : i + 5 ≤ Ln) (hI : LI8 h) (kk : ∀ h2, LI8 h2 → P (1443, L, [], h2, 198, sl)) : P (494, L, [], h, 198, sl) := op_run H (n := 4) (kx := 95) (km := 210) (pe := 1443) (by decide +kernel) hL (by omega) hI.1 cxw_sheet rfl (by decide +kernel) (A := anInt) (fun _ q => q) (fun h1 hI1 => hm_sheet hI1 _ _ _ _ (Nat.le_of_ble_eq_true rfl) (Nat.le_of_ble_eq_true rfl)) (fun h1 h2 v w pr => kk h2 ⟨pr.2.2.2.2, rel8_sheet pr hI⟩)
theorem rd_send (H : lc_Cl 198 sl bS Ln xs P) (hL : lc_L bS i L) (hi : i + 5 ≤ Ln) (hI : LI8 h) (kk : ∀ h2, LI8 h2 → P (1443, L, [], h2, 198, sl)) : P (555, L, [], h, 198, sl) := op_run H (n := 2) (kx := 96) (km := 222) (pe := 1443) (by decide +kernel) hL (by omega) hI.1 cxw_send rfl (by decide +kernel) (A := anInt) (fun _ q => q) (fun h1 hI1 => hm_send hI1 _ _ (Nat.le_of_ble_eq_true rfl) (Nat.le_of_ble_eq_true rfl)) (fun h1 h2 v w pr => kk h2 ⟨pr.2.2.2.2, rel8_send pr hI⟩)
theorem rd_months (H : lc_Cl 198 sl bS Ln xs P) (hL : lc_L bS i L) (hi : i + 5 ≤ Ln) (hI : LI8 h) (kk : ∀ h2, LI8 h2 → P (1443, L, [], h2, 198, sl)) : P (592, L, [], h, 198, sl) := op_run H (n := 1) (kx := 97) (km := 223) (pe := 1443) (by decide +kernel) hL (by omega) hI.1 cxw_months rfl (by decide +kernel) (A := anInt) (fun _ q => q) (fun h1 hI1 => hm_months hI1 _ (Nat.le_of_ble_eq_true rfl) (Nat.le_of_ble_eq_true rfl)) (fun h1 h2 v w pr => kk h2 ⟨pr.2.2.2.2, rel8_months pr hI⟩)
theorem rd_forgive (H : lc_Cl 198 sl bS Ln xs P) (hL : lc_L bS i L) (hi : i + 5 ≤ Ln) (hI : LI8 h) (kk : ∀ h2, LI8 h2 → P (1443, L, [], h2, 198, sl)) : P (666, L, [], h, 198, sl) := op_run H (n := 2) (kx := 99) (km := 225) (pe := 1443) (by decide +kernel) hL (by omega) hI.1 cxw_forgive rfl (by decide +kernel) (A := anInt) (fun _ q => q) (fun h1 hI1 => hm_forgive hI1 _ _ (Nat.le_of_ble_eq_true rfl) (Nat.le_of_ble_eq_true rfl)) (fun h1 h2 v w pr => kk h2 ⟨pr.2.2.2.2, rel8_forgive pr hI⟩)
theorem rd_year (H : lc_Cl 198 sl bS Ln xs P) (hL : lc_L bS i L) (hi : i + 5 ≤ Ln) (hI : LI8 h) (kk : ∀ h2, LI8 h2 → P (1443, L, [], h2, 198, sl)) : P (703, L, [], h, 198, sl) := op_run H (n := 0) (kx := 100) (km := 228) (pe := 1443) (by decide +kernel) hL (by omega) hI.1 cxw_year rfl (by decide +kernel) (A := anInt) (fun _ q => q) (fun h1 hI1 => hm_year hI1 (Nat.le_of_ble_eq_true rfl) (Nat.le_of_ble_eq_true rfl)) (fun h1 h2 v w pr => kk h2 ⟨pr.2.2.2.2, rel8_year pr hI⟩)
theorem rd_undo (H : lc_Cl 198 sl bS Ln xs P) (hL : lc_L bS i L) (hi : i + 5 ≤ Ln) (hI : LI8 h) (kk : ∀ h2, LI8 h2 → P (1443, L, [], h2, 198, sl)) : P (716, L, [], h, 198, sl) := op_run H (n := 0) (kx := 101) (km := 214) (pe := 1443) (by decide +kernel) hL (by omega) hI.1 cxw_undo rfl (by decide +kernel) (A := anInt) (fun _ q => q) (fun h1 hI1 => hm_undo hI1 (Nat.le_of_ble_eq_true rfl) (Nat.le_of_ble_eq_true rfl)) (fun h1 h2 v w pr => kk h2 ⟨pr.2.2.2.2, rel8_undo pr hI⟩)
theorem rd_value (H : lc_Cl 198 sl bS Ln xs P) (hL : lc_L bS i L) (hi : i + 5 ≤ Ln) (hI : LI8 h) (kk : ∀ h2, LI8 h2 → P (1443, L, [], h2, 198, sl)) : P (729, L, [], h, 198, sl) := op_run H (n := 2) (kx := 102) (km := 230) (pe := 1443) (by decide +kernel) hL (by omega) hI.1 cxw_value rfl (by decide +kernel) (A := anInt) (fun _ q => q) (fun h1 hI1 => hm_value hI1 _ _ (Nat.le_of_ble_eq_true rfl) (Nat.le_of_ble_eq_true rfl)) (fun h1 h2 v w pr => kk h2 ⟨pr.2.2.2.2, rel8_value pr hI⟩)
theorem rd_where (H : lc_Cl 198 sl bS Ln xs P) (hL : lc_L bS i L) (hi : i + 5 ≤ Ln) (hI : LI8 h) (kk : ∀ h2, LI8 h2 → P (1443, L, [], h2, 198, sl)) : P (766, L, [], h, 198, sl) := op_run H (n := 1) (kx := 103) (km := 231) (pe := 1443) (by decide +kernel) hL (by omega) hI.1 cxw_where rfl (by decide +kernel) (A := anInt) (fun _ q => q) (fun h1 hI1 => hm_where hI1 _ (Nat.le_of_ble_eq_true rfl) (Nat.le_of_ble_eq_true rfl)) (fun h1 h2 v w pr => kk h2 ⟨pr.2.2.2.2, rel8_where pr hI⟩)
theorem rd_answer (H : lc_Cl 198 sl bS Ln xs P) (hL : lc_L bS i L) (hi : i + 5 ≤ Ln) (hI : LI8 h) (kk : ∀ h2, LI8 h2 → P (1443, L, [], h2, 198, sl)) : P (791, L, [], h, 198, sl) := op_run H (n := 2) (kx := 104) (km := 232) (pe := 1443) (by decide +kernel) hL (by omega) hI.1 cxw_answer rfl (by decide +kernel) (A := anInt) (fun _ q => q) (fun h1 hI1 => hm_answer hI1 _ _ (Nat.le_of_ble_eq_true rfl) (Nat.le_of_ble_eq_true rfl)) (fun h1 h2 v w pr => kk h2 ⟨pr.2.2.2.2, rel8_answer pr hI⟩)
theorem rd_wins (H : lc_Cl 198 sl bS Ln xs P) (hL : lc_L bS i L) (hi : i + 5 ≤ Ln) (hI : LI8 h) (kk : ∀ h2, LI8 h2 → P (1443, L, [], h2, 198, sl)) : P (828, L, [], h, 198, sl) := op_run H (n := 2) (kx := 105) (km := 234) (pe := 1443) (by decide +kernel) hL (by omega) hI.1 cxw_wins rfl (by decide +kernel) (A := anInt) (fun _ q => q) (fun h1 hI1 => hm_wins hI1 _ _ (Nat.le_of_ble_eq_true rfl) (Nat.le_of_ble_eq_true rfl)) (fun h1 h2 v w pr => kk h2 ⟨pr.2.2.2.2, rel8_wins pr hI⟩)
theorem rd_unseen (H : lc_Cl 198 sl bS Ln xs P) (hL : lc_L bS i L) (hi : i + 5 ≤ Ln) (hI : LI8 h) (kk : ∀ h2, LI8 h2 → P (1443, L, [], h2, 198, sl)) : P (865, L, [], h, 198, sl) := op_run H (n := 1) (kx := 106) (km := 235) (pe := 1443) (by decide +kernel) hL (by omega) hI.1 cxw_unseen rfl (by decide +kernel) (A := anInt) (fun _ q => q) (fun h1 hI1 => hm_unseen hI1 _ (Nat.le_of_ble_eq_true rfl) (Nat.le_of_ble_eq_true rfl)) (fun h1 h2 v w pr => kk h2 ⟨pr.2.2.2.2, rel8_unseen pr hI⟩)
theorem rd_swaps (H : lc_Cl 198 sl bS Ln xs P) (hL : lc_L bS i L) (hi : i + 5 ≤ Ln) (hI : LI8 h) (kk : ∀ h2, LI8 h2 → P (1443, L, [], h2, 198, sl)) : P (890, L, [], h, 198, sl) := op_run H (n := 0) (kx := 107) (km := 236) (pe := 1443) (by decide +kernel) hL (by omega) hI.1 cxw_swaps rfl (by decide +kernel) (A := anInt) (fun _ q => q) (fun h1 hI1 => hm_swaps hI1 (Nat.le_of_ble_eq_true rfl) (Nat.le_of_ble_eq_true rfl)) (fun h1 h2 v w pr => kk h2 ⟨pr.2.2.2.2, rel8_swaps pr hI⟩)
theorem rd_way (H : lc_Cl 198 sl bS Ln xs P) (hL : lc_L bS i L) (hi : i + 5 ≤ Ln) (hI : LI8 h) (kk : ∀ h2, LI8 h2 → P (1443, L, [], h2, 198, sl)) : P (903, L, [], h, 198, sl) := op_run H (n := 2) (kx := 108) (km := 238) (pe := 1443) (by decide +kernel) hL (by omega) hI.1 cxw_way rfl (by decide +kernel) (A := anInt) (fun _ q => q) (fun h1 hI1 => hm_way hI1 _ _ (Nat.le_of_ble_eq_true rfl) (Nat.le_of_ble_eq_true rfl)) (fun h1 h2 v w pr => kk h2 ⟨pr.2.2.2.2, rel8_way pr hI⟩)
theorem rd_walks (H : lc_Cl 198 sl bS Ln xs P) (hL : lc_L bS i L) (hi : i + 5 ≤ Ln) (hI : LI8 h) (kk : ∀ h2, LI8 h2 → P (1443, L, [], h2, 198, sl)) : P (940, L, [], h, 198, sl) := op_run H (n := 4) (kx := 109) (km := 239) (pe := 1443) (by decide +kernel) hL (by omega) hI.1 cxw_walks rfl (by decide +kernel) (A := anInt) (fun _ q => q) (fun h1 hI1 => hm_walks hI1 _ _ _ _ (Nat.le_of_ble_eq_true rfl) (Nat.le_of_ble_eq_true rfl)) (fun h1 h2 v w pr => kk h2 ⟨pr.2.2.2.2, rel8_walks pr hI⟩)
theorem rd_alive (H : lc_Cl 198 sl bS Ln xs P) (hL : lc_L bS i L) (hi : i + 5 ≤ Ln) (hI : LI8 h) (kk : ∀ h2, LI8 h2 → P (1443, L, [], h2, 198, sl)) : P (1001, L, [], h, 198, sl) := op_run H (n := 3) (kx := 110) (km := 240) (pe := 1443) (by decide +kernel) hL (by omega) hI.1 cxw_alive rfl (by decide +kernel) (A := anInt) (fun _ q => q) (fun h1 hI1 => hm_alive hI1 _ _ _ (Nat.le_of_ble_eq_true rfl) (Nat.le_of_ble_eq_true rfl)) (fun h1 h2 v w pr => kk h2 ⟨pr.2.2.2.2, rel8_alive pr hI⟩)
theorem rd_feeds (H : lc_Cl 198 sl bS Ln xs P) (hL : lc_L bS i L) (hi : i + 5 ≤ Ln) (hI : LI8 h) (kk : ∀ h2, LI8 h2 → P (1443, L, [], h2, 198, sl)) : P (1050, L, [], h, 198, sl) := op_run H (n := 1) (kx := 111) (km := 242) (pe := 1443) (by decide +kernel) hL (by omega) hI.1 cxw_feeds rfl (by decide +kernel) (A := anInt) (fun _ q => q) (fun h1 hI1 => hm_feeds hI1 _ (Nat.le_of_ble_eq_true rfl) (Nat.le_of_ble_eq_true rfl)) (fun h1 h2 v w pr => kk h2 ⟨pr.2.2.2.2, rel8_feeds pr hI⟩)
theorem rd_starves (H : lc_Cl 198 sl bS Ln xs P) (hL : lc_L bS i L) (hi : i + 5 ≤ Ln) (hI : LI8 h) (kk : ∀ h2, LI8 h2 → P (1443, L, [], h2, 198, sl)) : P (1075, L, [], h, 198, sl) := op_run H (n := 2) (kx := 112) (km := 243) (pe := 1443) (by decide +kernel) hL (by omega) hI.1 cxw_starves rfl (by decide +kernel) (A := anInt) (fun _ q => q) (fun h1 hI1 => hm_starves hI1 _ _ (Nat.le_of_ble_eq_true rfl) (Nat.le_of_ble_eq_true rfl)) (fun h1 h2 v w pr => kk h2 ⟨pr.2.2.2.2, rel8_starves pr hI⟩)
theorem rd_net (H : lc_Cl 198 sl bS Ln xs P) (hL : lc_L bS i L) (hi : i + 5 ≤ Ln) (hI : LI8 h) (kk : ∀ h2, LI8 h2 → P (1443, L, [], h2, 198, sl)) : P (1112, L, [], h, 198, sl) := op_run H (n := 1) (kx := 113) (km := 244) (pe := 1443) (by decide +kernel) hL (by omega) hI.1 cxw_net rfl (by decide +kernel) (A := anInt) (fun _ q => q) (fun h1 hI1 => hm_net hI1 _ (Nat.le_of_ble_eq_true rfl) (Nat.le_of_ble_eq_true rfl)) (fun h1 h2 v w pr => kk h2 ⟨pr.2.2.2.2, rel8_net pr hI⟩)
theorem rd_settle (H : lc_Cl 198 sl bS Ln xs P) (hL : lc_L bS i L) (hi : i + 5 ≤ Ln) (hI : LI8 h) (kk : ∀ h2, LI8 h2 → P (1443, L, [], h2, 198, sl)) : P (1137, L, [], h, 198, sl) := op_run H (n := 0) (kx := 114) (km := 245) (pe := 1443) (by decide +kernel) hL (by omega) hI.1 cxw_settle rfl (by decide +kernel) (A := anInt) (fun _ q => q) (fun h1 hI1 => hm_settle hI1 (Nat.le_of_ble_eq_true rfl) (Nat.le_of_ble_eq_true rfl)) (fun h1 h2 v w pr => kk h2 ⟨pr.2.2.2.2, rel8_settle pr hI⟩)
theorem rd_ring (H : lc_Cl 198 sl bS Ln xs P) (hL : lc_L bS i L) (hi : i + 5 ≤ Ln) (hI : LI8 h) (kk : ∀ h2, LI8 h2 → P (1443, L, [], h2, 198, sl)) : P (1150, L, [], h, 198, sl) := op_run H (n := 0) (kx := 115) (km := 247) (pe := 1443) (by decide +kernel) hL (by omega) hI.1 cxw_ring rfl (by decide +kernel) (A := anInt) (fun _ q => q) (fun h1 hI1 => hm_ring hI1 (Nat.le_of_ble_eq_true rfl) (Nat.le_of_ble_eq_true rfl)) (fun h1 h2 v w pr => kk h2 ⟨pr.2.2.2.2, rel8_ring pr hI⟩)
theorem rd_ranks (H : lc_Cl 198 sl bS Ln xs P) (hL : lc_L bS i L) (hi : i + 5 ≤ Ln) (hI : LI8 h) (kk : ∀ h2, LI8 h2 → P (1443, L, [], h2, 198, sl)) : P (1163, L, [], h, 198, sl) := op_run H (n := 0) (kx := 116) (km := 249) (pe := 1443) (by decide +kernel) hL (by omega) hI.1 cxw_ranks rfl (by decide +kernel) (A := anInt) (fun _ q => q) (fun h1 hI1 => hm_ranks hI1 (Nat.le_of_ble_eq_true rfl) (Nat.le_of_ble_eq_true rfl)) (fun h1 h2 v w pr => kk h2 ⟨pr.2.2.2.2, rel8_ranks pr hI⟩)
theorem rd_league (H : lc_Cl 198 sl bS Ln xs P) (hL : lc_L bS i L) (hi : i + 5 ≤ Ln) (hI : LI8 h) (kk : ∀ h2, LI8 h2 → P (1443, L, [], h2, 198, sl)) : P (1176, L, [], h, 198, sl) := op_run H (n := 0) (kx := 117) (km := 250) (pe := 1443) (by decide +kernel) hL (by omega) hI.1 cxw_league rfl (by decide +kernel) (A := anInt) (fun _ q => q) (fun h1 hI1 => hm_league hI1 (Nat.le_of_ble_eq_true rfl) (Nat.le_of_ble_eq_true rfl)) (fun h1 h2 v w pr => kk h2 ⟨pr.2.2.2.2, rel8_league pr hI⟩)
theorem rd_heard (H : lc_Cl 198 sl bS Ln xs P) (hL : lc_L bS i L) (hi : i + 5 ≤ Ln) (hI : LI8 h) (kk : ∀ h2, LI8 h2 → P (1443, L, [], h2, 198, sl)) : P (1189, L, [], h, 198, sl) := op_run H (n := 2) (kx := 118) (km := 251) (pe := 1443) (by decide +kernel) hL (by omega) hI.1 cxw_heard rfl (by decide +kernel) (A := anInt) (fun _ q => q) (fun h1 hI1 => hm_heard hI1 _ _ (Nat.le_of_ble_eq_true rfl) (Nat.le_of_ble_eq_true rfl)) (fun h1 h2 v w pr => kk h2 ⟨pr.2.2.2.2, rel8_heard pr hI⟩)
theorem rd_forget (H : lc_Cl 198 sl bS Ln xs P) (hL : lc_L bS i L) (hi : i + 5 ≤ Ln) (hI : LI8 h) (kk : ∀ h2, LI8 h2 → P (1443, L, [], h2, 198, sl)) : P (1226, L, [], h, 198, sl) := op_run H (n := 0) (kx := 119) (km := 252) (pe := 1443) (by decide +kernel) hL (by omega) hI.1 cxw_forget rfl (by decide +kernel) (A := anInt) (fun _ q => q) (fun h1 hI1 => hm_forget hI1 (Nat.le_of_ble_eq_true rfl) (Nat.le_of_ble_eq_true rfl)) (fun h1 h2 v w pr => kk h2 ⟨pr.2.2.2.2, rel8_forget pr hI⟩)
theorem rd_fits (H : lc_Cl 198 sl bS Ln xs P) (hL : lc_L bS i L) (hi : i + 5 ≤ Ln) (hI : LI8 h) (kk : ∀ h2, LI8 h2 → P (1443, L, [], h2, 198, sl)) : P (1239, L, [], h, 198, sl) := op_run H (n := 0) (kx := 120) (km := 255) (pe := 1443) (by decide +kernel) hL (by omega) hI.1 cxw_fits rfl (by decide +kernel) (A := anInt) (fun _ q => q) (fun h1 hI1 => hm_fits hI1 (Nat.le_of_ble_eq_true rfl) (Nat.le_of_ble_eq_true rfl)) (fun h1 h2 v w pr => kk h2 ⟨pr.2.2.2.2, rel8_fits pr hI⟩)
theorem rd_ask (H : lc_Cl 198 sl bS Ln xs P) (hL : lc_L bS i L) (hi : i + 5 ≤ Ln) (hI : LI8 h) (kk : ∀ h2, LI8 h2 → P (1443, L, [], h2, 198, sl)) : P (1252, L, [], h, 198, sl) := op_run H (n := 0) (kx := 121) (km := 256) (pe := 1443) (by decide +kernel) hL (by omega) hI.1 cxw_ask rfl (by decide +kernel) (A := anInt) (fun _ q => q) (fun h1 hI1 => hm_ask hI1 (Nat.le_of_ble_eq_true rfl) (Nat.le_of_ble_eq_true rfl)) (fun h1 h2 v w pr => kk h2 ⟨pr.2.2.2.2, rel8_ask pr hI⟩)
theorem rd_law (H : lc_Cl 198 sl bS Ln xs P) (hL : lc_L bS i L) (hi : i + 5 ≤ Ln) (hI : LI8 h) (kk : ∀ h2, LI8 h2 → P (1443, L, [], h2, 198, sl)) : P (1265, L, [], h, 198, sl) := op_run H (n := 0) (kx := 122) (km := 258) (pe := 1443) (by decide +kernel) hL (by omega) hI.1 cxw_law rfl (by decide +kernel) (A := anInt) (fun _ q => q) (fun h1 hI1 => hm_law hI1 (Nat.le_of_ble_eq_true rfl) (Nat.le_of_ble_eq_true rfl)) (fun h1 h2 v w pr => kk h2 ⟨pr.2.2.2.2, rel8_law pr hI⟩)
theorem rd_rests (H : lc_Cl 198 sl bS Ln xs P) (hL : lc_L bS i L) (hi : i + 5 ≤ Ln) (hI : LI8 h) (kk : ∀ h2, LI8 h2 → P (1443, L, [], h2, 198, sl)) : P (1278, L, [], h, 198, sl) := op_run H (n := 1) (kx := 123) (km := 261) (pe := 1443) (by decide +kernel) hL (by omega) hI.1 cxw_rests rfl (by decide +kernel) (A := anInt) (fun _ q => q) (fun h1 hI1 => hm_rests hI1 _ (Nat.le_of_ble_eq_true rfl) (Nat.le_of_ble_eq_true rfl)) (fun h1 h2 v w pr => kk h2 ⟨pr.2.2.2.2, rel8_rests pr hI⟩)
theorem rd_years (H : lc_Cl 198 sl bS Ln xs P) (hL : lc_L bS i L) (hi : i + 5 ≤ Ln) (hI : LI8 h) (kk : ∀ h2, LI8 h2 → P (1443, L, [], h2, 198, sl)) : P (1303, L, [], h, 198, sl) := op_run H (n := 2) (kx := 124) (km := 263) (pe := 1443) (by decide +kernel) hL (by omega) hI.1 cxw_years rfl (by decide +kernel) (A := anInt) (fun _ q => q) (fun h1 hI1 => hm_years hI1 _ _ (Nat.le_of_ble_eq_true rfl) (Nat.le_of_ble_eq_true rfl)) (fun h1 h2 v w pr => kk h2 ⟨pr.2.2.2.2, rel8_years pr hI⟩)
theorem rd_keep (H : lc_Cl 198 sl bS Ln xs P) (hL : lc_L bS i L) (hi : i + 5 ≤ Ln) (hI : LI8 h) (kk : ∀ h2, LI8 h2 → P (1443, L, [], h2, 198, sl)) : P (1340, L, [], h, 198, sl) := op_run H (n := 1) (kx := 125) (km := 264) (pe := 1443) (by decide +kernel) hL (by omega) hI.1 cxw_keep rfl (by decide +kernel) (A := aBool) (fun _ q => q.elim (fun e => ⟨_, e⟩) (fun e => ⟨_, e⟩)) (fun h1 hI1 => wp_mono (hm_keep hI1 _ (Nat.le_of_ble_eq_true rfl) (Nat.le_of_ble_eq_true rfl)) (fun _ q => q.1)) (fun h1 h2 v w pr => kk h2 ⟨pr.2.2.2.2, rel8_keep pr hI⟩)
theorem rd_again (H : lc_Cl 198 sl bS Ln xs P) (hL : lc_L bS i L) (hi : i + 5 ≤ Ln) (hI : LI8 h) (kk : ∀ h2, LI8 h2 → P (1443, L, [], h2, 198, sl)) : P (1365, L, [], h, 198, sl) := op_run H (n := 1) (kx := 126) (km := 265) (pe := 1443) (by decide +kernel) hL (by omega) hI.1 cxw_again rfl (by decide +kernel) (A := aBool) (fun _ q => q.elim (fun e => ⟨_, e⟩) (fun e => ⟨_, e⟩)) (fun h1 hI1 => hm_again hI1 _ (Nat.le_of_ble_eq_true rfl) (Nat.le_of_ble_eq_true rfl)) (fun h1 h2 v w pr => kk h2 ⟨pr.2.2.2.2, (rel8_again pr hI).2⟩)
theorem rd_count (H : lc_Cl 198 sl bS Ln xs P) (hL : lc_L bS i L) (hi : i + 5 ≤ Ln) (hI : LI8 h) (kk : ∀ h2, LI8 h2 → P (1443, L, [], h2, 198, sl)) : P (1390, L, [], h, 198, sl) := op_run H (n := 1) (kx := 127) (km := 267) (pe := 1443) (by decide +kernel) hL (by omega) hI.1 cxw_count rfl (by decide +kernel) (A := anInt) (fun _ q => q) (fun h1 hI1 => hm_count hI1 _ (Nat.le_of_ble_eq_true rfl) (Nat.le_of_ble_eq_true rfl)) (fun h1 h2 v w pr => kk h2 ⟨pr.2.2.2.2, rel8_count pr hI⟩)
end RDT
end MG95zzzkx5
