/-! gifts of both sides, told exactly behind what they read -/
section GFT
variable {n fr lo sl n0 c r p gc cq cc N : Nat} {q : QT} {h g0 : pm_H} {R : pm_Rs} {tp Rd : Nat → Int32}
/-- behind the LINES -/
theorem gsec {b : Bool} {x3 : Int32} (hn : n0 ≤ 80) (hr : b = true → c + r ≤ 8) (hp : p < 80) (x : pW g0 h tp (min n0 55) cc c p r Rd) (hh : pm_run PT n fr lo 192 (60, [some (.ref 162), some (.int (nI n0)), some (.int (cond b 1 0)), some (.int x3), none, none], [], h, 198, sl) = some R) : (∃ F : Int32, pm_cmp .ge F 0 = false ∧ R = (some (.int F), h, 198, sl)) ∨ (b = true ∧ ∃ F x1 x2 : Int32, R = (some (.int (nI r)), (w192 q cq gc h r c F x1 x2 x3).2, 198, sl) ∧ WT (w192 q cq gc h r c F x1 x2 x3).2 ∧ frm [162, 166, 167, 168, 170] [(162, 4), (162, 5), (162, 27)] h (w192 q cq gc h r c F x1 x2 x3).2) := by
  obtain ⟨n, hh⟩ := rn_i rfl rfl rfl rfl hh
  obtain ⟨n, hh⟩ := rn_i rfl rfl rfl rfl hh
  obtain ⟨n, hh⟩ := rn_i rfl rfl rfl rfl hh
  obtain ⟨n, hh⟩ := rn_i rfl rfl rfl rfl hh
  obtain ⟨n, fr', lo', r1, hr1, hh⟩ := rn_call (w := 0) (t := 186) rfl rfl hh
  have er := fo_run (m := 55) hn (by decide) (by omega) (by omega) x.1.1.1.1 x.1.1.1.2.1 hr1
  subst er
  have hge := fO_ge (n0 := n0) (m := 55) (t := min n0 55) (at_ := p) (is := b) (by decide) (by omega)
  generalize fO n0 55 (min n0 55) p b = F at *
  have hh : pm_run PT n fr lo 192 (68, [some (.ref 162), some (.int (nI n0)), some (.int (cond b 1 0)), some (.int x3), none, none], [.int F], h, 198, sl) = some R := hh
  obtain ⟨n, hh⟩ := rn_i rfl rfl rfl rfl hh
  obtain ⟨n, hh⟩ := rn_i rfl rfl rfl rfl hh
  obtain ⟨n, hh⟩ := rn_if (cc := .ge) (off := 6) (t := 78) rfl rfl hh
  cases z : pm_cmp .ge F 0 with
  | false =>
    rw [z] at hh
    obtain ⟨n, hh⟩ := rn_i rfl rfl rfl rfl hh
    exact Or.inl ⟨F, z, (rn_ret rfl (Or.inl rfl) hh).2⟩
  | true =>
    rw [z] at hh
    have hh : pm_run PT n fr lo 192 (78, [some (.ref 162), some (.int (nI n0)), some (.int (cond b 1 0)), some (.int x3), some (.int F), none], [], h, 198, sl) = some R := hh
    obtain ⟨a1, a2, a3⟩ := w192_ok (q := q) (cc := cq) (gc := gc) x.2.2.1 (hr (hge z)) (Fi_m x.1.1.2.1) (Fi_m x.1.2) hh
    exact Or.inr ⟨hge z, F, _, _, a1, a2, a3⟩
/-- what courts of the reference does: h1 is the heap behind what it reads -/
theorem grun (hn : n0 ≤ 80) (hc : c ≤ 8) (hw : WT h) (h15 : Fi h 162 15 = nI n0) (h3 : Fi h 162 3 = nI cc) (h4 : Fi h 162 4 = nI c) (hh : pm_run PT n fr lo 192 (0, pm_l0 [.ref 162] 6, [], h, 198, sl) = some R) : ∃ (h1 : pm_H) (r : Nat), WT h1 ∧ (∀ i, i ≠ 162 → i ≠ 173 → h1 i = h i) ∧ (∀ g, g ≠ 0 → g ≠ 15 → g ≠ 16 → g ≠ 17 → g ≠ 18 → g ≠ 20 → Fi h1 162 g = Fi h 162 g) ∧ ((∃ F : Int32, pm_cmp .ge F 0 = false ∧ R = (some (.int F), h1, 198, sl)) ∨ (c + r ≤ 8 ∧ (∀ k, k < r → gvM (Ar h 172) (min n0 55) cc k (Ar h1 173)) ∧ ∃ F x1 x2 x3 : Int32, R = (some (.int (nI r)), (w192 q cq gc h1 r c F x1 x2 x3).2, 198, sl) ∧ WT (w192 q cq gc h1 r c F x1 x2 x3).2 ∧ frm [162, 166, 167, 168, 170] [(162, 4), (162, 5), (162, 27)] h1 (w192 q cq gc h1 r c F x1 x2 x3).2)) := by
  obtain ⟨n, hh⟩ := rn_i rfl rfl rfl rfl hh
  obtain ⟨n, hh⟩ := rn_i rfl rfl rfl rfl hh
  have m0 : mF h 0 (.int (Fi h 162 0)) := wt_i hw (by decide) rfl (by decide) rfl
  obtain ⟨n, hh⟩ := rn_pfm rfl rfl rfl (by decide) m0 hh
  rw [mset_w (g := 0) hw rfl rfl] at hh
  have w0 : WT (fset h 162 0 (.int (Int32.ofInt 0))) := wt_fs rfl (by decide) rfl hw
  have f0 : ∀ g, g ≠ 0 → Fi (fset h 162 0 (.int (Int32.ofInt 0))) 162 g = Fi h 162 g := fun g hg => Fi_n (Or.inr hg)
  have c0 : ∀ i, i ≠ 162 → fset h 162 0 (.int (Int32.ofInt 0)) i = h i := fun i hi => fs_ne hi
  obtain ⟨n, hh⟩ := rn_i rfl rfl rfl rfl hh
  obtain ⟨n, hh⟩ := rn_i rfl rfl rfl rfl hh
  have hh : pm_run PT n fr lo 192 (8, [some (.ref 162), none, none, none, none, none], [.int (nI 55), .ref 162], fset h 162 0 (.int (Int32.ofInt 0)), 198, sl) = some R := hh
  generalize fset h 162 0 (.int (Int32.ofInt 0)) = ha at *
  have hh : pm_run PT n fr lo 192 (8, [some (.ref 162), none, none, none, none, none], [.int (nI 55), .ref 162], ha, 198, sl) = some R := hh
  obtain ⟨n, fr', lo', r1, hr1, hh⟩ := rn_call (w := 0) (t := 180) rfl rfl hh
  have M : ∀ {g : Nat} {as : List av}, wd (bB 162) = .inr (11, as) → as[g]? = some ai_top → mF ha g (.int (Fi ha 162 g)) := fun hb hg => wt_i w0 (by decide) hb (by decide) hg
  have g15 : mF ha 15 (.int (nI n0)) := by
    have z := M (g := 15) rfl rfl
    rw [f0 15 (by decide), h15] at z
    exact z
  have er := rn_dt (F := 10) (Lo := 1000) (hd_begins (fr := 10) (lo := 1000) (sl := sl) (m := 55) g15 (M (g := 16) rfl rfl) (M (g := 17) rfl rfl) (M (g := 18) rfl rfl) hn (by decide) (by decide) (by decide)) hr1
  subst er
  have hh : pm_run PT n fr lo 192 (11, [some (.ref 162), none, none, none, none, none], [.int (nI n0)], hbeg ha n0 55, 198, sl) = some R := hh
  have eb : hbeg ha n0 55 = fset (fset (fset (fset ha 162 15 (.int 0)) 162 16 (.int 0)) 162 18 (.int 0)) 162 17 (.int (nI (min n0 55))) := by
    have a1 : WT (fset ha 162 15 (.int 0)) := wt_fs rfl (by decide) rfl w0
    have a2 : WT (fset (fset ha 162 15 (.int 0)) 162 16 (.int 0)) := wt_fs rfl (by decide) rfl a1
    have a3 : WT (fset (fset (fset ha 162 15 (.int 0)) 162 16 (.int 0)) 162 18 (.int 0)) := wt_fs rfl (by decide) rfl a2
    unfold hbeg
    rw [mset_w (g := 15) w0 rfl rfl, mset_w (g := 16) a1 rfl rfl, mset_w (g := 18) a2 rfl rfl, mset_w (g := 17) a3 rfl rfl]
  rw [eb] at hh
  have b1 : WT (fset (fset (fset (fset ha 162 15 (.int 0)) 162 16 (.int 0)) 162 18 (.int 0)) 162 17 (.int (nI (min n0 55)))) := wt_fs rfl (by decide) rfl (wt_fs rfl (by decide) rfl (wt_fs rfl (by decide) rfl (wt_fs rfl (by decide) rfl w0)))
  have b2 : ∀ i, i ≠ 162 → (fset (fset (fset (fset ha 162 15 (.int 0)) 162 16 (.int 0)) 162 18 (.int 0)) 162 17 (.int (nI (min n0 55)))) i = ha i := fun i hi => (fs_ne hi).trans ((fs_ne hi).trans ((fs_ne hi).trans (fs_ne hi)))
  have b3 : ∀ g, g ≠ 15 → g ≠ 16 → g ≠ 17 → g ≠ 18 → Fi (fset (fset (fset (fset ha 162 15 (.int 0)) 162 16 (.int 0)) 162 18 (.int 0)) 162 17 (.int (nI (min n0 55)))) 162 g = Fi ha 162 g := fun g h1 h2 h3 h4 => (Fi_n (Or.inr h3)).trans ((Fi_n (Or.inr h4)).trans ((Fi_n (Or.inr h2)).trans (Fi_n (Or.inr h1))))
  have b16 : Fi (fset (fset (fset (fset ha 162 15 (.int 0)) 162 16 (.int 0)) 162 18 (.int 0)) 162 17 (.int (nI (min n0 55)))) 162 16 = nI 0 := (Fi_n (Or.inr (by decide))).trans ((Fi_n (Or.inr (by decide))).trans (Fi_s (wt_fs rfl (by decide) rfl w0) (by decide) rfl (by decide) rfl))
  have b17 : Fi (fset (fset (fset (fset ha 162 15 (.int 0)) 162 16 (.int 0)) 162 18 (.int 0)) 162 17 (.int (nI (min n0 55)))) 162 17 = nI (min n0 55) := Fi_s (wt_fs rfl (by decide) rfl (wt_fs rfl (by decide) rfl (wt_fs rfl (by decide) rfl w0))) (by decide) rfl (by decide) rfl
  generalize fset (fset (fset (fset ha 162 15 (.int 0)) 162 16 (.int 0)) 162 18 (.int 0)) 162 17 (.int (nI (min n0 55))) = hb at *
  have hh : pm_run PT n fr lo 192 (11, [some (.ref 162), none, none, none, none, none], [.int (nI n0)], hb, 198, sl) = some R := hh
  obtain ⟨n, hh⟩ := rn_i rfl rfl rfl rfl hh
  obtain ⟨n, hh⟩ := rn_i rfl rfl rfl rfl hh
  obtain ⟨n, hh⟩ := rn_i rfl rfl rfl rfl hh
  have m20 : mF hb 20 (.int (Fi hb 162 20)) := wt_i b1 (by decide) rfl (by decide) rfl
  obtain ⟨n, hh⟩ := rn_pfm rfl rfl rfl (by decide) m20 hh
  rw [mset_w (g := 20) b1 rfl rfl] at hh
  have d1 : WT (fset hb 162 20 (.int (nI 0))) := wt_fs rfl (by decide) rfl b1
  have d2 : ∀ i, i ≠ 162 → fset hb 162 20 (.int (nI 0)) i = h i := fun i hi => (fs_ne hi).trans ((b2 i hi).trans (c0 i hi))
  have d3 : ∀ g, g ≠ 0 → g ≠ 15 → g ≠ 16 → g ≠ 17 → g ≠ 18 → g ≠ 20 → Fi (fset hb 162 20 (.int (nI 0))) 162 g = Fi h 162 g := fun g h1 h2 h3 h4 h5 h6 => (Fi_n (Or.inr h6)).trans ((b3 g h2 h3 h4 h5).trans (f0 g h1))
  have d16 : Fi (fset hb 162 20 (.int (nI 0))) 162 16 = nI 0 := (Fi_n (Or.inr (by decide))).trans b16
  have d17 : Fi (fset hb 162 20 (.int (nI 0))) 162 17 = nI (min n0 55) := (Fi_n (Or.inr (by decide))).trans b17
  have d20 : Fi (fset hb 162 20 (.int (nI 0))) 162 20 = nI 0 := Fi_s b1 (by decide) rfl (by decide) rfl
  have hh : pm_run PT n fr lo 192 (17, [some (.ref 162), some (.int (nI n0)), none, none, none, none], [], fset hb 162 20 (.int (nI 0)), 198, sl) = some R := hh
  generalize fset hb 162 20 (.int (nI 0)) = hd at *
  have hh : pm_run PT n fr lo 192 (17, [some (.ref 162), some (.int (nI n0)), none, none, none, none], [], hd, 198, sl) = some R := hh
  have pp : pW hd hd (Ar hd 172) (min n0 55) cc c (7 * 0) 0 (Ar hd 173) := by
    have D : ∀ {g : Nat} {as : List av}, wd (bB 162) = .inr (11, as) → as[g]? = some ai_top → mF hd g (.int (Fi hd 162 g)) := fun hb hg => wt_i d1 (by decide) hb (by decide) hg
    have D16 := D (g := 16) rfl rfl
    have D17 := D (g := 17) rfl rfl
    have D20 := D (g := 20) rfl rfl
    have D3 := D (g := 3) rfl rfl
    rw [d16] at D16
    rw [d17] at D17
    rw [d20] at D20
    rw [d3 3 (by decide) (by decide) (by decide) (by decide) (by decide) (by decide), h3] at D3
    have D4 := D (g := 4) rfl rfl
    rw [d3 4 (by decide) (by decide) (by decide) (by decide) (by decide) (by decide), h4] at D4
    exact ⟨⟨⟨⟨D16, D17, wt_r d1 (by decide) rfl (by decide) rfl rfl, wt_a d1 (by decide) rfl (by decide)⟩, D20, D3, wt_r d1 (by decide) rfl (by decide) rfl rfl, _, wt_a d1 (by decide) rfl (by decide)⟩, D4⟩, wt_a d1 (by decide) rfl (by decide), d1, fun _ _ _ => rfl, fun _ _ _ => rfl⟩
  have et : Ar hd 172 = Ar h 172 := Ar_e (d2 172 (by decide))
  have fin : ∀ (m : Nat) (h' : pm_H) (b : Bool) (p' r' : Nat) (Rd' : Nat → Int32) (x3 : Int32), pm_run PT m fr lo 192 (60, [some (.ref 162), some (.int (nI n0)), some (.int (cond b 1 0)), some (.int x3), none, none], [], h', 198, sl) = some R → pW hd h' (Ar hd 172) (min n0 55) cc c p' r' Rd' → (b = true → c + r' ≤ 8) → p' < 80 → (b = true → ∀ k, k < r' → gvM (Ar hd 172) (min n0 55) cc k Rd') → ∃ (h1 : pm_H) (r : Nat), WT h1 ∧ (∀ i, i ≠ 162 → i ≠ 173 → h1 i = h i) ∧ (∀ g, g ≠ 0 → g ≠ 15 → g ≠ 16 → g ≠ 17 → g ≠ 18 → g ≠ 20 → Fi h1 162 g = Fi h 162 g) ∧ ((∃ F : Int32, pm_cmp .ge F 0 = false ∧ R = (some (.int F), h1, 198, sl)) ∨ (c + r ≤ 8 ∧ (∀ k, k < r → gvM (Ar h 172) (min n0 55) cc k (Ar h1 173)) ∧ ∃ F x1 x2 x3 : Int32, R = (some (.int (nI r)), (w192 q cq gc h1 r c F x1 x2 x3).2, 198, sl) ∧ WT (w192 q cq gc h1 r c F x1 x2 x3).2 ∧ frm [162, 166, 167, 168, 170] [(162, 4), (162, 5), (162, 27)] h1 (w192 q cq gc h1 r c F x1 x2 x3).2)) := by
    intro m h' b p' r' Rd' x3 hh x hr hp hv
    have eR : Ar h' 173 = Rd' := by
      unfold Ar
      rw [x.2.1]
    refine ⟨h', r', x.2.2.1, fun i h1 h2 => (x.2.2.2.1 i h1 h2).trans (d2 i h1), fun g h1 h2 h3 h4 h5 h6 => (x.2.2.2.2 g h3 h6).trans (d3 g h1 h2 h3 h4 h5 h6), ?_⟩
    rcases gsec (q := q) (cq := cq) (gc := gc) hn hr hp x hh with ⟨F, z1, z2⟩ | ⟨z1, F, x1, x2, z2, z3, z4⟩
    · exact Or.inl ⟨F, z1, z2⟩
    · refine Or.inr ⟨hr z1, fun k hk => ?_, F, x1, x2, x3, z2, z3, z4⟩
      rw [eR, ← et]
      exact hv z1 k hk
  obtain ⟨n, hh⟩ := rn_i rfl rfl rfl rfl hh
  obtain ⟨n, hh⟩ := rn_i rfl rfl rfl rfl hh
  obtain ⟨n, hh⟩ := rn_i rfl rfl rfl rfl hh
  have hh : pm_run PT n fr lo 192 (20, [some (.ref 162), some (.int (nI n0)), some (.int 1), none, none, none], [.int (nI n0)], hd, 198, sl) = some R := hh
  obtain ⟨n, hh⟩ := rn_if (cc := .le) (off := 7) (t := 27) rfl rfl hh
  by_cases z : n0 = 0
  · have ec : pm_cmp .le (nI n0) 0 = true := by
      rw [z]
      decide
    rw [ec] at hh
    have hh : pm_run PT n fr lo 192 (27, [some (.ref 162), some (.int (nI n0)), some (.int 1), none, none, none], [], hd, 198, sl) = some R := hh
    obtain ⟨n, hh⟩ := rn_i rfl rfl rfl rfl hh
    obtain ⟨n, hh⟩ := rn_i rfl rfl rfl rfl hh
    have hh : pm_run PT n fr lo 192 (29, [some (.ref 162), some (.int (nI n0)), some (.int 1), some (.int 0), none, none], [], hd, 198, sl) = some R := hh
    obtain ⟨n, hh⟩ := rn_i rfl rfl rfl rfl hh
    obtain ⟨n, hh⟩ := rn_if (cc := .eq) (off := 30) (t := 60) rfl rfl hh
    exact fin n hd true _ _ _ 0 hh pp (fun _ => by omega) (by omega) (fun _ k hk => absurd hk (Nat.not_lt_zero k))
  · have ec : pm_cmp .le (nI n0) 0 = false := by
      have := hI_le (a := n0) (b := 0) (by omega) (by omega)
      rw [decide_eq_false (by omega)] at this
      exact this
    rw [ec] at hh
    have hh : pm_run PT n fr lo 192 (23, [some (.ref 162), some (.int (nI n0)), some (.int 1), none, none, none], [], hd, 198, sl) = some R := hh
    obtain ⟨n, hh⟩ := rn_i rfl rfl rfl rfl hh
    obtain ⟨n, hh⟩ := rn_i rfl rfl rfl rfl hh
    obtain ⟨n, hh⟩ := rn_i rfl rfl rfl rfl hh
    obtain ⟨m, h', r', Rd', hm, x, hv⟩ := gmv_loop (gc := c) (t := min n0 55) (by omega) (9 - c) 0 0 n hd (Ar hd 173) (by omega) (by omega) (Nat.zero_le _) rfl pp (fun k hk => absurd hk (Nat.not_lt_zero k)) hh
    obtain ⟨b1, b2⟩ := sgL_bd (tp := Ar hd 172) (cc := cc) (gc := c) (t := min n0 55) (9 - c) 0 0 (Nat.zero_le _)
    exact fin m h' _ _ r' Rd' 0 hm x (fun z1 => by rw [(hv z1).1]; exact b2 (by omega)) (by omega) (fun z1 k hk => (hv z1).2 k hk)
theorem gx89 (hn : n0 ≤ 80) (hcc : cc ≤ 6) (hc : c ≤ 8) (hw : WT h) (h11 : Fi h 1 1 = nI n0) (h50 : Fi h 5 0 = nI cc) (h51 : Fi h 5 1 = nI c) (hh : pm_run PT n fr lo 89 (0, pm_l0 [.ref 0] 2, [], h, 198, sl) = some R) : ∃ h1 : pm_H, gvX h h1 n0 cc c (Ar h 2) 0 ∧ ((∃ v : Int32, pm_cmp .le v 0 = true ∧ R = (some (.int v), fset h1 1 1 (.int (nI 0)), 198, sl)) ∨ ∃ N, 1 ≤ N ∧ c + N ≤ 8 ∧ gvX h h1 n0 cc c (Ar h 2) N ∧ R = (some (.int (nI N)), (w89 q cq gc h1 N c).2, 198, sl) ∧ WT (w89 q cq gc h1 N c).2 ∧ frm [0, 1, 5, 25] [(0, 7), (1, 1), (5, 1), (25, 2)] h1 (w89 q cq gc h1 N c).2) := by
  have i5 : ∃ rs, h 5 = .inr (3, rs) ∧ rs[0]? = some (.int (nI cc)) := by
    obtain ⟨rs, a, b⟩ := wt_i (c := 5) (g := 0) hw (by decide) rfl (by decide) rfl
    rw [h50] at b
    exact ⟨rs, a, b⟩
  have px : pX h n0 cc (Ar h 2) := by
    obtain ⟨fs, a1, a2⟩ := wt_r (c := 0) (g := 0) (p := 1) hw (by decide) rfl (by decide) rfl rfl
    obtain ⟨fs', a3, a4⟩ := wt_r (c := 0) (g := 2) (p := 5) hw (by decide) rfl (by decide) rfl rfl
    obtain ⟨gs, b1, b2⟩ := wt_r (c := 1) (g := 0) (p := 2) hw (by decide) rfl (by decide) rfl rfl
    obtain ⟨gs', b3, b4⟩ := wt_i (c := 1) (g := 1) hw (by decide) rfl (by decide) rfl
    rw [h11] at b4
    rw [a1] at a3
    cases a3
    rw [b1] at b3
    cases b3
    exact ⟨⟨fs, a1, a2, a4⟩, ⟨gs, b1, b2, b4⟩, wt_a hw (by decide) rfl (by decide), i5⟩
  have xg : rG h (.int (nI c)) := by
    obtain ⟨rs, a, b⟩ := wt_i (c := 5) (g := 1) hw (by decide) rfl (by decide) rfl
    rw [h51] at b
    exact ⟨rs, a, b⟩
  have X : gvX h h n0 cc c (Ar h 2) 0 := ⟨⟨px, xg, hw⟩, fun _ _ _ _ _ _ => rfl, fun _ _ => ⟨rfl, rfl, rfl, rfl, rfl⟩, fun r hr => absurd hr (Nat.not_lt_zero r)⟩
  obtain ⟨n, hh⟩ := rn_i rfl rfl rfl rfl hh
  obtain ⟨n, fr', lo', r1, hr1, hh⟩ := rn_call (w := 0) (t := 130) rfl rfl hh
  have hv := xgs_run hn hcc hc px xg hr1
  obtain ⟨hz, x0, xN⟩ := gxs_run hn hcc hc X hr1
  obtain ⟨rv, h1, s1⟩ := r1
  dsimp only at hz hv x0 xN
  subst hz
  subst hv
  obtain ⟨-, hN⟩ := gm_both (cc := cc) (f := Ar h 2) (tp := Ar h 2) hn hc (fun _ _ => rfl)
  generalize xgR n0 cc c (Ar h 2) = v at *
  have w1 := x0.1.2.2
  have f5 : h1 5 = h 5 := x0.2.1 5 (by decide) (by decide) (by decide) (by decide) (by decide)
  have hh : pm_run PT n fr lo 89 (4, [some (.ref 0), none], [.int v], h1, 198, sl) = some R := hh
  obtain ⟨n, hh⟩ := rn_i rfl rfl rfl rfl hh
  have hh : pm_run PT n fr lo 89 (5, [some (.ref 0), some (.int v)], [], h1, 198, sl) = some R := hh
  refine ⟨h1, x0, ?_⟩
  have no : pm_cmp .le v 0 = true → ∃ v : Int32, pm_cmp .le v 0 = true ∧ R = (some (.int v), fset h1 1 1 (.int (nI 0)), 198, sl) := fun hle => ⟨v, hle, (w89n_ok (q := q) (cc := cq) (gc := gc) w1 hle hh).1⟩
  rcases hN with ⟨e1, e2⟩ | ⟨e1, -⟩
  · generalize gmN (Ar h 2) n0 cc c = N at *
    by_cases z : N = 0
    · exact Or.inl (no (by rw [e1, z]; decide))
    · subst e1
      obtain ⟨a1, a2, a3⟩ := w89_ok (q := q) (cc := cq) (gc := gc) w1 (by omega) e2 ((Fi_e f5).trans h51) hh
      have en : (w89 q cq gc h1 N c).1 = nI N := by
        unfold w89
        cases decide (N ≤ 0) <;> rfl
      rw [en] at a1
      exact Or.inr ⟨N, by omega, e2, xN N (by omega) (by omega) rfl, a1, a2, a3⟩
  · exact Or.inl (no e1)
end GFT
