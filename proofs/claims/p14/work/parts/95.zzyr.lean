section MG95zzyrx0
/-! gifts of both sides, told exactly behind what they read -/
section GFT
variable {n fr lo sl n0 c r p gc cq cc N : Nat} {q : QT} {h g0 : pm_H} {R : pm_Rs} {tp Rd : Nat → Int32}
/-- behind the LINES -/
theorem gsec {b : Bool} {x3 : Int32} (hn : n0 ≤ 80) (hr : b = true → c + r ≤ 8) (hp : p < 80) (x : pW g0 h tp (min n0 55) cc c p r Rd) (hh : pm_run PT n fr lo 192 (60, [some (.ref 162), some (.int (nI n0)), some (.int (cond b 1 0)), some (.int x3), none, none], [], h, 198, sl) = some R) : (∃ F : Int32, pm_cmp .ge F 0 = false ∧ R = (some (.int F), h, 198, sl)) ∨ (b = true ∧ ∃ F x1 x2 : Int32, R = (some (.int (nI r)), (w192 q cq gc h r c F x1 x2 x3).2, 198, sl) ∧ WT (w192 q cq gc h r c F x1 x2 x3).2 ∧ frm [162, 166, 167, 168, 170] [(162, 4), (162, 5), (162, 27)] h (w192 q cq gc h r c F x1 x2 x3).2) := by
  obtain ⟨n, hh⟩ := rn_i rfl rfl rfl rfl hh
  obtain ⟨n, hh⟩ := rn_i rfl rfl rfl rfl hh
  obtain ⟨n, hh⟩ := rn_i rfl rfl rfl rfl hh
  obtain ⟨n, hh⟩ := rn_i rfl rfl rfl rfl hh
  obtain ⟨n, fr', lo', r1, hr1, hh⟩ := rn_call (w := 0) (t := 186) rfl rfl hh
  have er := fo_run (m := 55) hn (by decide) (by omega) (by omega) x.1.1.1.1 x.1.1.1.2.1 hr1
  subst er
  have hge := fO_ge (n0 := n0) (m := 55) (t := min n0 55) (at_ := p) (is := b) (by decide) (by omega)
  generalize fO n0 55 (min n0 55) p b = F at *
  have hh : pm_run PT n fr lo 192 (68, [some (.ref 162), some (.int (nI n0)), some (.int (cond b 1 0)), some (.int x3), none, none], [.int F], h, 198, sl) = some R := hh
  obtain ⟨n, hh⟩ := rn_i rfl rfl rfl rfl hh
  obtain ⟨n, hh⟩ := rn_i rfl rfl rfl rfl hh
  obtain ⟨n, hh⟩ := rn_if (cc := .ge) (off := 6) (t := 78) rfl rfl hh
  cases z : pm_cmp .ge F 0 with
  | false =>
    rw [z] at hh
    obtain ⟨n, hh⟩ := rn_i rfl rfl rfl rfl hh
    exact Or.inl ⟨F, z, (rn_ret rfl (Or.inl rfl) hh).2⟩
  | true =>
    rw [z] at hh
    have hh : pm_run PT n fr lo 192 (78, [some (.ref 162), some (.int (nI n0)), some (.int (cond b 1 0)), some (.int x3), some (.int F), none], [], h, 198, sl) = some R := hh
    obtain ⟨a1, a2, a3⟩ := w192_ok (q := q) (cc := cq) (gc := gc) x.2.2.1 (hr (hge z)) (Fi_m x.1.1.2.1) (Fi_m x.1.2) hh
    exact Or.inr ⟨hge z, F, _, _, a1, a2, a3⟩
/-- what courts of the reference does: h1 is the heap behind what it reads -/
theorem grun (hn : n0 ≤ 80) (hc : c ≤ 8) (hw : WT h) (h15 : Fi h 162 15 = nI n0) (h3 : Fi h 162 3 = nI cc) (h4 : Fi h 162 4 = nI c) (hh : pm_run PT n fr lo 192 (0, pm_l0 [.ref 162] 6, [], h, 198, sl) = some R) : ∃ (h1 : pm_H) (r : Nat), WT h1 ∧ (∀ i, i ≠ 162 → i ≠ 173 → h1 i = h i) ∧ (∀ g, g ≠ 0 → g ≠ 15 → g ≠ 16 → g ≠ 17 → g ≠ 18 → g ≠ 20 → Fi h1 162 g = Fi h 162 g) ∧ ((∃ F : Int32, pm_cmp .ge F 0 = false ∧ R = (some (.int F), h1, 198, sl)) ∨ (c + r ≤ 8 ∧ (∀ k, k < r → gvM (Ar h 172) (min n0 55) cc k (Ar h1 173)) ∧ ∃ F x1 x2 x3 : Int32, R = (some (.int (nI r)), (w192 q cq gc h1 r c F x1 x2 x3).2, 198, sl) ∧ WT (w192 q cq gc h1 r c F x1 x2 x3).2 ∧ frm [162, 166, 167, 168, 170] [(162, 4), (162, 5), (162, 27)] h1 (w192 q cq gc h1 r c F x1 x2 x3).2)) := by
  obtain ⟨n, hh⟩ := rn_i rfl rfl rfl rfl hh
  obtain ⟨n, hh⟩ := rn_i rfl rfl rfl rfl hh
  have m0 : mF h 0 (.int (Fi h 162 0)) := wt_i hw (by decide) rfl (by decide) rfl
  obtain ⟨n, hh⟩ := rn_pfm rfl rfl rfl (by decide) m0 hh
  rw [mset_w (g := 0) hw rfl rfl] at hh
  have w0 : WT (fset h 162 0 (.int (Int32.ofInt 0))) := wt_fs rfl (by decide) rfl hw
  have f0 : ∀ g, g ≠ 0 → Fi (fset h 162 0 (.int (Int32.ofInt 0))) 162 g = Fi h 162 g := fun g hg => Fi_n (Or.inr hg)
  have c0 : ∀ i, i ≠ 162 → fset h 162 0 (.int (Int32.ofInt 0)) i = h i := fun i hi => fs_ne hi
  obtain ⟨n, hh⟩ := rn_i rfl rfl rfl rfl hh
  obtain ⟨n, hh⟩ := rn_i rfl rfl rfl rfl hh
  have hh : pm_run PT n fr lo 192 (8, [some (.ref 162), none, none, none, none, none], [.int (nI 55), .ref 162], fset h 162 0 (.int (Int32.ofInt 0)), 198, sl) = some R := hh
  generalize fset h 162 0 (.int (Int32.ofInt 0)) = ha at *
  have hh : pm_run PT n fr lo 192 (8, [some (.ref 162), none, none, none, none, none], [.int (nI 55), .ref 162], ha, 198, sl) = some R := hh
  obtain ⟨n, fr', lo', r1, hr1, hh⟩ := rn_call (w := 0) (t := 180) rfl rfl hh
  have M : ∀ {g : Nat} {as : List av}, wd (bB 162) = .inr (11, as) → as[g]? = some ai_top → mF ha g (.int (Fi ha 162 g)) := fun hb hg => wt_i w0 (by decide) hb (by decide) hg
  have g15 : mF ha 15 (.int (nI n0)) := by
    have z := M (g := 15) rfl rfl
    rw [f0 15 (by decide), h15] at z
    exact z
  have er := rn_dt (F := 10) (Lo := 1000) (hd_begins (fr := 10) (lo := 1000) (sl := sl) (m := 55) g15 (M (g := 16) rfl rfl) (M (g := 17) rfl rfl) (M (g := 18) rfl rfl) hn (by decide) (by decide) (by decide)) hr1
  subst er
  have hh : pm_run PT n fr lo 192 (11, [some (.ref 162), none, none, none, none, none], [.int (nI n0)], hbeg ha n0 55, 198, sl) = some R := hh
  have eb : hbeg ha n0 55 = fset (fset (fset (fset ha 162 15 (.int 0)) 162 16 (.int 0)) 162 18 (.int 0)) 162 17 (.int (nI (min n0 55))) := by
    have a1 : WT (fset ha 162 15 (.int 0)) := wt_fs rfl (by decide) rfl w0
    have a2 : WT (fset (fset ha 162 15 (.int 0)) 162 16 (.int 0)) := wt_fs rfl (by decide) rfl a1
    have a3 : WT (fset (fset (fset ha 162 15 (.int 0)) 162 16 (.int 0)) 162 18 (.int 0)) := wt_fs rfl (by decide) rfl a2
    unfold hbeg
    rw [mset_w (g := 15) w0 rfl rfl, mset_w (g := 16) a1 rfl rfl, mset_w (g := 18) a2 rfl rfl, mset_w (g := 17) a3 rfl rfl]
  rw [eb] at hh
  have b1 : WT (fset (fset (fset (fset ha 162 15 (.int 0)) 162 16 (.int 0)) 162 18 (.int 0)) 162 17 (.int (nI (min n0 55)))) := wt_fs rfl (by decide) rfl (wt_fs rfl (by decide) rfl (wt_fs rfl (by decide) rfl (wt_fs rfl (by decide) rfl w0)))
  have b2 : ∀ i, i ≠ 162 → (fset (fset (fset (fset ha 162 15 (.int 0)) 162 16 (.int 0)) 162 18 (.int 0)) 162 17 (.int (nI (min n0 55)))) i = ha i := fun i hi => (fs_ne hi).trans ((fs_ne hi).trans ((fs_ne hi).trans (fs_ne hi)))
  have b3 : ∀ g, g ≠ 15 → g ≠ 16 → g ≠ 17 → g ≠ 18 → Fi (fset (fset (fset (fset ha 162 15 (.int 0)) 162 16 (.int 0)) 162 18 (.int 0)) 162 17 (.int (nI (min n0 55)))) 162 g = Fi ha 162 g := fun g h1 h2 h3 h4 => (Fi_n (Or.inr h3)).trans ((Fi_n (Or.inr h4)).trans ((Fi_n (Or.inr h2)).trans (Fi_n (Or.inr h1))))
  have b16 : Fi (fset (fset (fset (fset ha 162 15 (.int 0)) 162 16 (.int 0)) 162 18 (.int 0)) 162 17 (.int (nI (min n0 55)))) 162 16 = nI 0 := (Fi_n (Or.inr (by decide))).trans ((Fi_n (Or.inr (by decide))).trans (Fi_s (wt_fs rfl (by decide) rfl w0) (by decide) rfl (by decide) rfl))
  have b17 : Fi (fset (fset (fset (fset ha 162 15 (.int 0)) 162 16 (.int 0)) 162 18 (.int 0)) 162 17 (.int (nI (min n0 55)))) 162 17 = nI (min n0 55) := Fi_s (wt_fs rfl (by decide) rfl (wt_fs rfl (by decide) rfl (wt_fs rfl (by decide) rfl w0))) (by decide) rfl (by decide) rfl
  generalize fset (fset (fset (fset ha 162 15 (.int 0)) 162 16 (.int 0)) 162 18 (.int 0)) 162 17 (.int (nI (min n0 55))) = hb at *
  have hh : pm_run PT n fr lo 192 (11, [some (.ref 162), none, none, none, none, none], [.int (nI n0)], hb, 198, sl) = some R := hh
  obtain ⟨n, hh⟩ := rn_i rfl rfl rfl rfl hh
  obtain ⟨n, hh⟩ := rn_i rfl rfl rfl rfl hh
  obtain ⟨n, hh⟩ := rn_i rfl rfl rfl rfl hh
  have m20 : mF hb 20 (.int (Fi hb 162 20)) := wt_i b1 (by decide) rfl (by decide) rfl
  obtain ⟨n, hh⟩ := rn_pfm rfl rfl rfl (by decide) m20 hh
  rw [mset_w (g := 20) b1 rfl rfl] at hh
  have d1 : WT (fset hb 162 20 (.int (nI 0))) := wt_fs rfl (by decide) rfl b1
  have d2 : ∀ i, i ≠ 162 → fset hb 162 20 (.int (nI 0)) i = h i := fun i hi => (fs_ne hi).trans ((b2 i hi).trans (c0 i hi))
  have d3 : ∀ g, g ≠ 0 → g ≠ 15 → g ≠ 16 → g ≠ 17 → g ≠ 18 → g ≠ 20 → Fi (fset hb 162 20 (.int (nI 0))) 162 g = Fi h 162 g := fun g h1 h2 h3 h4 h5 h6 => (Fi_n (Or.inr h6)).trans ((b3 g h2 h3 h4 h5).trans (f0 g h1))
  have d16 : Fi (fset hb 162 20 (.int (nI 0))) 162 16 = nI 0 := (Fi_n (Or.inr (by decide))).trans b16
  have d17 : Fi (fset hb 162 20 (.int (nI 0))) 162 17 = nI (min n0 55) := (Fi_n (Or.inr (by decide))).trans b17
  have d20 : Fi (fset hb 162 20 (.int (nI 0))) 162 20 = nI 0 := Fi_s b1 (by decide) rfl (by decide) rfl
  have hh : pm_run PT n fr lo 192 (17, [some (.ref 162), some (.int (nI n0)), none, none, none, none], [], fset hb 162 20 (.int (nI 0)), 198, sl) = some R := hh
  generalize fset hb 162 20 (.int (nI 0)) = hd at *
  have hh : pm_run PT n fr lo 192 (17, [some (.ref 162), some (.int (nI n0)), none, none, none, none], [], hd, 198, sl) = some R := hh
  have pp : pW hd hd (Ar hd 172) (min n0 55) cc c (7 * 0) 0 (Ar hd 173) := by
    have D : ∀ {g : Nat} {as : List av}, wd (bB 162) = .inr (11, as) → as[g]? = some ai_top → mF hd g (.int (Fi hd 162 g)) := fun hb hg => wt_i d1 (by decide) hb (by decide) hg
    have D16 := D (g := 16) rfl rfl
    have D17 := D (g := 17) rfl rfl
    have D20 := D (g := 20) rfl rfl
    have D3 := D (g := 3) rfl rfl
    rw [d16] at D16
    rw [d17] at D17
    rw [d20] at D20
    rw [d3 3 (by decide) (by decide) (by decide) (by decide) (by decide) (by decide), h3] at D3
    have D4 := D (g := 4) rfl rfl
    rw [d3 4 (by decide) (by decide) (by decide) (by decide) (by decide) (by decide), h4] at D4
    exact ⟨⟨⟨⟨D16, D17, wt_r d1 (by decide) rfl (by decide) rfl rfl, wt_a d1 (by decide) rfl (by decide)⟩, D20, D3, wt_r d1 (by decide) rfl (by decide) rfl rfl, _, wt_a d1 (by decide) rfl (by decide)⟩, D4⟩, wt_a d1 (by decide) rfl (by decide), d1, fun _ _ _ => rfl, fun _ _ _ => rfl⟩
  have et : Ar hd 172 = Ar h 172 := Ar_e (d2 172 (by decide))
  have fin : ∀ (m : Nat) (h' : pm_H) (b : Bool) (p' r' : Nat) (Rd' : Nat → Int32) (x3 : Int32), pm_run PT m fr lo 192 (60, [some (.ref 162), some (.int (nI n0)), some (.int (cond b 1 0)), some (.int x3), none, none], [], h', 198, sl) = some R → pW hd h' (Ar hd 172) (min n0 55) cc c p' r' Rd' → (b = true → c + r' ≤ 8) → p' < 80 → (b = true → ∀ k, k < r' → gvM (Ar hd 172) (min n0 55) cc k Rd') → ∃ (h1 : pm_H) (r : Nat), WT h1 ∧ (∀ i, i ≠ 162 → i ≠ 173 → h1 i = h i) ∧ (∀ g, g ≠ 0 → g ≠ 15 → g ≠ 16 → g ≠ 17 → g ≠ 18 → g ≠ 20 → Fi h1 162 g = Fi h 162 g) ∧ ((∃ F : Int32, pm_cmp .ge F 0 = false ∧ R = (some (.int F), h1, 198, sl)) ∨ (c + r ≤ 8 ∧ (∀ k, k < r → gvM (Ar h 172) (min n0 55) cc k (Ar h1 173)) ∧ ∃ F x1 x2 x3 : Int32, R = (some (.int (nI r)), (w192 q cq gc h1 r c F x1 x2 x3).2, 198, sl) ∧ WT (w192 q cq gc h1 r c F x1 x2 x3).2 ∧ frm [162, 166, 167, 168, 170] [(162, 4), (162, 5), (162, 27)] h1 (w192 q cq gc h1 r c F x1 x2 x3).2)) := by
    intro m h' b p' r' Rd' x3 hh x hr hp hv
    have eR : Ar h' 173 = Rd' := by
      unfold Ar
      rw [x.2.1]
    refine ⟨h', r', x.2.2.1, fun i h1 h2 => (x.2.2.2.1 i h1 h2).trans (d2 i h1), fun g h1 h2 h3 h4 h5 h6 => (x.2.2.2.2 g h3 h6).trans (d3 g h1 h2 h3 h4 h5 h6), ?_⟩
    rcases gsec (q := q) (cq := cq) (gc := gc) hn hr hp x hh with ⟨F, z1, z2⟩ | ⟨z1, F, x1, x2, z2, z3, z4⟩
    · exact Or.inl ⟨F, z1, z2⟩
    · refine Or.inr ⟨hr z1, fun k hk => ?_, F, x1, x2, x3, z2, z3, z4⟩
      rw [eR, ← et]
      exact hv z1 k hk
  obtain ⟨n, hh⟩ := rn_i rfl rfl rfl rfl hh
  obtain ⟨n, hh⟩ := rn_i rfl rfl rfl rfl hh
  obtain ⟨n, hh⟩ := rn_i rfl rfl rfl rfl hh
  have hh : pm_run PT n fr lo 192 (20, [some (.ref 162), some (.int (nI n0)), some (.int 1), none, none, none], [.int (nI n0)], hd, 198, sl) = some R := hh
  obtain ⟨n, hh⟩ := rn_if (cc := .le) (off := 7) (t := 27) rfl rfl hh
  by_cases z : n0 = 0
  · have ec : pm_cmp .le (nI n0) 0 = true := by
      rw [z]
      decide
    rw [ec] at hh
    have hh : pm_run PT n fr lo 192 (27, [some (.ref 162), some (.int (nI n0)), some (.int 1), none, none, none], [], hd, 198, sl) = some R := hh
    obtain ⟨n, hh⟩ := rn_i rfl rfl rfl rfl hh
    obtain ⟨n, hh⟩ := rn_i rfl rfl rfl rfl hh
    have hh : pm_run PT n fr lo 192 (29, [some (.ref 162), some (.int (nI n0)), some (.int 1), some (.int 0), none, none], [], hd, 198, sl) = some R := hh
    obtain ⟨n, hh⟩ := rn_i rfl rfl rfl rfl hh
    obtain ⟨n, hh⟩ := rn_if (cc := .eq) (off := 30) (t := 60) rfl rfl hh
    exact fin n hd true _ _ _ 0 hh pp (fun _ => by omega) (by omega) (fun _ k hk => absurd hk (Nat.not_lt_zero k))
  · have ec : pm_cmp .le (nI n0) 0 = false := by
      have := hI_le (a := n0) (b := 0) (by omega) (by omega)
      rw [decide_eq_false (by omega)] at this
      exact this
    rw [ec] at hh
    have hh : pm_run PT n fr lo 192 (23, [some (.ref 162), some (.int (nI n0)), some (.int 1), none, none, none], [], hd, 198, sl) = some R := hh
    obtain ⟨n, hh⟩ := rn_i rfl rfl rfl rfl hh
    obtain ⟨n, hh⟩ := rn_i rfl rfl rfl rfl hh
    obtain ⟨n, hh⟩ := rn_i rfl rfl rfl rfl hh
    obtain ⟨m, h', r', Rd', hm, x, hv⟩ := gmv_loop (gc := c) (t := min n0 55) (by omega) (9 - c) 0 0 n hd (Ar hd 173) (by omega) (by omega) (Nat.zero_le _) rfl pp (fun k hk => absurd hk (Nat.not_lt_zero k)) hh
    obtain ⟨b1, b2⟩ := sgL_bd (tp := Ar hd 172) (cc := cc) (gc := c) (t := min n0 55) (9 - c) 0 0 (Nat.zero_le _)
    exact fin m h' _ _ r' Rd' 0 hm x (fun z1 => by rw [(hv z1).1]; exact b2 (by omega)) (by omega) (fun z1 k hk => (hv z1).2 k hk)
theorem gx89 (hn : n0 ≤ 80) (hcc : cc ≤ 6) (hc : c ≤ 8) (hw : WT h) (h11 : Fi h 1 1 = nI n0) (h50 : Fi h 5 0 = nI cc) (h51 : Fi h 5 1 = nI c) (hh : pm_run PT n fr lo 89 (0, pm_l0 [.ref 0] 2, [], h, 198, sl) = some R) : ∃ h1 : pm_H, gvX h h1 n0 cc c (Ar h 2) 0 ∧ ((∃ v : Int32, pm_cmp .le v 0 = true ∧ R = (some (.int v), fset h1 1 1 (.int (nI 0)), 198, sl)) ∨ ∃ N, 1 ≤ N ∧ c + N ≤ 8 ∧ gvX h h1 n0 cc c (Ar h 2) N ∧ R = (some (.int (nI N)), (w89 q cq gc h1 N c).2, 198, sl) ∧ WT (w89 q cq gc h1 N c).2 ∧ frm [0, 1, 5, 25] [(0, 7), (1, 1), (5, 1), (25, 2)] h1 (w89 q cq gc h1 N c).2) := by
  have i5 : ∃ rs, h 5 = .inr (3, rs) ∧ rs[0]? = some (.int (nI cc)) := by
    obtain ⟨rs, a, b⟩ := wt_i (c := 5) (g := 0) hw (by decide) rfl (by decide) rfl
    rw [h50] at b
    exact ⟨rs, a, b⟩
  have px : pX h n0 cc (Ar h 2) := by
    obtain ⟨fs, a1, a2⟩ := wt_r (c := 0) (g := 0) (p := 1) hw (by decide) rfl (by decide) rfl rfl
    obtain ⟨fs', a3, a4⟩ := wt_r (c := 0) (g := 2) (p := 5) hw (by decide) rfl (by decide) rfl rfl
    obtain ⟨gs, b1, b2⟩ := wt_r (c := 1) (g := 0) (p := 2) hw (by decide) rfl (by decide) rfl rfl
    obtain ⟨gs', b3, b4⟩ := wt_i (c := 1) (g := 1) hw (by decide) rfl (by decide) rfl
    rw [h11] at b4
    rw [a1] at a3
    cases a3
    rw [b1] at b3
    cases b3
    exact ⟨⟨fs, a1, a2, a4⟩, ⟨gs, b1, b2, b4⟩, wt_a hw (by decide) rfl (by decide), i5⟩
  have xg : rG h (.int (nI c)) := by
    obtain ⟨rs, a, b⟩ := wt_i (c := 5) (g := 1) hw (by decide) rfl (by decide) rfl
    rw [h51] at b
    exact ⟨rs, a, b⟩
  have X : gvX h h n0 cc c (Ar h 2) 0 := ⟨⟨px, xg, hw⟩, fun _ _ _ _ _ _ => rfl, fun _ _ => ⟨rfl, rfl, rfl, rfl, rfl⟩, fun r hr => absurd hr (Nat.not_lt_zero r)⟩
  obtain ⟨n, hh⟩ := rn_i rfl rfl rfl rfl hh
  obtain ⟨n, fr', lo', r1, hr1, hh⟩ := rn_call (w := 0) (t := 130) rfl rfl hh
  have hv := xgs_run hn hcc hc px xg hr1
  obtain ⟨hz, x0, xN⟩ := gxs_run hn hcc hc X hr1
  obtain ⟨rv, h1, s1⟩ := r1
  dsimp only at hz hv x0 xN
  subst hz
  subst hv
  obtain ⟨-, hN⟩ := gm_both (cc := cc) (f := Ar h 2) (tp := Ar h 2) hn hc (fun _ _ => rfl)
  generalize xgR n0 cc c (Ar h 2) = v at *
  have w1 := x0.1.2.2
  have f5 : h1 5 = h 5 := x0.2.1 5 (by decide) (by decide) (by decide) (by decide) (by decide)
  have hh : pm_run PT n fr lo 89 (4, [some (.ref 0), none], [.int v], h1, 198, sl) = some R := hh
  obtain ⟨n, hh⟩ := rn_i rfl rfl rfl rfl hh
  have hh : pm_run PT n fr lo 89 (5, [some (.ref 0), some (.int v)], [], h1, 198, sl) = some R := hh
  refine ⟨h1, x0, ?_⟩
  have no : pm_cmp .le v 0 = true → ∃ v : Int32, pm_cmp .le v 0 = true ∧ R = (some (.int v), fset h1 1 1 (.int (nI 0)), 198, sl) := fun hle => ⟨v, hle, (w89n_ok (q := q) (cc := cq) (gc := gc) w1 hle hh).1⟩
  rcases hN with ⟨e1, e2⟩ | ⟨e1, -⟩
  · generalize gmN (Ar h 2) n0 cc c = N at *
    by_cases z : N = 0
    · exact Or.inl (no (by rw [e1, z]; decide))
    · subst e1
      obtain ⟨a1, a2, a3⟩ := w89_ok (q := q) (cc := cq) (gc := gc) w1 (by omega) e2 ((Fi_e f5).trans h51) hh
      have en : (w89 q cq gc h1 N c).1 = nI N := by
        unfold w89
        cases decide (N ≤ 0) <;> rfl
      rw [en] at a1
      exact Or.inr ⟨N, by omega, e2, xN N (by omega) (by omega) rfl, a1, a2, a3⟩
  · exact Or.inl (no e1)
end GFT
end MG95zzyrx0
section MG95zzyrx1
/-! new GIFTS: both sides stay alike -/
section GFR
variable {n0 cc gc N c i : Nat} {q : QT} {h X0 X M M' : pm_H} {f tp g e d hd ha : Nat → Int32} {x m y : Int32}
theorem bit_and {x y : Int32} {k : Nat} : bit (x &&& y) k = (bit x k && bit y k) := by
  unfold bit
  rw [Int32.toBitVec_and, BitVec.getLsbD_and]
theorem bit_m1 : ∀ k, k < 32 → bit (Int32.ofInt (-1)) k = true := by decide +kernel
theorem bit_not {x : Int32} {k : Nat} (hk : k < 32) : bit (x ^^^ Int32.ofInt (-1)) k = !(bit x k) := by
  have e := bit_m1 k hk
  unfold bit at e ⊢
  rw [Int32.toBitVec_xor, BitVec.getLsbD_xor, e, Bool.xor_true]
/-- what the reference has done when i of the new GIFTS are there -/
def gmI (c : Nat) (h : pm_H) (i : Nat) (a : pm_H) : Prop := Ar a 173 = Ar h 173 ∧ (∀ k, k < i → Ar a 166 (c + k) = Ar h 173 (4 * k) ∧ Ar a 167 (c + k) = Ar h 173 (4 * k + 1) ∧ Ar a 168 (c + k) = Ar h 173 (4 * k + 2) ∧ Ar a 170 (78 + (c + k)) = Ar h 173 (4 * k + 3) ∧ Ar a 170 (86 + (c + k)) = shl (nI 1) (Ar h 173 (4 * k + 3))) ∧ (∀ k, k < c → Ar a 166 k = Ar h 166 k ∧ Ar a 167 k = Ar h 167 k ∧ Ar a 168 k = Ar h 168 k ∧ Ar a 170 (78 + k) = Ar h 170 (78 + k) ∧ Ar a 170 (86 + k) = Ar h 170 (86 + k)) ∧ (∀ k, k < 78 → Ar a 170 k = Ar h 170 k) ∧ Ar a 170 95 = Ar h 170 95 ∧ ∀ k, k < 32 → bit (Ar a 170 94) k = (bit (Ar h 170 94) k && !(decide (c ≤ k ∧ k < c + i)))
theorem gm_step {z1 : Nat} {t1 t2 t3 t4 : Int32} {a : pm_H} (hc : c + i < 8) (z : gmI c h i a) : gmI c h (i + 1) (w192_81b q cc gc a z1 c t1 t2 t3 t4 i) := by
  obtain ⟨a1, a2, a3, a4, a5, a6⟩ := z
  unfold w192_81b
  rw [a1]
  generalize hb : aset (aset (aset (aset a 166 8 (upd (Ar a 166) (c + i) (Ar h 173 (4 * i)))) 167 8 (upd (Ar a 167) (c + i) (Ar h 173 (4 * i + 1)))) 168 8 (upd (Ar a 168) (c + i) (Ar h 173 (4 * i + 2)))) 170 96 (upd (upd (upd (Ar a 170) (78 + (c + i)) (Ar h 173 (4 * i + 3))) (86 + (c + i)) (shl (nI 1) (Ar h 173 (4 * i + 3)))) 94 ((upd (upd (Ar a 170) (78 + (c + i)) (Ar h 173 (4 * i + 3))) (86 + (c + i)) (shl (nI 1) (Ar h 173 (4 * i + 3)))) 94 &&& (shl (nI 1) (nI (c + i)) ^^^ Int32.ofInt (-1)))) = b
  have b173 : Ar b 173 = Ar h 173 := by rw [← hb, Ar_n (by decide), Ar_n (by decide), Ar_n (by decide), Ar_n (by decide), a1]
  have b166 : Ar b 166 = upd (Ar a 166) (c + i) (Ar h 173 (4 * i)) := by rw [← hb, Ar_n (by decide), Ar_n (by decide), Ar_n (by decide), Ar_s]
  have b167 : Ar b 167 = upd (Ar a 167) (c + i) (Ar h 173 (4 * i + 1)) := by rw [← hb, Ar_n (by decide), Ar_n (by decide), Ar_s]
  have b168 : Ar b 168 = upd (Ar a 168) (c + i) (Ar h 173 (4 * i + 2)) := by rw [← hb, Ar_n (by decide), Ar_s]
  have b170 : Ar b 170 = upd (upd (upd (Ar a 170) (78 + (c + i)) (Ar h 173 (4 * i + 3))) (86 + (c + i)) (shl (nI 1) (Ar h 173 (4 * i + 3)))) 94 (Ar a 170 94 &&& (shl (nI 1) (nI (c + i)) ^^^ Int32.ofInt (-1))) := by
    rw [← hb, Ar_s, up_n (show 94 ≠ 86 + (c + i) by omega), up_n (show 94 ≠ 78 + (c + i) by omega)]
  clear hb
  refine ⟨Ar_f.trans b173, fun k hk => ?_, fun k hk => ?_, fun k hk => ?_, ?_, fun k hk => ?_⟩
  · rw [Ar_f, Ar_f, Ar_f, Ar_f, b166, b167, b168, b170, up_n (show 78 + (c + k) ≠ 94 by omega), up_n (show 86 + (c + k) ≠ 94 by omega), up_n (show 78 + (c + k) ≠ 86 + (c + i) by omega)]
    by_cases z : k = i
    · rw [z, up_e rfl, up_e rfl, up_e rfl, up_e rfl, up_e rfl]
      exact ⟨rfl, rfl, rfl, rfl, rfl⟩
    · rw [up_n (by omega), up_n (by omega), up_n (by omega), up_n (by omega), up_n (show 86 + (c + k) ≠ 86 + (c + i) by omega), up_n (show 86 + (c + k) ≠ 78 + (c + i) by omega)]
      exact a2 k (by omega)
  · rw [Ar_f, Ar_f, Ar_f, Ar_f, b166, b167, b168, b170, up_n (show k ≠ c + i by omega), up_n (show k ≠ c + i by omega), up_n (show k ≠ c + i by omega), up_n (show 78 + k ≠ 94 by omega), up_n (show 78 + k ≠ 86 + (c + i) by omega), up_n (show 78 + k ≠ 78 + (c + i) by omega), up_n (show 86 + k ≠ 94 by omega), up_n (show 86 + k ≠ 86 + (c + i) by omega), up_n (show 86 + k ≠ 78 + (c + i) by omega)]
    exact a3 k hk
  · rw [Ar_f, b170, up_n (by omega), up_n (by omega), up_n (by omega)]
    exact a4 k hk
  · rw [Ar_f, b170, up_n (by omega), up_n (by omega), up_n (by omega)]
    exact a5
  · rw [Ar_f, b170, up_e rfl, bit_and, bit_not hk, bit_shl (by omega) hk, a6 k hk]
    by_cases z : k = c + i
    · rw [decide_eq_true z, decide_eq_true (show c ≤ k ∧ k < c + (i + 1) by omega)]
      cases bit (Ar h 170 94) k <;> cases decide (c ≤ k ∧ k < c + i) <;> rfl
    · rw [decide_eq_false z, show decide (c ≤ k ∧ k < c + (i + 1)) = decide (c ≤ k ∧ k < c + i) from decide_eq_decide.mpr (by omega)]
      cases bit (Ar h 170 94) k <;> cases decide (c ≤ k ∧ k < c + i) <;> rfl
theorem w192_ar {F x1 x2 x3 : Int32} (h8 : c + N ≤ 8) : gmI c h N (w192 q cc gc h N c F x1 x2 x3).2 := by
  have y := lp_in (f := fun j b => w192_81b q cc gc b N c x1 x2 x3 F j) (P := gmI c h) N 0 h ⟨rfl, fun k hk => absurd hk (Nat.not_lt_zero k), fun _ _ => ⟨rfl, rfl, rfl, rfl, rfl⟩, fun _ _ => rfl, rfl, fun k hk => by rw [decide_eq_false (by omega)]; exact (Bool.and_true _).symm⟩ (fun k b _ hk z => gm_step (by omega) z)
  rw [Nat.zero_add] at y
  have y : gmI c h N (w192_81 q cc gc N c x1 x2 x3 F N 0 h) := y
  show gmI c h N (w190 q cc gc (w192_81 q cc gc N c x1 x2 x3 F N 0 h) N)
  unfold w190
  generalize w192_81 q cc gc N c x1 x2 x3 F N 0 h = u at y ⊢
  unfold gmI at y ⊢
  simp only [Ar_f]
  exact y
/-- a LINE that stands -/
theorem rgL_suc {t p : Nat} (z : (rgL f t cc p).1 = true) : dgi f p t (Int32.ofInt 0) (Int32.ofInt 4) = true ∧ dg f ((nbr f t 2 (p + 1) 0).1 + 1) t = true ∧ dgi f ((nbr f t 2 (p + 1) 0).1 + 2) t (Int32.ofInt 0) (nI cc - Int32.ofInt 1) = true := by
  unfold rgL at z
  cases z1 : dgi f p t (Int32.ofInt 0) (Int32.ofInt 4) with
  | false => rw [z1] at z; cases z
  | true =>
    rw [z1] at z
    dsimp only [cond] at z
    cases z2 : dg f (p + 1) t with
    | false => rw [z2] at z; cases z
    | true =>
      rw [z2] at z
      dsimp only at z
      generalize nbr f t 2 (p + 1) 0 = b at *
      unfold rgW at z
      cases z3 : decide (b.2 = 0) with
      | true => rw [z3] at z; cases z
      | false =>
        rw [z3] at z
        dsimp only [cond] at z
        unfold rgC at z
        cases z4 : decide (b.1 < t ∧ f b.1 = 44) with
        | false => rw [z4] at z; cases z
        | true =>
          rw [z4] at z
          dsimp only [cond] at z
          unfold rgE at z
          cases z5 : dg f (b.1 + 1) t with
          | false => rw [z5] at z; cases z
          | true =>
            rw [z5] at z
            dsimp only [cond] at z
            cases z6 : dgi f (b.1 + 1 + 1) t (Int32.ofInt 0) (nI cc - Int32.ofInt 1) with
            | false => rw [z6] at z; cases z
            | true => exact ⟨rfl, rfl, rfl⟩
theorem gps_cong {t : Nat} (hf : ∀ j, j < t → f j = tp j) : ∀ r, gps f t cc r = gps tp t cc r
  | 0 => rfl
  | r + 1 => by
    show (rgL f t cc (gps f t cc r)).2 + 1 = (rgL tp t cc (gps tp t cc r)).2 + 1
    rw [gps_cong hf r, rgL_cong hf]
theorem gn_of {y : Int32} {b : Nat} (h1 : 0 ≤ y.toInt) (h2 : y.toInt < (b : Int)) : ∃ k, k < b ∧ y = nI k := by
  obtain ⟨k, e, -, e2⟩ := hI_of h1
  exact ⟨k, by omega, e⟩
theorem gft_rel (h6 : cc ≤ 6) (h8 : gc + N ≤ 8) (X1 : gvX X0 X n0 cc gc f N) (hm : gmI gc M N M') (hv : ∀ k, k < N → gvM tp (min n0 55) cc k (Ar M 173)) (hf : ∀ j, j < n0 → f j = tp j) (s : RS cc gc g e d (Ar X0 17) (Ar X0 18) x m (Ar M 170)) (ri : RI cc gc (Ar M 170)) (rm : ∀ j, j < gc → (Ar X0 9 j = Ar M 166 j ∧ ∃ k, k < 5 ∧ Ar M 166 j = nI k) ∧ Ar X0 10 j = Ar M 167 j ∧ (Ar X0 11 j = Ar M 168 j ∧ ∃ k, k < 10 ∧ Ar M 168 j = nI k)) : RS cc (gc + N) g e d (Ar X 17) (Ar X 18) x m (Ar M' 170) ∧ RI cc (gc + N) (Ar M' 170) ∧ ∀ j, j < gc + N → (Ar X 9 j = Ar M' 166 j ∧ ∃ k, k < 5 ∧ Ar M' 166 j = nI k) ∧ Ar X 10 j = Ar M' 167 j ∧ (Ar X 11 j = Ar M' 168 j ∧ ∃ k, k < 10 ∧ Ar M' 168 j = nI k) := by
  obtain ⟨-, -, xo, xn⟩ := X1
  obtain ⟨-, mn, mo, m78, m95, mb⟩ := hm
  obtain ⟨s1, s2, s3, s4, s5, s6, s7⟩ := s
  obtain ⟨i1, i2, i3, i4, i5⟩ := ri
  have hf' : ∀ j, j < min n0 55 → f j = tp j := fun j hj => hf j (by omega)
  have e94 : Ar M' 170 94 = Ar M 170 94 := bit_ext (fun k hk => by
    rw [mb k hk]
    by_cases z : gc ≤ k
    · rw [i5 k z hk]
      rfl
    · rw [decide_eq_false (by omega)]
      exact Bool.and_true _)
  -- a new gift
  have new : ∀ k, k < N → ((Ar X 17 (gc + k) = Ar M' 170 (78 + (gc + k)) ∧ ∃ c, c < cc ∧ Ar M' 170 (78 + (gc + k)) = nI c) ∧ Ar X 18 (gc + k) = Ar M' 170 (86 + (gc + k))) ∧ (Ar X 9 (gc + k) = Ar M' 166 (gc + k) ∧ ∃ c, c < 5 ∧ Ar M' 166 (gc + k) = nI c) ∧ Ar X 10 (gc + k) = Ar M' 167 (gc + k) ∧ (Ar X 11 (gc + k) = Ar M' 168 (gc + k) ∧ ∃ c, c < 10 ∧ Ar M' 168 (gc + k) = nI c) := by
    intro k hk
    obtain ⟨y0, y1, y2, y3, y4, y5⟩ := xn k hk
    obtain ⟨u1, u2, u3⟩ := rgL_suc y0
    obtain ⟨w1, w2, w3, w4⟩ := hv k hk
    obtain ⟨v1, v2, v3, v4, v5⟩ := mn k hk
    rw [← gps_cong hf', ← nbr_cong hf'] at w2 w3 w4
    rw [← gps_cong hf'] at w1
    generalize gps f (min n0 55) cc k = p at *
    generalize nbr f (min n0 55) 2 (p + 1) 0 = b at *
    have p1 := (dgi_g0 u1).1
    have p2 := dg_lt u2
    have p3 := (dgi_g0 u3).1
    have e1 : f p = tp p := hf' p p1
    have e2 : f (b.1 + 1) = tp (b.1 + 1) := hf' _ p2
    have e3 : f (b.1 + 2) = tp (b.1 + 2) := hf' _ p3
    rw [dgi_rng (c := 5) (by decide) (by decide), Bool.and_eq_true] at u1
    rw [dgi_rng (by omega) (cc_m1 h6), Bool.and_eq_true] at u3
    have k1 := gn_of (dg_val u1.1).1 (of_decide_eq_true u1.2)
    have k2 := gn_of (b := 10) (dg_val u2).1 (by have := (dg_val u2).2; omega)
    have k3 := gn_of (dg_val u3.1).1 (of_decide_eq_true u3.2)
    rw [v1, v2, v3, v4, v5, w1, w2, w3, w4, ← e1, ← e2, ← e3]
    exact ⟨⟨⟨y4, k3⟩, y5⟩, ⟨y1, k1⟩, y2, y3, k2⟩
  have all : ∀ (P : Nat → Prop), (∀ j, j < gc → P j) → (∀ k, k < N → P (gc + k)) → ∀ j, j < gc + N → P j := by
    intro P h1 h2 j hj
    by_cases z : j < gc
    · exact h1 j z
    · have := h2 (j - gc) (by omega)
      rw [show gc + (j - gc) = j by omega] at this
      exact this
  refine ⟨⟨fun c hc => ?_, fun a b ha hb hab => ?_, fun a b ha hb => ?_, all _ (fun j hj => ?_) (fun k hk => (new k hk).1.1.1), all _ (fun j hj => ?_) (fun k hk => (new k hk).1.2), s6.trans e94.symm, s7.trans m95.symm⟩, ⟨fun c hc => ?_, fun a b ha hb hab => ?_, fun a b ha hb => ?_, all _ (fun j hj => ?_) (fun k hk => (new k hk).1.1.2), fun k h1 h2 => ?_⟩, all _ (fun j hj => ?_) (fun k hk => (new k hk).2)⟩
  · rw [m78 c (by omega)]
    exact s1 c hc
  · rw [m78 _ (by omega)]
    exact s2 a b ha hb hab
  · rw [m78 _ (by omega)]
    exact s3 a b ha hb
  · rw [(mo j hj).2.2.2.1, (xo j hj).2.2.2.1]
    exact s4 j hj
  · rw [(mo j hj).2.2.2.2, (xo j hj).2.2.2.2]
    exact s5 j hj
  · rw [m78 c (by omega)]
    exact i1 c hc
  · rw [m78 _ (by omega)]
    exact i2 a b ha hb hab
  · rw [m78 _ (by omega)]
    exact i3 a b ha hb
  · rw [(mo j hj).2.2.2.1]
    exact i4 j hj
  · rw [e94]
    exact i5 k (by omega) h2
  · obtain ⟨o1, o2, o3, -⟩ := mo j hj
    obtain ⟨q1, q2, q3, -⟩ := xo j hj
    rw [o1, o2, o3, q1, q2, q3]
    exact rm j hj
end GFR
end MG95zzyrx1
