/-! courts of both sides, told exactly behind what they read -/
section CRT
variable {n fr lo sl n0 c r p gc cq : Nat} {q : QT} {h g0 : pm_H} {R : pm_Rs} {tp Rd : Nat → Int32}
theorem mset_w {g : Nat} {v : Value} {as : List av} (hw : WT h) (hb : wd (bB 162) = .inr (11, as)) (hg : as[g]? = some ai_top) : mset h g v = fset h 162 g v := mset_fs (wt_i hw (by decide) hb (by decide) hg)
theorem Fi_m {g : Nat} {x : Int32} (z : mF h g (.int x)) : Fi h 162 g = x := by
  obtain ⟨fs, e, e1⟩ := z
  unfold Fi
  rw [e]
  dsimp only
  rw [e1]
/-- behind the LINES -/
theorem cv_sec {b : Bool} {x3 : Int32} (hn : n0 ≤ 80) (hr : c + r ≤ 6) (hp : p < 80) (x : pV g0 h tp (min n0 41) c p r Rd) (hh : pm_run PT n fr lo 188 (60, [some (.ref 162), some (.int (nI n0)), some (.int (cond b 1 0)), some (.int x3), none, none, none], [], h, 198, sl) = some R) : (∃ F : Int32, pm_cmp .ge F 0 = false ∧ R = (some (.int F), h, 198, sl)) ∨ (b = true ∧ ∃ F x1 x2 : Int32, R = (some (.int (nI r)), (w188 q cq gc h r c F x1 x2 x3).2, 198, sl) ∧ WT (w188 q cq gc h r c F x1 x2 x3).2 ∧ frm [162, 164, 165, 169, 170] [(162, 3), (162, 5), (162, 27)] h (w188 q cq gc h r c F x1 x2 x3).2) := by
  obtain ⟨n, hh⟩ := rn_i rfl rfl rfl rfl hh
  obtain ⟨n, hh⟩ := rn_i rfl rfl rfl rfl hh
  obtain ⟨n, hh⟩ := rn_i rfl rfl rfl rfl hh
  obtain ⟨n, hh⟩ := rn_i rfl rfl rfl rfl hh
  obtain ⟨n, fr', lo', r1, hr1, hh⟩ := rn_call (w := 0) (t := 186) rfl rfl hh
  have er := fo_run (m := 41) hn (by decide) (by omega) (by omega) x.1.1 x.1.2.1 hr1
  subst er
  have hge := fO_ge (n0 := n0) (m := 41) (t := min n0 41) (at_ := p) (is := b) (by decide) (by omega)
  generalize fO n0 41 (min n0 41) p b = F at *
  have hh : pm_run PT n fr lo 188 (68, [some (.ref 162), some (.int (nI n0)), some (.int (cond b 1 0)), some (.int x3), none, none, none], [.int F], h, 198, sl) = some R := hh
  obtain ⟨n, hh⟩ := rn_i rfl rfl rfl rfl hh
  obtain ⟨n, hh⟩ := rn_i rfl rfl rfl rfl hh
  obtain ⟨n, hh⟩ := rn_if (cc := .ge) (off := 6) (t := 78) rfl rfl hh
  cases z : pm_cmp .ge F 0 with
  | false =>
    rw [z] at hh
    obtain ⟨n, hh⟩ := rn_i rfl rfl rfl rfl hh
    exact Or.inl ⟨F, z, (rn_ret rfl (Or.inl rfl) hh).2⟩
  | true =>
    rw [z] at hh
    have hh : pm_run PT n fr lo 188 (78, [some (.ref 162), some (.int (nI n0)), some (.int (cond b 1 0)), some (.int x3), some (.int F), none, none], [], h, 198, sl) = some R := hh
    obtain ⟨a1, a2, a3⟩ := w188_ok (q := q) (cc := cq) (gc := gc) x.2.2.1.2.1 hr (Fi_m x.2.1) (Fi_m x.2.2.1.1) hh
    exact Or.inr ⟨hge z, F, _, _, a1, a2, a3⟩
/-- what courts of the reference does: h1 is the heap behind what it reads -/
theorem cv_run (hn : n0 ≤ 80) (hc : c ≤ 6) (hw : WT h) (h15 : Fi h 162 15 = nI n0) (h3 : Fi h 162 3 = nI c) (hh : pm_run PT n fr lo 188 (0, pm_l0 [.ref 162] 7, [], h, 198, sl) = some R) : ∃ (h1 : pm_H) (r : Nat), WT h1 ∧ (∀ i, i ≠ 162 → i ≠ 173 → h1 i = h i) ∧ (∀ g, g ≠ 0 → g ≠ 15 → g ≠ 16 → g ≠ 17 → g ≠ 18 → g ≠ 20 → Fi h1 162 g = Fi h 162 g) ∧ c + r ≤ 6 ∧ ((∃ F : Int32, pm_cmp .ge F 0 = false ∧ R = (some (.int F), h1, 198, sl)) ∨ ((∀ k, k < r → ∀ j, j < 6 → Ar h1 173 (6 * k + j) = Ar h 172 (7 * k + j) - nI 48 ∧ dgV (Ar h 172) (min n0 41) (7 * k + j)) ∧ ∃ F x1 x2 x3 : Int32, R = (some (.int (nI r)), (w188 q cq gc h1 r c F x1 x2 x3).2, 198, sl) ∧ WT (w188 q cq gc h1 r c F x1 x2 x3).2 ∧ frm [162, 164, 165, 169, 170] [(162, 3), (162, 5), (162, 27)] h1 (w188 q cq gc h1 r c F x1 x2 x3).2)) := by
  obtain ⟨n, hh⟩ := rn_i rfl rfl rfl rfl hh
  obtain ⟨n, hh⟩ := rn_i rfl rfl rfl rfl hh
  have m0 : mF h 0 (.int (Fi h 162 0)) := wt_i hw (by decide) rfl (by decide) rfl
  obtain ⟨n, hh⟩ := rn_pfm rfl rfl rfl (by decide) m0 hh
  rw [mset_w (g := 0) hw rfl rfl] at hh
  have w0 : WT (fset h 162 0 (.int (Int32.ofInt 0))) := wt_fs rfl (by decide) rfl hw
  have f0 : ∀ g, g ≠ 0 → Fi (fset h 162 0 (.int (Int32.ofInt 0))) 162 g = Fi h 162 g := fun g hg => Fi_n (Or.inr hg)
  have c0 : ∀ i, i ≠ 162 → fset h 162 0 (.int (Int32.ofInt 0)) i = h i := fun i hi => fs_ne hi
  obtain ⟨n, hh⟩ := rn_i rfl rfl rfl rfl hh
  obtain ⟨n, hh⟩ := rn_i rfl rfl rfl rfl hh
  have hh : pm_run PT n fr lo 188 (8, [some (.ref 162), none, none, none, none, none, none], [.int (nI 41), .ref 162], fset h 162 0 (.int (Int32.ofInt 0)), 198, sl) = some R := hh
  generalize fset h 162 0 (.int (Int32.ofInt 0)) = ha at *
  have hh : pm_run PT n fr lo 188 (8, [some (.ref 162), none, none, none, none, none, none], [.int (nI 41), .ref 162], ha, 198, sl) = some R := hh
  obtain ⟨n, fr', lo', r1, hr1, hh⟩ := rn_call (w := 0) (t := 180) rfl rfl hh
  have M : ∀ {g : Nat} {as : List av}, wd (bB 162) = .inr (11, as) → as[g]? = some ai_top → mF ha g (.int (Fi ha 162 g)) := fun hb hg => wt_i w0 (by decide) hb (by decide) hg
  have g15 : mF ha 15 (.int (nI n0)) := by
    have z := M (g := 15) rfl rfl
    rw [f0 15 (by decide), h15] at z
    exact z
  have er := rn_dt (F := 10) (Lo := 1000) (hd_begins (fr := 10) (lo := 1000) (sl := sl) (m := 41) g15 (M (g := 16) rfl rfl) (M (g := 17) rfl rfl) (M (g := 18) rfl rfl) hn (by decide) (by decide) (by decide)) hr1
  subst er
  have hh : pm_run PT n fr lo 188 (11, [some (.ref 162), none, none, none, none, none, none], [.int (nI n0)], hbeg ha n0 41, 198, sl) = some R := hh
  have eb : hbeg ha n0 41 = fset (fset (fset (fset ha 162 15 (.int 0)) 162 16 (.int 0)) 162 18 (.int 0)) 162 17 (.int (nI (min n0 41))) := by
    have a1 : WT (fset ha 162 15 (.int 0)) := wt_fs rfl (by decide) rfl w0
    have a2 : WT (fset (fset ha 162 15 (.int 0)) 162 16 (.int 0)) := wt_fs rfl (by decide) rfl a1
    have a3 : WT (fset (fset (fset ha 162 15 (.int 0)) 162 16 (.int 0)) 162 18 (.int 0)) := wt_fs rfl (by decide) rfl a2
    unfold hbeg
    rw [mset_w (g := 15) w0 rfl rfl, mset_w (g := 16) a1 rfl rfl, mset_w (g := 18) a2 rfl rfl, mset_w (g := 17) a3 rfl rfl]
  rw [eb] at hh
  have b1 : WT (fset (fset (fset (fset ha 162 15 (.int 0)) 162 16 (.int 0)) 162 18 (.int 0)) 162 17 (.int (nI (min n0 41)))) := wt_fs rfl (by decide) rfl (wt_fs rfl (by decide) rfl (wt_fs rfl (by decide) rfl (wt_fs rfl (by decide) rfl w0)))
  have b2 : ∀ i, i ≠ 162 → (fset (fset (fset (fset ha 162 15 (.int 0)) 162 16 (.int 0)) 162 18 (.int 0)) 162 17 (.int (nI (min n0 41)))) i = ha i := fun i hi => (fs_ne hi).trans ((fs_ne hi).trans ((fs_ne hi).trans (fs_ne hi)))
  have b3 : ∀ g, g ≠ 15 → g ≠ 16 → g ≠ 17 → g ≠ 18 → Fi (fset (fset (fset (fset ha 162 15 (.int 0)) 162 16 (.int 0)) 162 18 (.int 0)) 162 17 (.int (nI (min n0 41)))) 162 g = Fi ha 162 g := fun g h1 h2 h3 h4 => (Fi_n (Or.inr h3)).trans ((Fi_n (Or.inr h4)).trans ((Fi_n (Or.inr h2)).trans (Fi_n (Or.inr h1))))
  have b16 : Fi (fset (fset (fset (fset ha 162 15 (.int 0)) 162 16 (.int 0)) 162 18 (.int 0)) 162 17 (.int (nI (min n0 41)))) 162 16 = nI 0 := (Fi_n (Or.inr (by decide))).trans ((Fi_n (Or.inr (by decide))).trans (Fi_s (wt_fs rfl (by decide) rfl w0) (by decide) rfl (by decide) rfl))
  have b17 : Fi (fset (fset (fset (fset ha 162 15 (.int 0)) 162 16 (.int 0)) 162 18 (.int 0)) 162 17 (.int (nI (min n0 41)))) 162 17 = nI (min n0 41) := Fi_s (wt_fs rfl (by decide) rfl (wt_fs rfl (by decide) rfl (wt_fs rfl (by decide) rfl w0))) (by decide) rfl (by decide) rfl
  generalize fset (fset (fset (fset ha 162 15 (.int 0)) 162 16 (.int 0)) 162 18 (.int 0)) 162 17 (.int (nI (min n0 41))) = hb at *
  have hh : pm_run PT n fr lo 188 (11, [some (.ref 162), none, none, none, none, none, none], [.int (nI n0)], hb, 198, sl) = some R := hh
  obtain ⟨n, hh⟩ := rn_i rfl rfl rfl rfl hh
  obtain ⟨n, hh⟩ := rn_i rfl rfl rfl rfl hh
  obtain ⟨n, hh⟩ := rn_i rfl rfl rfl rfl hh
  have m20 : mF hb 20 (.int (Fi hb 162 20)) := wt_i b1 (by decide) rfl (by decide) rfl
  obtain ⟨n, hh⟩ := rn_pfm rfl rfl rfl (by decide) m20 hh
  rw [mset_w (g := 20) b1 rfl rfl] at hh
  have d1 : WT (fset hb 162 20 (.int (nI 0))) := wt_fs rfl (by decide) rfl b1
  have d2 : ∀ i, i ≠ 162 → fset hb 162 20 (.int (nI 0)) i = h i := fun i hi => (fs_ne hi).trans ((b2 i hi).trans (c0 i hi))
  have d3 : ∀ g, g ≠ 0 → g ≠ 15 → g ≠ 16 → g ≠ 17 → g ≠ 18 → g ≠ 20 → Fi (fset hb 162 20 (.int (nI 0))) 162 g = Fi h 162 g := fun g h1 h2 h3 h4 h5 h6 => (Fi_n (Or.inr h6)).trans ((b3 g h2 h3 h4 h5).trans (f0 g h1))
  have d16 : Fi (fset hb 162 20 (.int (nI 0))) 162 16 = nI 0 := (Fi_n (Or.inr (by decide))).trans b16
  have d17 : Fi (fset hb 162 20 (.int (nI 0))) 162 17 = nI (min n0 41) := (Fi_n (Or.inr (by decide))).trans b17
  have d20 : Fi (fset hb 162 20 (.int (nI 0))) 162 20 = nI 0 := Fi_s b1 (by decide) rfl (by decide) rfl
  have hh : pm_run PT n fr lo 188 (17, [some (.ref 162), some (.int (nI n0)), none, none, none, none, none], [], fset hb 162 20 (.int (nI 0)), 198, sl) = some R := hh
  generalize fset hb 162 20 (.int (nI 0)) = hd at *
  have hh : pm_run PT n fr lo 188 (17, [some (.ref 162), some (.int (nI n0)), none, none, none, none, none], [], hd, 198, sl) = some R := hh
  have pp : pV hd hd (Ar hd 172) (min n0 41) c (7 * 0) 0 (Ar hd 173) := by
    have D : ∀ {g : Nat} {as : List av}, wd (bB 162) = .inr (11, as) → as[g]? = some ai_top → mF hd g (.int (Fi hd 162 g)) := fun hb hg => wt_i d1 (by decide) hb (by decide) hg
    have D16 := D (g := 16) rfl rfl
    have D17 := D (g := 17) rfl rfl
    have D20 := D (g := 20) rfl rfl
    have D3 := D (g := 3) rfl rfl
    rw [d16] at D16
    rw [d17] at D17
    rw [d20] at D20
    rw [d3 3 (by decide) (by decide) (by decide) (by decide) (by decide) (by decide), h3] at D3
    exact ⟨⟨D16, D17, wt_r d1 (by decide) rfl (by decide) rfl rfl, wt_a d1 (by decide) rfl (by decide)⟩, D20, ⟨D3, d1, fun _ _ _ => rfl, fun _ _ _ => rfl⟩, wt_r d1 (by decide) rfl (by decide) rfl rfl, wt_a d1 (by decide) rfl (by decide)⟩
  have et : Ar hd 172 = Ar h 172 := Ar_e (d2 172 (by decide))
  have fin : ∀ (m : Nat) (h' : pm_H) (b : Bool) (p' r' : Nat) (Rd' : Nat → Int32) (x3 : Int32), pm_run PT m fr lo 188 (60, [some (.ref 162), some (.int (nI n0)), some (.int (cond b 1 0)), some (.int x3), none, none, none], [], h', 198, sl) = some R → pV hd h' (Ar hd 172) (min n0 41) c p' r' Rd' → c + r' ≤ 6 → p' < 80 → (b = true → ∀ k, k < r' → ∀ j, j < 6 → Rd' (6 * k + j) = Ar hd 172 (7 * k + j) - nI 48 ∧ dgV (Ar hd 172) (min n0 41) (7 * k + j)) → ∃ (h1 : pm_H) (r : Nat), WT h1 ∧ (∀ i, i ≠ 162 → i ≠ 173 → h1 i = h i) ∧ (∀ g, g ≠ 0 → g ≠ 15 → g ≠ 16 → g ≠ 17 → g ≠ 18 → g ≠ 20 → Fi h1 162 g = Fi h 162 g) ∧ c + r ≤ 6 ∧ ((∃ F : Int32, pm_cmp .ge F 0 = false ∧ R = (some (.int F), h1, 198, sl)) ∨ ((∀ k, k < r → ∀ j, j < 6 → Ar h1 173 (6 * k + j) = Ar h 172 (7 * k + j) - nI 48 ∧ dgV (Ar h 172) (min n0 41) (7 * k + j)) ∧ ∃ F x1 x2 x3 : Int32, R = (some (.int (nI r)), (w188 q cq gc h1 r c F x1 x2 x3).2, 198, sl) ∧ WT (w188 q cq gc h1 r c F x1 x2 x3).2 ∧ frm [162, 164, 165, 169, 170] [(162, 3), (162, 5), (162, 27)] h1 (w188 q cq gc h1 r c F x1 x2 x3).2)) := by
    intro m h' b p' r' Rd' x3 hh x hr hp hv
    have eR : Ar h' 173 = Rd' := by
      unfold Ar
      rw [x.2.2.2.2]
    refine ⟨h', r', x.2.2.1.2.1, fun i h1 h2 => (x.2.2.1.2.2.1 i h1 h2).trans (d2 i h1), fun g h1 h2 h3 h4 h5 h6 => (x.2.2.1.2.2.2 g h3 h6).trans (d3 g h1 h2 h3 h4 h5 h6), hr, ?_⟩
    rcases cv_sec (q := q) (cq := cq) (gc := gc) hn hr hp x hh with ⟨F, z1, z2⟩ | ⟨z1, F, x1, x2, z2, z3, z4⟩
    · exact Or.inl ⟨F, z1, z2⟩
    · refine Or.inr ⟨fun k hk j hj => ?_, F, x1, x2, x3, z2, z3, z4⟩
      rw [eR, ← et]
      exact hv z1 k hk j hj
  obtain ⟨n, hh⟩ := rn_i rfl rfl rfl rfl hh
  obtain ⟨n, hh⟩ := rn_i rfl rfl rfl rfl hh
  obtain ⟨n, hh⟩ := rn_i rfl rfl rfl rfl hh
  have hh : pm_run PT n fr lo 188 (20, [some (.ref 162), some (.int (nI n0)), some (.int 1), none, none, none, none], [.int (nI n0)], hd, 198, sl) = some R := hh
  obtain ⟨n, hh⟩ := rn_if (cc := .le) (off := 7) (t := 27) rfl rfl hh
  by_cases z : n0 = 0
  · have ec : pm_cmp .le (nI n0) 0 = true := by
      rw [z]
      decide
    rw [ec] at hh
    have hh : pm_run PT n fr lo 188 (27, [some (.ref 162), some (.int (nI n0)), some (.int 1), none, none, none, none], [], hd, 198, sl) = some R := hh
    obtain ⟨n, hh⟩ := rn_i rfl rfl rfl rfl hh
    obtain ⟨n, hh⟩ := rn_i rfl rfl rfl rfl hh
    have hh : pm_run PT n fr lo 188 (29, [some (.ref 162), some (.int (nI n0)), some (.int 1), some (.int 0), none, none, none], [], hd, 198, sl) = some R := hh
    obtain ⟨n, hh⟩ := rn_i rfl rfl rfl rfl hh
    obtain ⟨n, hh⟩ := rn_if (cc := .eq) (off := 30) (t := 60) rfl rfl hh
    exact fin n hd true _ _ _ 0 hh pp (by omega) (by omega) (fun _ k hk => absurd hk (Nat.not_lt_zero k))
  · have ec : pm_cmp .le (nI n0) 0 = false := by
      have := hI_le (a := n0) (b := 0) (by omega) (by omega)
      rw [decide_eq_false (by omega)] at this
      exact this
    rw [ec] at hh
    have hh : pm_run PT n fr lo 188 (23, [some (.ref 162), some (.int (nI n0)), some (.int 1), none, none, none, none], [], hd, 198, sl) = some R := hh
    obtain ⟨n, hh⟩ := rn_i rfl rfl rfl rfl hh
    obtain ⟨n, hh⟩ := rn_i rfl rfl rfl rfl hh
    obtain ⟨n, hh⟩ := rn_i rfl rfl rfl rfl hh
    obtain ⟨m, h', b, p', r', Rd', hm, x, hr, hp, hv⟩ := vm_lines (t := min n0 41) (by omega) (7 - c) 0 n _ _ (by omega) (by omega) pp (fun k hk => absurd hk (Nat.not_lt_zero k)) hh
    exact fin m h' b p' r' Rd' 0 hm x hr hp hv
end CRT
