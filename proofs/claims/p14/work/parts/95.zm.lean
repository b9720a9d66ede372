section MG95zmx0
/-! gifts of both sides, alike -/
section GXU
variable {n fr lo sl n0 cc gc N : Nat} {h h' : pm_H} {R : pm_Rs} {f : Nat → Int32}
def xgR (n0 cc gc : Nat) (f : Nat → Int32) : Int32 := if n0 = 0 then Int32.ofInt 0 else xA n0 (sgL f (min n0 55) cc gc (9 - gc) 0 0)
theorem xgs_0 (hh : pm_run PT n fr lo 130 (10, [some (.ref 0), none, none, none], [], h, 198, sl) = some R) : R.1 = some (.int (Int32.ofInt 0)) := by
  obtain ⟨n, hh⟩ := rn_i rfl rfl rfl rfl hh
  rw [(rn_ret rfl (Or.inl rfl) hh).2]
theorem xgs_1 (hn : n0 ≤ 80) (hc : cc ≤ 6) (hg : gc ≤ 8) (x : pX h n0 cc f) (xg : rG h (.int (nI gc))) (hh : pm_run PT n fr lo 130 (12, [some (.ref 0), none, none, none], [], h, 198, sl) = some R) : R.1 = some (.int (xA n0 (sgL f (min n0 55) cc gc (9 - gc) 0 0))) := by
  obtain ⟨n, hh⟩ := rn_i rfl rfl rfl rfl hh
  obtain ⟨n, hh⟩ := rn_i rfl rfl rfl rfl hh
  obtain ⟨n, hh⟩ := rn_i rfl rfl rfl rfl hh
  obtain ⟨n, hh⟩ := rn_i rfl rfl rfl rfl hh
  have hh : pm_run PT n fr lo 130 (16, [some (.ref 0), some (.int (nI 0)), some (.int (nI 0)), none], [], h, 198, sl) = some R := hh
  exact xgs_loop hn hc (9 - gc) 0 0 n h none (by omega) (by omega) (Nat.zero_le _) x xg hh
theorem xgs_run (hn : n0 ≤ 80) (hc : cc ≤ 6) (hg : gc ≤ 8) (x : pX h n0 cc f) (xg : rG h (.int (nI gc))) (hh : pm_run PT n fr lo 130 (0, pm_l0 [.ref 0] 4, [], h, 198, sl) = some R) : R.1 = some (.int (xgR n0 cc gc f)) := by
  obtain ⟨⟨fs, a1, a2, a3⟩, ⟨gs, g1, g2, g3⟩, -⟩ := id x
  obtain ⟨n, hh⟩ := rn_i rfl rfl rfl rfl hh
  obtain ⟨n, hh⟩ := rn_gfo (g := 0) rfl rfl (by decide) a1 a2 hh
  obtain ⟨n, hh⟩ := rn_gfo (g := 1) rfl rfl (by decide) g1 g3 hh
  obtain ⟨n, hh⟩ := rn_if (cc := .ne) (off := 5) (t := 12) rfl rfl hh
  have en : pm_cmp .ne (nI n0) 0 = decide (¬ n0 = 0) := hI_ne (a := n0) (b := 0) (by omega) (by omega)
  rw [en] at hh
  unfold xgR
  by_cases z : n0 = 0
  · rw [decide_eq_false (fun q => q z)] at hh
    rw [if_pos z]
    exact xgs_0 hh
  · rw [decide_eq_true z] at hh
    rw [if_neg z]
    exact xgs_1 hn hc hg x xg hh
/-- the class's gifts -/
theorem xgf_run (hn : n0 ≤ 80) (hc : cc ≤ 6) (hg : gc ≤ 8) (x : pX h n0 cc f) (xg : rG h (.int (nI gc))) (hN : (xgR n0 cc gc f = nI N ∧ gc + N ≤ 8) ∨ (pm_cmp .le (xgR n0 cc gc f) 0 = true ∧ N = 0)) (hh : pm_run PT n fr lo 89 (0, pm_l0 [.ref 0] 2, [], h, 198, sl) = some R) : R.1 = some (.int (xgR n0 cc gc f)) ∧ rG R.2.1 (.int (nI (gc + N))) := by
  obtain ⟨n, hh⟩ := rn_i rfl rfl rfl rfl hh
  obtain ⟨n, fr', lo', r1, hr1, hh⟩ := rn_call (w := 0) (t := 130) rfl rfl hh
  have hf := sf_run sQ_ok _ _ _ 130 _ r1 rfl hr1
  have hk := ak_run (by decide) sQ_ak _ _ _ 130 _ r1 rfl hr1
  have hfg := sf_run sG_ok _ _ _ 130 _ r1 rfl hr1
  have hz := sz_run sQ_ok _ _ _ 130 _ r1 rfl hr1
  have hv := xgs_run hn hc hg x xg hr1
  obtain ⟨rv, h1, s1⟩ := r1
  dsimp only at hf hk hfg hz hv
  subst hz
  subst hv
  obtain ⟨⟨fs, a1, a2, a3⟩, ⟨gs, g1, g2, g3⟩, c1, -⟩ := pX_fm hf hk x
  obtain ⟨rs, d1, d2⟩ := rG_fm hfg xg
  generalize xgR n0 cc gc f = v at *
  have hh : pm_run PT n fr lo 89 (4, [some (.ref 0), none], [.int v], h1, 198, sl) = some R := hh
  obtain ⟨n, hh⟩ := rn_i rfl rfl rfl rfl hh
  obtain ⟨n, hh⟩ := rn_i rfl rfl rfl rfl hh
  obtain ⟨n, hh⟩ := rn_gfo (g := 0) rfl rfl (by decide) a1 a2 hh
  obtain ⟨n, hh⟩ := rn_i rfl rfl rfl rfl hh
  obtain ⟨n, hh⟩ := rn_i rfl rfl rfl (pf_eq (f := 1) rfl rfl (by decide) (by decide) g1 g3) hh
  have b1 : va_up h1 1 (.inr (8, gs.set 1 (.int (Int32.ofInt 0)))) 0 = .inr (10, fs) := by simp [va_up, a1]
  have b5 : va_up h1 1 (.inr (8, gs.set 1 (.int (Int32.ofInt 0)))) 5 = .inr (3, rs) := by simp [va_up, d1]
  generalize va_up h1 1 (.inr (8, gs.set 1 (.int (Int32.ofInt 0)))) = h2 at *
  have hh : pm_run PT n fr lo 89 (13, [some (.ref 0), some (.int v)], [], h2, 198, sl) = some R := hh
  obtain ⟨n, hh⟩ := rn_i rfl rfl rfl rfl hh
  obtain ⟨n, hh⟩ := rn_if (cc := .le) (off := 20) (t := 34) rfl rfl hh
  have fin0 : ∀ n : Nat, pm_run PT n fr lo 89 (34, [some (.ref 0), some (.int v)], [], h2, 198, sl) = some R → R.1 = some (.int v) ∧ rG R.2.1 (.int (nI gc)) := by
    intro n hh
    obtain ⟨n, hh⟩ := rn_i rfl rfl rfl rfl hh
    have e := (rn_ret rfl (Or.inl rfl) hh).2
    subst e
    exact ⟨rfl, rs, b5, d2⟩
  rcases hN with ⟨e1, e2⟩ | ⟨e1, e2⟩
  · by_cases z : N = 0
    · rw [show pm_cmp .le v 0 = true by rw [e1, z]; decide] at hh
      rw [z]
      exact fin0 n hh
    · have ec : pm_cmp .le v 0 = false := by
        rw [e1]
        have := hI_le (a := N) (b := 0) (by omega) (by omega)
        rw [decide_eq_false (by omega)] at this
        exact this
      rw [ec] at hh
      rw [e1] at hh ⊢
      obtain ⟨n, hh⟩ := rn_i rfl rfl rfl rfl hh
      obtain ⟨n, hh⟩ := rn_gfo (g := 2) rfl rfl (by decide) b1 a3 hh
      obtain ⟨n, hh⟩ := rn_i rfl rfl rfl rfl hh
      obtain ⟨n, hh⟩ := rn_gfo (g := 1) rfl rfl (by decide) b5 d2 hh
      obtain ⟨n, hh⟩ := rn_i rfl rfl rfl rfl hh
      obtain ⟨n, hh⟩ := rn_i rfl rfl rfl rfl hh
      obtain ⟨n, hh⟩ := rn_i rfl rfl rfl (pf_eq (f := 1) rfl rfl (by decide) (by decide) b5 d2) hh
      have ea : nI gc + nI N = nI (gc + N) := nI_add gc N
      have hh : pm_run PT n fr lo 89 (30, [some (.ref 0), some (.int (nI N))], [], va_up h2 5 (.inr (3, rs.set 1 (.int (nI gc + nI N)))), 198, sl) = some R := hh
      rw [ea] at hh
      have rg : rG (va_up h2 5 (.inr (3, rs.set 1 (.int (nI (gc + N)))))) (.int (nI (gc + N))) := ⟨rs.set 1 (.int (nI (gc + N))), by simp [va_up], by rw [List.getElem?_set_self (List.getElem?_eq_some_iff.mp d2).1]⟩
      obtain ⟨n, hh⟩ := rn_i rfl rfl rfl rfl hh
      obtain ⟨n, fr', lo', r1, hr1, hh⟩ := rn_call (w := 0) (t := 133) rfl rfl hh
      have hf := sf_run sG_ok _ _ _ 133 _ r1 rfl hr1
      have hz := sz_run sG_ok _ _ _ 133 _ r1 rfl hr1
      have hv := vd_run rfl hr1
      obtain ⟨rv, h3, s3⟩ := r1
      dsimp only at hf hz hv
      subst hz
      subst hv
      have hh : pm_run PT n fr lo 89 (34, [some (.ref 0), some (.int (nI N))], [], h3, 198, sl) = some R := hh
      obtain ⟨n, hh⟩ := rn_i rfl rfl rfl rfl hh
      have e := (rn_ret rfl (Or.inl rfl) hh).2
      subst e
      exact ⟨rfl, rG_fm hf rg⟩
  · rw [e1] at hh
    rw [e2]
    exact fin0 n hh
theorem fO_eq2 {m at_ : Nat} {is : Bool} (hm : m ≤ 80) (ha : at_ ≤ min n0 m) : fO n0 m (min n0 m) at_ is = cond (is && decide (at_ = n0)) (Int32.ofInt 0) (Int32.ofInt (-1) - nI at_) := by
  unfold fO fO2
  by_cases z : at_ = n0
  · have ht : at_ = min n0 m := by omega
    rw [decide_eq_true z, decide_eq_true ht, if_neg (by omega)]
  · rw [decide_eq_false z, Bool.and_false]
    by_cases y : at_ = min n0 m
    · have e41 : at_ = m := by omega
      rw [if_pos ⟨by omega, Or.inr (by omega)⟩, e41, cond_false]
    · rw [decide_eq_false y, Bool.and_false, if_neg (fun q => by rcases q.2 with q | q; cases q; omega)]
theorem nbr_cong {tp : Nat → Int32} {t : Nat} (hf : ∀ j, j < t → f j = tp j) : ∀ (k a : Nat) (v : Int32), nbr f t k a v = nbr tp t k a v
  | 0, a, v => rfl
  | k + 1, a, v => by
    unfold nbr
    by_cases z : a < t
    · have e : dg f a t = dg tp a t := by unfold dg; rw [hf a z]
      rw [e, hf a z, nbr_cong hf k (a + 1)]
    · have e1 : dg f a t = false := by unfold dg; rw [decide_eq_false z]; rfl
      have e2 : dg tp a t = false := by unfold dg; rw [decide_eq_false z]; rfl
      rw [e1, e2]
      rfl
theorem dg_cong {tp : Nat → Int32} {t : Nat} (hf : ∀ j, j < t → f j = tp j) (a : Nat) : dg f a t = dg tp a t := by
  unfold dg
  by_cases z : a < t
  · rw [hf a z]
  · rw [decide_eq_false z, Bool.false_and, Bool.false_and]
theorem dgi_cong {tp : Nat → Int32} {t : Nat} {l u : Int32} (hf : ∀ j, j < t → f j = tp j) (a : Nat) : dgi f a t l u = dgi tp a t l u := by
  unfold dgi
  by_cases z : a < t
  · rw [hf a z]
  · rw [decide_eq_false z, Bool.false_and, Bool.false_and]
theorem sep_cong {tp : Nat → Int32} {t : Nat} {c : Int32} (hf : ∀ j, j < t → f j = tp j) (a : Nat) : decide (a < t ∧ f a = c) = decide (a < t ∧ tp a = c) := by
  by_cases z : a < t
  · rw [hf a z]
  · rw [decide_eq_false (fun q => z q.1), decide_eq_false (fun q => z q.1)]
theorem rgL_cong {tp : Nat → Int32} {t : Nat} (hf : ∀ j, j < t → f j = tp j) (a : Nat) : rgL f t cc a = rgL tp t cc a := by
  unfold rgL rgW rgC rgE
  rw [dgi_cong hf, dg_cong hf, nbr_cong hf 2 (a + 1) 0, sep_cong hf, dg_cong hf, dgi_cong hf]
theorem sgL_cong {tp : Nat → Int32} {t : Nat} (hf : ∀ j, j < t → f j = tp j) : ∀ (k rm a : Nat), sgL f t cc gc k rm a = sgL tp t cc gc k rm a
  | 0, rm, a => rfl
  | k + 1, rm, a => by
    unfold sgL
    rw [rgL_cong hf, sgL_cong hf k (rm + 1) ((rgL tp t cc a).2 + 1), sep_cong hf]
theorem gm_both {tp : Nat → Int32} (hn : n0 ≤ 80) (hg : gc ≤ 8) (hf : ∀ j, j < n0 → f j = tp j) : gmA tp n0 cc gc = xgR n0 cc gc f ∧ ((xgR n0 cc gc f = nI (gmN tp n0 cc gc) ∧ gc + gmN tp n0 cc gc ≤ 8) ∨ (pm_cmp .le (xgR n0 cc gc f) 0 = true ∧ gmN tp n0 cc gc = 0)) := by
  have e0 : pm_cmp .ge (Int32.ofInt 0) 0 = true := by decide
  unfold gmA gmN gmF xgR
  by_cases z : n0 = 0
  · have es : gmS tp n0 cc gc = (true, 0, 0) := by
      unfold gmS
      rw [z]
      rfl
    rw [es, if_pos z]
    dsimp only
    rw [fO_eq2 (by decide) (Nat.zero_le _), show (true && decide (0 = n0)) = true by rw [z]; rfl]
    generalize Int32.ofInt (-1) - nI 0 = y
    simp only [cond_true]
    rw [e0]
    simp only [cond_true]
    exact ⟨(by decide), Or.inl ⟨(by decide), hg⟩⟩
  · have es : gmS tp n0 cc gc = sgL tp (min n0 55) cc gc (9 - gc) 0 0 := by
      unfold gmS
      rw [nb_ne z]
      rfl
    have e2 := sgL_cong (cc := cc) (gc := gc) (t := min n0 55) (fun j hj => hf j (by omega)) (9 - gc) 0 0
    obtain ⟨b1, b3⟩ := sgL_bd (tp := tp) (cc := cc) (gc := gc) (9 - gc) 0 0 (Nat.zero_le (min n0 55))
    have b3 := b3 (by omega)
    rw [es, if_neg z, e2]
    generalize sgL tp (min n0 55) cc gc (9 - gc) 0 0 = s at *
    rw [fO_eq2 (by decide) b1]
    unfold xA
    have y1 := neg_ge (a := s.2.1) (by omega)
    have y2 := neg_le (a := s.2.1) (by omega)
    generalize Int32.ofInt (-1) - nI s.2.1 = y at *
    cases hs : (s.1 && decide (s.2.1 = n0)) with
    | true =>
      simp only [cond_true]
      rw [e0]
      simp only [cond_true]
      exact ⟨trivial, Or.inl ⟨trivial, b3⟩⟩
    | false =>
      simp only [cond_false]
      rw [y1]
      simp only [cond_false]
      exact ⟨trivial, Or.inr ⟨y2, trivial⟩⟩
end GXU
end MG95zmx0
section MG95zmx1
/-! both texts, how many COURTS, how many GIFTS: turns -/
section TR5
variable {P : pm_St → Prop} {sl bS Ln i pc n fr lo : Nat} {xs : Nat → Int32} {L : pm_L} {h h1 h2 : pm_H} {R : pm_Rs}
def RG (h : pm_H) : Prop := ∃ gc : Nat, gc ≤ 8 ∧ rG h (.int (nI gc)) ∧ mF h 4 (.int (nI gc))
theorem RG_fm (q : fm (sfF sG) h h1) (r : RG h) : RG h1 := by
  obtain ⟨gc, hg, r1, r2⟩ := r
  exact ⟨gc, hg, rG_fm q r1, fm_mF q rfl r2⟩
def REL5 (h : pm_H) : Prop := REL4 h ∧ RG h
def LI5 (h : pm_H) : Prop := mInv h ∧ REL5 h
theorem LI_4 (hI : LI5 h) : LI4 h := ⟨hI.1, hI.2.1⟩
theorem twX_LI5 (hI : LI5 h) (q : twX h h1) : LI5 h1 := by
  have h4 := twX_LI4 (LI_4 hI) q
  obtain ⟨gc, hg, ⟨rs, d1, d2⟩, ms, m1, m2⟩ := hI.2.2
  exact ⟨h4.1, h4.2, gc, hg, ⟨rs, (q.1 5 (by decide)).trans d1, d2⟩, ms, (q.1 162 (by decide)).trans m1, m2⟩
/-- what both calls do -/
def twoWP5 (sl : Nat) (h : pm_H) (kx km : Nat) (As : List Value) : Prop := pm_WP PT 2047 (84000 - (19 + pm_max PT kx)) kx (0, pm_l0 (.ref 0 :: As) (pm_max PT kx), [], h, 198, sl) (fun q => q.2.2 = (198, sl) ∧ ∃ v : Int32, q.1 = some (.int v) ∧ (∃ f2, q.2.1 162 = .inr (11, f2)) ∧ pm_WP PT 2047 (84000 - (19 + pm_max PT km)) km (0, pm_l0 (.ref 162 :: As) (pm_max PT km), [], q.2) (fun y => y.1 = some (.int v) ∧ y.2.2 = (198, sl) ∧ LI5 y.2.1))
theorem two_lift5 {kx km : Nat} {As : List Value} (q : twoWP4 sl h kx km As) (gx : sGK kx = true) (gm : sGK km = true) (r : RG h) : twoWP5 sl h kx km As := by
  refine wp_mono (wp_runs (Z := fun r => fm (sfF sG) h r.2.1) q (fun m r hh => sf_run sG_ok m _ _ _ _ r gx hh)) ?_
  rintro ⟨rv, h1, s1⟩ ⟨⟨q1, v, q2, q3, q4⟩, q5⟩
  cases q1
  dsimp only at q2 q3 q4 q5
  refine ⟨rfl, v, q2, q3, wp_mono (wp_runs (Z := fun r => fm (sfF sG) h1 r.2.1) q4 (fun m r hh => sf_run sG_ok m _ _ _ _ r gm hh)) ?_⟩
  rintro ⟨rv2, h2, s2⟩ ⟨⟨p1, p2, p3⟩, p4⟩
  exact ⟨p1, p2, p3.1, p3.2, RG_fm p4 (RG_fm q5 r)⟩
theorem sg_two5 (hI : LI5 h) (v : Int32) : twoWP5 sl h 86 178 [.int v] := two_lift5 (sg_two4 (LI_4 hI) v) rfl rfl hI.2.2
theorem en_two5 (hI : LI5 h) (v : Int32) : twoWP5 sl h 87 179 [.int v] := two_lift5 (en_two4 (LI_4 hI) v) rfl rfl hI.2.2
theorem co_two5 (hI : LI5 h) : twoWP5 sl h 88 188 [] := two_lift5 (co_two4 (LI_4 hI)) rfl rfl hI.2.2
theorem gf_two5 (hI : LI5 h) : twoWP5 sl h 89 192 [] := by
  obtain ⟨hI0, ⟨n0, cc, f, g, hn, hc, ⟨x1, x2⟩, ⟨y1, y2, y3⟩, hj⟩, gc, hg, z1, z2⟩ := hI
  obtain ⟨eA, eN⟩ := gm_both (cc := cc) hn hg hj
  have hN6 : gc + gmN g n0 cc gc ≤ 8 := by
    rcases eN with ⟨-, q⟩ | ⟨-, q⟩
    · exact q
    · omega
  have px : pX h n0 cc f := by
    obtain ⟨fs, a1, a2, a3⟩ := ty_x2 hI0.1
    exact ⟨⟨fs, a1, a2, a3⟩, x1.1, x1.2, x2⟩
  refine wp_mono (wp_runs (Z := fun r => (r.1 = some (.int (xgR n0 cc gc f)) ∧ rG r.2.1 (.int (nI (gc + gmN g n0 cc gc)))) ∧ cT r.2.1 (.int 0) ∧ rC r.2.1 (.int (nI cc))) (cxw_gifts [.ref 0] h 2047 (84000 - (19 + pm_max PT 89)) sl ⟨⟨rfl, List.mem_singleton_self _⟩, trivial⟩ hI0.1 trivial (Nat.le_of_ble_eq_true rfl) (Nat.le_of_ble_eq_true rfl)) (fun m r hh => ⟨xgf_run hn hc hg px z1 eN hh, zx_gifts (ty_x0 hI0.1) (pT_cT x1) hh, rC_runs rfl x2 hh⟩)) ?_
  rintro ⟨rv, h1, s1⟩ ⟨⟨-, q1, ⟨q2, -⟩, q3⟩, ⟨p1, p2⟩, p3, p4⟩
  cases q1
  dsimp only at p1 p2 p3 p4
  have hI1 := cx_inv hI0 q2 q3
  obtain ⟨w, hw⟩ := ty_m0 hI1.1
  obtain ⟨w16, h16⟩ := ty_mi hI1.1 16 (by decide +kernel) (by decide +kernel)
  obtain ⟨w17, h17⟩ := ty_mi hI1.1 17 (by decide +kernel) (by decide +kernel)
  obtain ⟨w18, h18⟩ := ty_mi hI1.1 18 (by decide +kernel) (by decide +kernel)
  obtain ⟨w20, h20⟩ := ty_mi hI1.1 20 (by decide +kernel) (by decide +kernel)
  obtain ⟨fr0, hB⟩ := ty_173 hI1.1
  refine ⟨rfl, _, p1, ty_162 hI1.1, ?_⟩
  refine wp_mono (wp_runs (Z := fun r => (r.1 = some (.int (gmA g n0 cc gc)) ∧ mF r.2.1 4 (.int (nI (gc + gmN g n0 cc gc)))) ∧ zT r.2.1 ∧ mF r.2.1 3 (.int (nI cc))) (hm_gifts hI1 (fr := 2047) (lo := 84000 - (19 + pm_max PT 192)) (Nat.le_of_ble_eq_true rfl) (Nat.le_of_ble_eq_true rfl)) (fun m r hh => ⟨gm_run hn hg hw (mF_hi q2 y1) h16 h17 h18 h20 (mF_hi q2 y3) (mF_hi q2 z2) (ty_m14 hI1.1) ((q2.1 172 rfl).trans y2) (ty_m19 hI1.1) hB hh, z_gifts hw (mF_hi q2 y1) hh, m3_runs rfl (mF_hi q2 y3) hh⟩)) ?_
  rintro ⟨rv2, h2, s2⟩ ⟨⟨a1, a2, a3, a4⟩, ⟨b1, b2⟩, b3, b4⟩
  dsimp only at a2 a3 a4 b1 b2 b3 b4
  cases a2
  rw [eA] at b1
  refine ⟨b1, rfl, a4, REL_0 hI1 a4 hc a3 p3 p4 b3 b4, _, hN6, ?_, b2⟩
  obtain ⟨rs, r1, r2⟩ := p2
  exact ⟨rs, (a3 5 (by decide)).trans r1, r2⟩
end TR5
end MG95zmx1
section MG95zmx2
/-! what courts and gifts do to what is kept: isNew, forgetStates -/
section KPT
variable {n fr lo sl ch rm : Nat} {h : pm_H} {R : pm_Rs}
theorem pm_rets_v {k : Nat} {S : List Value} {rv : Option Value} (hr : pm_ret PT k = none) (h : pm_rets PT k .return_ S = some rv) : rv = none := by
  unfold pm_rets at h
  split at h
  · rw [hr] at h
    cases h
    rfl
  · cases ‹Instr.return_ = _›
  · cases ‹Instr.return_ = _›
  · cases h
theorem rn_vret {n fr lo sl k pc : Nat} {L : pm_L} {h : pm_H} {R : pm_Rs} {S : List Value} (hi : pm_ins PT k pc = some (.return_, 1)) (hr : pm_ret PT k = none) (hh : pm_run PT n fr lo k (pc, L, S, h, 198, sl) = some R) : R = (none, h, 198, sl) := by
  cases n with
  | zero => cases hh
  | succ n =>
    unfold pm_run at hh
    split at hh
    · rename_i r' e1
      cases hh
      unfold pm_end at e1
      dsimp only at e1
      rw [hi] at e1
      dsimp only at e1
      split at e1
      · split at e1
        · rename_i rv er
          cases e1
          have := pm_rets_v hr er
          subst this
          rfl
        · cases e1
      · cases e1
    · split at hh
      · rename_i st' e2
        exfalso
        unfold pm_step at e2
        dsimp only at e2
        rw [hi] at e2
        dsimp only at e2
        split at e2
        · cases e2
        · cases e2
      · cases hh
def s20P (ci f : Nat) : Bool := Nat.beq ci 10
def s20K (k : Nat) : Bool := Nat.beq k 20
theorem s20_ok : sf_ok s20P s20K := sf_of (N := [20]) (fun k h => by rw [Nat.eq_of_beq_eq_true h]; decide) (by decide +kernel)
/-- nothing is kept behind forgetStates -/
theorem fs_run {fs : List Value} {v5 w7 : Value} (e0 : h 0 = .inr (10, fs)) (e5 : fs[5]? = some v5) (e7 : fs[7]? = some w7) (hh : pm_run PT n fr lo 133 (0, pm_l0 [.ref 0] 1, [], h, 198, sl) = some R) : ∃ gs, R.2.1 0 = .inr (10, gs) ∧ gs[7]? = some (.int (nI 0)) := by
  obtain ⟨n, hh⟩ := rn_i rfl rfl rfl rfl hh
  obtain ⟨n, hh⟩ := rn_gfo (g := 5) rfl rfl (by decide) e0 e5 hh
  obtain ⟨n, fr', lo', r1, hr1, hh⟩ := rn_call (w := 0) (t := 20) rfl rfl hh
  have hf := sf_run s20_ok _ _ _ 20 _ r1 rfl hr1
  have hz := sz_run s20_ok _ _ _ 20 _ r1 rfl hr1
  have hv := vd_run rfl hr1
  obtain ⟨rv, h1, s1⟩ := r1
  dsimp only at hf hz hv
  subst hz
  subst hv
  obtain ⟨gs, g0, gl, g7⟩ := hf.2 0 10 fs e0
  have g7 := (g7 7 rfl).trans e7
  have hh : pm_run PT n fr lo 133 (7, [some (.ref 0)], [], h1, 198, sl) = some R := hh
  obtain ⟨n, hh⟩ := rn_i rfl rfl rfl rfl hh
  obtain ⟨n, hh⟩ := rn_i rfl rfl rfl rfl hh
  obtain ⟨n, hh⟩ := rn_i rfl rfl rfl (pf_eq (f := 7) rfl rfl (by decide) (by decide) g0 g7) hh
  have q := rn_vret rfl rfl hh
  rw [q]
  refine ⟨gs.set 7 (.int (Int32.ofInt 0)), by simp [va_up], ?_⟩
  rw [List.getElem?_set_self (List.getElem?_eq_some_iff.mp g7).1]
  rfl
end KPT
end MG95zmx2
section MG95zmx3
/-! the class's keep and again: the bits of keptThere -/
section KPX
variable {n fr lo sl q : Nat} {h : pm_H} {R : pm_Rs} {v : Int32}
def kP (ci _ : Nat) : Bool := Nat.beq ci 10
def kK (k : Nat) : Bool := Nat.beq k 73 || Nat.beq k 20
theorem kK_in (k : Nat) (h : kK k = true) : k ∈ [73, 20] := by
  unfold kK at h
  rw [Bool.or_eq_true] at h
  rcases h with h | h
  · rw [Nat.eq_of_beq_eq_true h]; decide
  · rw [Nat.eq_of_beq_eq_true h]; decide
theorem k_ok : sf_ok kP kK := sf_of kK_in (by decide +kernel)
def kJ (j : Nat) : Bool := Nat.ble j 1
theorem k_blk1 : blk_ok kP kK kJ 125 11 24 := blk_of (by decide +kernel)
theorem k_blk2 : blk_ok kP kK kJ 126 22 42 := blk_of (by decide +kernel)
def k7 (h : pm_H) (w : Int32) : Prop := ∃ fs, h 0 = .inr (10, fs) ∧ fs[7]? = some (.int w)
theorem k7_fm {h' : pm_H} {w : Int32} (q : fm (sfF kP) h h') (x : k7 h w) : k7 h' w := by
  obtain ⟨fs, e1, e2⟩ := x
  obtain ⟨fs', a1, -, a2⟩ := q.2 0 10 fs e1
  exact ⟨fs', a1, (a2 7 rfl).trans e2⟩
theorem kx_run {w : Int32} (x : k7 h w) (hh : pm_run PT n fr lo 125 (0, pm_l0 [.ref 0, .int v] 2, [], h, 198, sl) = some R) : cond (decide (0 ≤ v.toInt ∧ v.toInt ≤ 2)) (k7 R.2.1 (w ||| (Int32.ofInt 1 <<< (v &&& 31)))) (R.2.1 = h) := by
  have no : ∀ n : Nat, ¬ (0 ≤ v.toInt ∧ v.toInt ≤ 2) → pm_run PT n fr lo 125 (9, [some (.ref 0), some (.int v)], [], h, 198, sl) = some R → cond (decide (0 ≤ v.toInt ∧ v.toInt ≤ 2)) (k7 R.2.1 (w ||| (Int32.ofInt 1 <<< (v &&& 31)))) (R.2.1 = h) := by
    intro n z hh
    obtain ⟨n, hh⟩ := rn_i rfl rfl rfl rfl hh
    have e := (rn_ret rfl (Or.inr rfl) hh).2
    rw [decide_eq_false z, e]
    rfl
  obtain ⟨n, hh⟩ := rn_i rfl rfl rfl rfl hh
  obtain ⟨n, hh⟩ := rn_if (cc := .lt) (off := 8) (t := 9) rfl rfl hh
  have el : pm_cmp .lt v 0 = decide (v.toInt < 0) := by
    simp only [pm_cmp]
    rw [Bool.eq_iff_iff, decide_eq_true_iff, decide_eq_true_iff, Int32.lt_iff_toInt_lt, show (0 : Int32).toInt = 0 by decide]
  rw [el] at hh
  by_cases z : v.toInt < 0
  · rw [decide_eq_true z] at hh
    exact no n (by omega) hh
  · rw [decide_eq_false z] at hh
    obtain ⟨n, hh⟩ := rn_i rfl rfl rfl rfl hh
    obtain ⟨n, hh⟩ := rn_i rfl rfl rfl rfl hh
    obtain ⟨n, hh⟩ := rn_icmp (cc := .lt) (off := 5) (t := 11) rfl rfl hh
    have eg : pm_cmp .lt v (Int32.ofInt 3) = decide (v.toInt < 3) := by
      simp only [pm_cmp]
      rw [Bool.eq_iff_iff, decide_eq_true_iff, decide_eq_true_iff, Int32.lt_iff_toInt_lt, show (Int32.ofInt 3).toInt = 3 by decide]
    rw [eg] at hh
    by_cases y : v.toInt < 3
    · rw [decide_eq_true y] at hh
      rw [decide_eq_true (by omega)]
      have hh : pm_run PT n fr lo 125 (11, [some (.ref 0), some (.int v)], [], h, 198, sl) = some R := hh
      obtain ⟨n, L', S', h', hh, hl, hf⟩ := blk_run k_ok k_blk1 n fr lo _ R (Nat.le_of_ble_eq_true rfl) (Nat.le_of_ble_eq_true rfl) hh
      dsimp only at hl hf hh
      have g0 := hl 0 (.ref 0) rfl rfl rfl
      have g1 := hl 1 (.int v) rfl rfl rfl
      obtain ⟨fs, e0, e7⟩ := k7_fm hf x
      have hh : pm_run PT n fr lo 125 (24, L', S', h', 198, sl) = some R := hh
      obtain ⟨n, hh⟩ := rn_aln rfl g0 rfl hh
      obtain ⟨n, hh⟩ := rn_i rfl rfl rfl rfl hh
      obtain ⟨n, hh⟩ := rn_gfo (g := 7) rfl rfl (by decide) e0 e7 hh
      obtain ⟨n, hh⟩ := rn_i rfl rfl rfl rfl hh
      obtain ⟨n, hh⟩ := rn_iln rfl g1 rfl hh
      obtain ⟨n, hh⟩ := rn_i rfl rfl rfl rfl hh
      obtain ⟨n, hh⟩ := rn_i rfl rfl rfl rfl hh
      obtain ⟨n, hh⟩ := rn_i rfl rfl rfl (pf_eq (f := 7) rfl rfl (by decide) (by decide) e0 e7) hh
      obtain ⟨n, hh⟩ := rn_i rfl rfl rfl rfl hh
      have e := (rn_ret rfl (Or.inr rfl) hh).2
      rw [e]
      refine ⟨fs.set 7 (.int (w ||| (Int32.ofInt 1 <<< (v &&& 31)))), by simp [va_up], ?_⟩
      rw [List.getElem?_set_self (List.getElem?_eq_some_iff.mp e7).1]
    · rw [decide_eq_false y] at hh
      exact no n (by omega) hh
/-- is it kept under v, by the bits -/
def kbit (w v : Int32) : Bool := decide (0 ≤ v.toInt ∧ v.toInt ≤ 2) && decide (¬ ((w >>> (v &&& 31)) &&& Int32.ofInt 1) = 0)
theorem ka_run {w : Int32} (x : k7 h w) (hh : pm_run PT n fr lo 126 (0, pm_l0 [.ref 0, .int v] 2, [], h, 198, sl) = some R) : R.1 = some (.int (cond (kbit w v) 1 0)) ∧ k7 R.2.1 w := by
  have no : ∀ n : Nat, kbit w v = false → pm_run PT n fr lo 126 (20, [some (.ref 0), some (.int v)], [], h, 198, sl) = some R → R.1 = some (.int (cond (kbit w v) 1 0)) ∧ k7 R.2.1 w := by
    intro n z hh
    obtain ⟨n, hh⟩ := rn_i rfl rfl rfl rfl hh
    have e := (rn_ret rfl (Or.inr rfl) hh).2
    rw [z, e]
    exact ⟨rfl, x⟩
  obtain ⟨n, hh⟩ := rn_i rfl rfl rfl rfl hh
  obtain ⟨n, hh⟩ := rn_if (cc := .lt) (off := 19) (t := 20) rfl rfl hh
  have el : pm_cmp .lt v 0 = decide (v.toInt < 0) := by
    simp only [pm_cmp]
    rw [Bool.eq_iff_iff, decide_eq_true_iff, decide_eq_true_iff, Int32.lt_iff_toInt_lt, show (0 : Int32).toInt = 0 by decide]
  rw [el] at hh
  by_cases z : v.toInt < 0
  · rw [decide_eq_true z] at hh
    exact no n (by unfold kbit; rw [decide_eq_false (show ¬ (0 ≤ v.toInt ∧ v.toInt ≤ 2) by omega)]; rfl) hh
  · rw [decide_eq_false z] at hh
    obtain ⟨n, hh⟩ := rn_i rfl rfl rfl rfl hh
    obtain ⟨n, hh⟩ := rn_i rfl rfl rfl rfl hh
    obtain ⟨n, hh⟩ := rn_icmp (cc := .ge) (off := 14) (t := 20) rfl rfl hh
    have eg : pm_cmp .ge v (Int32.ofInt 3) = decide (3 ≤ v.toInt) := by
      simp only [pm_cmp]
      rw [Bool.eq_iff_iff, decide_eq_true_iff, decide_eq_true_iff, Int32.le_iff_toInt_le, show (Int32.ofInt 3).toInt = 3 by decide]
    rw [eg] at hh
    by_cases y : 3 ≤ v.toInt
    · rw [decide_eq_true y] at hh
      exact no n (by unfold kbit; rw [decide_eq_false (show ¬ (0 ≤ v.toInt ∧ v.toInt ≤ 2) by omega)]; rfl) hh
    · rw [decide_eq_false y] at hh
      obtain ⟨fs, e0, e7⟩ := id x
      obtain ⟨n, hh⟩ := rn_i rfl rfl rfl rfl hh
      obtain ⟨n, hh⟩ := rn_gfo (g := 7) rfl rfl (by decide) e0 e7 hh
      obtain ⟨n, hh⟩ := rn_i rfl rfl rfl rfl hh
      obtain ⟨n, hh⟩ := rn_i rfl rfl rfl rfl hh
      obtain ⟨n, hh⟩ := rn_i rfl rfl rfl rfl hh
      obtain ⟨n, hh⟩ := rn_i rfl rfl rfl rfl hh
      obtain ⟨n, hh⟩ := rn_if (cc := .ne) (off := 5) (t := 22) rfl rfl hh
      have hh : pm_run PT n fr lo 126 (cond (decide (¬ ((w >>> (v &&& 31)) &&& Int32.ofInt 1) = 0)) 22 20, [some (.ref 0), some (.int v)], [], h, 198, sl) = some R := hh
      have kb : kbit w v = decide (¬ ((w >>> (v &&& 31)) &&& Int32.ofInt 1) = 0) := by
        unfold kbit
        rw [decide_eq_true (show 0 ≤ v.toInt ∧ v.toInt ≤ 2 by omega), Bool.true_and]
      rw [← kb] at hh
      cases u : kbit w v with
      | false =>
        rw [u] at hh
        have q := no n u hh
        rw [u] at q
        exact q
      | true =>
        rw [u] at hh
        have hh : pm_run PT n fr lo 126 (22, [some (.ref 0), some (.int v)], [], h, 198, sl) = some R := hh
        obtain ⟨n, L', S', h', hh, hl, hf⟩ := blk_run k_ok k_blk2 n fr lo _ R (Nat.le_of_ble_eq_true rfl) (Nat.le_of_ble_eq_true rfl) hh
        dsimp only at hl hf hh
        have hh : pm_run PT n fr lo 126 (42, L', S', h', 198, sl) = some R := hh
        obtain ⟨n, hh⟩ := rn_i rfl rfl rfl rfl hh
        have e := (rn_ret rfl (Or.inr rfl) hh).2
        rw [e]
        exact ⟨rfl, k7_fm hf x⟩
end KPX
end MG95zmx3
