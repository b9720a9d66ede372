/-! both texts, how many COURTS and GIFTS, what is KEPT: the relation, by runs -/
section RLK
variable {sl n fr lo kx km k : Nat} {h h1 h2 : pm_H} {R : pm_Rs} {vs : List Int32} {v w x : Int32}
theorem two_get (q : twoWP5 sl h kx km (vs.map Value.int)) (pr : prun sl kx km vs h h1 h2 v w) : v = w ∧ LI5 h2 := by
  obtain ⟨⟨m, r1⟩, -, ⟨m2, r2⟩, -⟩ := pr
  obtain ⟨-, v', q2, -, q4⟩ := rn_det q r1
  dsimp only at q2 q4
  obtain ⟨p1, -, p3⟩ := rn_det q4 r2
  dsimp only at p1 p3
  cases q2
  cases p1
  exact ⟨rfl, p3⟩
theorem rel5_x (sx : sQK kx = true) (gx : sGK kx = true) {st : pm_St} (es : st.2.2.2.1 = h) {m f l : Nat} (r1 : pm_run PT m f l kx st = some R) (f1 : fm cxF h R.2.1) (r : REL5 h) : REL5 R.2.1 := by
  subst es
  exact ⟨REL_x f1 ⟨sf_run sQ_ok m _ _ _ _ _ sx r1, ak_run (by decide) sQ_ak m _ _ _ _ _ sx r1⟩ r.1, RG_fm (sf_run sG_ok m _ _ _ _ _ gx r1) r.2⟩
theorem rel5_m (sm : sMK km = true) (gm : sGK km = true) (i1 : mInv h1) {mx m f l : Nat} (r2 : pm_run PT m f l km (0, pm_l0 (.ref 162 :: vs.map Value.int) mx, [], h1, 198, sl) = some R) (lo : ∀ i, i < 162 → R.2.1 i = h1 i) (r : REL5 h1) : REL5 R.2.1 := ⟨REL_m lo (m_keeps sm i1 (nrS_ints vs) r2) r.1, RG_fm (sf_run sG_ok m _ _ _ _ _ gm r2) r.2⟩
theorem rel5_R (sx : sQK kx = true) (sm : sMK km = true) (gx : sGK kx = true) (gm : sGK km = true) (pr : prun sl kx km vs h h1 h2 v w) (r : REL5 h) : REL5 h2 := by
  obtain ⟨⟨m, r1⟩, ⟨f1, i1⟩, ⟨m2, r2⟩, lo, i2⟩ := pr
  exact rel5_m sm gm i1 r2 lo (rel5_x sx gx rfl r1 f1 r)
theorem rel5_Z (sx : sCK kx = true) (sm : sCK km = true) (gx : sGK kx = true) (gm : sGK km = true) (pr : prun sl kx km vs h h1 h2 v w) (c0 : cT h1 (.int 0)) (z0 : zT h2) (r : REL5 h) : REL5 h2 := by
  obtain ⟨⟨m, r1⟩, ⟨f1, i1⟩, ⟨m2, r2⟩, lo, i2⟩ := pr
  obtain ⟨⟨n0, cc, f, g, hn, hcc, ⟨x1, x2⟩, ⟨y1, y2, y3⟩, hj⟩, rg⟩ := r
  have a1 := rC_runs sx x2 r1
  have a2 := m3_runs sm (mF_hi f1 y3) r2
  have a3 := sf_run sG_ok m _ _ _ _ _ gx r1
  have a4 := sf_run sG_ok m2 _ _ _ _ _ gm r2
  dsimp only at a1 a2 a3 a4
  exact ⟨REL_0 i1 i2 hcc lo c0 a1 z0 a2, RG_fm a4 (RG_fm a3 rg)⟩
def RK (h : pm_H) : Prop := ∃ (q ch cc gc : Nat) (b c : Nat → Int32), (q < 8 ∧ k7 h (nI q)) ∧ (mF h 5 (.int (nI ch)) ∧ mF h 3 (.int (nI cc)) ∧ mF h 4 (.int (nI gc)) ∧ ch ≤ cc + gc ∧ cc ≤ 6 ∧ gc ≤ 8) ∧ (h 194 = .inl (3, 3, .inl b) ∧ h 195 = .inl (0, 3, .inl c)) ∧ ∀ i, i < 3 → (∃ m, m ≤ ch ∧ c i = nI m) ∧ kbit (nI q) (nI i) = (!decide (b i = 0) && decide (c i = nI ch))
theorem k7_fmK {u : Int32} (q : fm (sfF sK) h h1) (x : k7 h u) : k7 h1 u := by
  obtain ⟨fs, e1, e2⟩ := x
  obtain ⟨fs', a1, -, a2⟩ := q.2 0 10 fs e1
  exact ⟨fs', a1, (a2 7 rfl).trans e2⟩
theorem k7_lo {u : Int32} (q : ∀ i, i < 162 → h1 i = h i) (x : k7 h u) : k7 h1 u := by
  obtain ⟨fs, e1, e2⟩ := x
  exact ⟨fs, (q 0 (by decide)).trans e1, e2⟩
theorem RK_eq (q : ∀ i, i ≠ 197 → h1 i = h i) (r : RK h) : RK h1 := by
  have mm : ∀ g u, mF h g u → mF h1 g u := fun g u ⟨fs, e1, e2⟩ => ⟨fs, (q 162 (by decide)).trans e1, e2⟩
  obtain ⟨p, ch, cc, gc, b, c, ⟨q8, fs, k1, k2⟩, ⟨m5, m3, m4, hb⟩, ⟨c4, c5⟩, hj⟩ := r
  exact ⟨p, ch, cc, gc, b, c, ⟨q8, fs, (q 0 (by decide)).trans k1, k2⟩, ⟨mm _ _ m5, mm _ _ m3, mm _ _ m4, hb⟩, ⟨(q 194 (by decide)).trans c4, (q 195 (by decide)).trans c5⟩, hj⟩
theorem rk_x (tx : sKK kx = true) {st : pm_St} (es : st.2.2.2.1 = h) {m f l : Nat} (r1 : pm_run PT m f l kx st = some R) (f1 : fm cxF h R.2.1) (r : RK h) : RK R.2.1 := by
  subst es
  obtain ⟨q, ch, cc, gc, b, c, ⟨q8, k⟩, ⟨m5, m3, m4, hb⟩, ⟨c4, c5⟩, hj⟩ := r
  have a1 := sf_run sK_ok m _ _ _ _ _ tx r1
  exact ⟨q, ch, cc, gc, b, c, ⟨q8, k7_fmK a1 k⟩, ⟨mF_hi f1 m5, mF_hi f1 m3, mF_hi f1 m4, hb⟩, ⟨(f1.1 194 rfl).trans c4, (f1.1 195 rfl).trans c5⟩, hj⟩
theorem nr2_run (nm : nKK km = true) (i1 : mInv h1) {mx m f l : Nat} (r2 : pm_run PT m f l km (0, pm_l0 (.ref 162 :: vs.map Value.int) mx, [], h1, 198, sl) = some R) : R.2.1 194 = h1 194 ∧ R.2.1 195 = h1 195 := by
  have b2 := (nr_run nK_nr nK_sf m f l km _ R nm (Nat.le_refl _) ⟨nrL_l0 (nrS_ints2 vs), fun v hv => absurd hv (by simp), nrH_ty2 i1.1⟩ r2).2
  exact ⟨b2 194 rfl, b2 195 rfl⟩
theorem rk_m (tm : sKK km = true) (nm : nKK km = true) (i1 : mInv h1) {mx m f l : Nat} (r2 : pm_run PT m f l km (0, pm_l0 (.ref 162 :: vs.map Value.int) mx, [], h1, 198, sl) = some R) (lo : ∀ i, i < 162 → R.2.1 i = h1 i) (r : RK h1) : RK R.2.1 := by
  obtain ⟨q, ch, cc, gc, b, c, ⟨q8, k⟩, ⟨m5, m3, m4, hb⟩, ⟨c4, c5⟩, hj⟩ := r
  have b1 := sf_run sK_ok m _ _ _ _ _ tm r2
  obtain ⟨b2, b3⟩ := nr2_run nm i1 r2
  exact ⟨q, ch, cc, gc, b, c, ⟨q8, k7_lo lo k⟩, ⟨fm_mF b1 rfl m5, fm_mF b1 rfl m3, fm_mF b1 rfl m4, hb⟩, ⟨b2.trans c4, b3.trans c5⟩, hj⟩
theorem rk_R (tx : sKK kx = true) (tm : sKK km = true) (nm : nKK km = true) (pr : prun sl kx km vs h h1 h2 v w) (r : RK h) : RK h2 := by
  obtain ⟨⟨m, r1⟩, ⟨f1, i1⟩, ⟨m2, r2⟩, lo, i2⟩ := pr
  exact rk_m tm nm i1 r2 lo (rk_x tx rfl r1 f1 r)
/-! keep and again -/
theorem kf_set : ∀ q, q < 8 → ∀ i, i < 3 → nI q ||| (Int32.ofInt 1 <<< (nI i &&& 31)) = nI (q ||| (1 <<< i)) ∧ (q ||| (1 <<< i)) < 8 := by decide +kernel
theorem kf_bit : ∀ q, q < 8 → ∀ i, i < 3 → ∀ j, j < 3 → kbit (nI (q ||| (1 <<< i))) (nI j) = (decide (j = i) || kbit (nI q) (nI j)) := by decide +kernel
theorem kf_0 : ∀ i, i < 3 → kbit (nI 0) (nI i) = false := by decide +kernel
theorem nI_rg {i : Nat} (hi : i < 3) : decide (0 ≤ (nI i).toInt ∧ (nI i).toInt ≤ 2) = true := by
  have e : (nI i).toInt = (i : Int) := nI_toInt (by omega)
  rw [e]
  exact decide_eq_true (by omega)
theorem rkp_keep (pr : prun sl 125 264 [x] h h1 h2 v w) (r : RK h) : RK h2 := by
  obtain ⟨⟨m, r1⟩, ⟨f1, i1⟩, ⟨m2, r2⟩, lo, i2⟩ := pr
  obtain ⟨q, ch, cc, gc, b, c, ⟨q8, k⟩, ⟨m5, m3, m4, hb⟩, ⟨c4, c5⟩, hj⟩ := r
  have kx := kx_run k r1
  dsimp only at kx
  have g5 := mF_hi f1 m5
  have g3 := mF_hi f1 m3
  have g4 := mF_hi f1 m4
  have hB := (f1.1 194 rfl).trans c4
  have hC := (f1.1 195 rfl).trans c5
  have b1 := sf_run sK_ok m2 _ _ _ _ _ rfl r2
  dsimp only at b1
  obtain ⟨hh, hq⟩ := id i1
  obtain ⟨x0, h0, -⟩ := ty_fld hh (g := 0) rfl
  have h12 := ty_ref hh (g := 12) (p := 170) rfl
  have h52 := ty_ref hh (g := 52) (p := 194) rfl
  have h53 := ty_ref hh (g := 53) (p := 195) rfl
  have h54 := ty_ref hh (g := 54) (p := 196) rfl
  obtain ⟨f, hN, -⟩ := ty_arrE hh (i := 170) (by decide) rfl
  obtain ⟨-, -, -, ⟨g, hK, -⟩⟩ := id hq
  have d := rn_dt (F := 10) (Lo := 1000) (hd_keep (fr := 10) (lo := 1000) (sl := sl) x h0 g5 h52 h53 h54 h12 hN hK hB hC (by omega) (by omega)) r2
  rcases d with ⟨e, d⟩ | ⟨i, gk, hi, rfl, d, -⟩
  · have d2 : h2 = mset h1 0 (.int 0) := congrArg (fun z => z.2.1) d
    rw [in2_b] at e
    rw [e] at kx
    have kx : h1 = h := kx
    refine ⟨q, ch, cc, gc, b, c, ⟨q8, k7_lo lo (by rw [kx]; exact k)⟩, ⟨fm_mF b1 rfl g5, fm_mF b1 rfl g3, fm_mF b1 rfl g4, hb⟩, ⟨?_, ?_⟩, hj⟩
    · rw [d2, mset_ne (by decide)]; exact hB
    · rw [d2, mset_ne (by decide)]; exact hC
  · have d2 : h2 = aset (aset (zset (mset h1 0 (.int 0)) 194 3 (upd b i 1)) 195 3 (upd c i (nI ch))) 196 288 gk := congrArg (fun z => z.2.1) d
    rw [nI_rg hi] at kx
    have kx : k7 h1 (nI q ||| (Int32.ofInt 1 <<< (nI i &&& 31))) := kx
    rw [(kf_set q q8 i hi).1] at kx
    refine ⟨q ||| (1 <<< i), ch, cc, gc, upd b i 1, upd c i (nI ch), ⟨(kf_set q q8 i hi).2, k7_lo lo kx⟩, ⟨fm_mF b1 rfl g5, fm_mF b1 rfl g3, fm_mF b1 rfl g4, hb⟩, ⟨?_, ?_⟩, fun j hj3 => ?_⟩
    · rw [d2, aset_nei (by decide), aset_nei (by decide), zset_self]
    · rw [d2, aset_nei (by decide), aset_self]
    · obtain ⟨⟨m0, hm0, em0⟩, hbit⟩ := hj j hj3
      rw [kf_bit q q8 i hi j hj3]
      by_cases z : j = i
      · have u1 : upd b i 1 j = 1 := by unfold upd; rw [if_pos z]
        have u2 : upd c i (nI ch) j = nI ch := by unfold upd; rw [if_pos z]
        rw [u1, u2, decide_eq_true z, decide_eq_true (rfl : nI ch = nI ch)]
        exact ⟨⟨ch, Nat.le_refl _, rfl⟩, by rw [Bool.true_or]; decide⟩
      · have u1 : upd b i 1 j = b j := by unfold upd; rw [if_neg z]
        have u2 : upd c i (nI ch) j = c j := by unfold upd; rw [if_neg z]
        rw [u1, u2, decide_eq_false z, Bool.false_or]
        exact ⟨⟨m0, hm0, em0⟩, hbit⟩
theorem ag_both (pr : prun sl 126 265 [x] h h1 h2 v w) (r : RK h) : v = w ∧ RK h2 := by
  obtain ⟨⟨m, r1⟩, ⟨f1, i1⟩, ⟨m2, r2⟩, lo, i2⟩ := pr
  obtain ⟨q, ch, cc, gc, b, c, ⟨q8, k⟩, ⟨m5, m3, m4, hb⟩, ⟨c4, c5⟩, hj⟩ := r
  obtain ⟨ex, kx⟩ := ka_run k r1
  dsimp only at ex kx
  have g5 := mF_hi f1 m5
  have g3 := mF_hi f1 m3
  have g4 := mF_hi f1 m4
  have hB := (f1.1 194 rfl).trans c4
  have hC := (f1.1 195 rfl).trans c5
  have b1 := sf_run sK_ok m2 _ _ _ _ _ rfl r2
  dsimp only at b1
  obtain ⟨hh, hq⟩ := id i1
  obtain ⟨x0, h0, -⟩ := ty_fld hh (g := 0) rfl
  obtain ⟨x27, h27, -⟩ := ty_fld hh (g := 27) rfl
  have h12 := ty_ref hh (g := 12) (p := 170) rfl
  have h52 := ty_ref hh (g := 52) (p := 194) rfl
  have h53 := ty_ref hh (g := 53) (p := 195) rfl
  have h54 := ty_ref hh (g := 54) (p := 196) rfl
  obtain ⟨g, hN, -⟩ := ty_arrE hh (i := 170) (by decide) rfl
  obtain ⟨-, -, -, ⟨f, hK, -⟩⟩ := id hq
  obtain ⟨d1, d2, d3⟩ := rn_dt (F := 10) (Lo := 1000) (hd_agx (fr := 10) (lo := 1000) (sl := sl) x h0 g5 h27 h52 h53 h54 h12 hN hK hB hC (by omega) (by omega)) r2
  dsimp only at d1 d2 d3
  refine ⟨?_, q, ch, cc, gc, b, c, ⟨q8, k7_lo lo kx⟩, ⟨fm_mF b1 rfl g5, fm_mF b1 rfl g3, fm_mF b1 rfl g4, hb⟩, ⟨d2.trans hB, d3.trans hC⟩, hj⟩
  have eb : kbit (nI q) x = agB b c (nI ch) x := by
    cases hin : in_b x.toInt64 0 2 with
    | false =>
      have e2 := hin
      rw [in2_b] at e2
      unfold agB kbit
      rw [hin, e2, Bool.false_and, Bool.false_and]
    | true =>
      obtain ⟨i, hi, rfl⟩ := in3 x hin
      rw [(hj i hi).2]
      unfold agB
      rw [hin, Bool.true_and, nI_clamp (by omega)]
  rw [eb] at ex
  have e1 : v = cond (agB b c (nI ch) x) 1 0 := by
    have := Option.some.inj ex
    cases this
    rfl
  have e2 : w = cond (agB b c (nI ch) x) 1 0 := by
    have := Option.some.inj d1
    cases this
    rfl
  rw [e1, e2]
/-! courts and gifts -/
theorem rk_new {q ch cc gc cc' gc' : Nat} {b c : Nat → Int32} {u : Int32} (q8 : q < 8) (hj : ∀ i, i < 3 → (∃ m, m ≤ ch ∧ c i = nI m) ∧ kbit (nI q) (nI i) = (!decide (b i = 0) && decide (c i = nI ch))) (hb : ch ≤ cc + gc ∧ cc ≤ 6 ∧ gc ≤ 8) (hN : pm_cmp .le u 0 = false → cc + gc + 1 ≤ cc' + gc') (hM : cc + gc ≤ cc' + gc') (hb' : cc' ≤ 6 ∧ gc' ≤ 8) (kx : k7 h2 (cond (pm_cmp .le u 0) (nI q) 0)) (m5 : mF h2 5 (.int (nI ch + cond (pm_cmp .le u 0) 0 1))) (m3 : mF h2 3 (.int (nI cc'))) (m4 : mF h2 4 (.int (nI gc'))) (c4 : h2 194 = .inl (3, 3, .inl b)) (c5 : h2 195 = .inl (0, 3, .inl c)) : RK h2 := by
  cases z : pm_cmp .le u 0 with
  | true =>
    rw [z] at kx m5
    have m5 : mF h2 5 (.int (nI ch + 0)) := m5
    rw [show nI ch + 0 = nI ch from Int32.add_zero _] at m5
    exact ⟨q, ch, cc', gc', b, c, ⟨q8, kx⟩, ⟨m5, m3, m4, by omega, hb'.1, hb'.2⟩, ⟨c4, c5⟩, hj⟩
  | false =>
    rw [z] at kx m5
    have kx : k7 h2 (nI 0) := kx
    have m5 : mF h2 5 (.int (nI ch + 1)) := m5
    rw [nI_1] at m5
    have := hN z
    refine ⟨0, ch + 1, cc', gc', b, c, ⟨by decide, kx⟩, ⟨m5, m3, m4, by omega, hb'.1, hb'.2⟩, ⟨c4, c5⟩, fun i hi => ?_⟩
    obtain ⟨⟨m, hm, em⟩, -⟩ := hj i hi
    refine ⟨⟨m, by omega, em⟩, ?_⟩
    have ne : ¬ nI m = nI (ch + 1) := by
      intro e
      have := congrArg Int32.toInt e
      rw [nI_toInt (by omega), nI_toInt (by omega)] at this
      omega
    rw [kf_0 i hi, em, decide_eq_false ne, Bool.and_false]
theorem pos_N {A : Int32} {N : Nat} (hA : A = nI N ∨ pm_cmp .le A 0 = true) (z : pm_cmp .le A 0 = false) : 1 ≤ N := by
  rcases hA with rfl | e
  · rcases Nat.eq_zero_or_pos N with rfl | p
    · exact absurd (show pm_cmp .le (nI 0) 0 = true by decide) (by rw [z]; decide)
    · exact p
  · rw [e] at z
    cases z
theorem mF_ij {g a b : Nat} (ha : a < 100) (hb : b < 100) (m : mF h g (.int (nI a))) (y : mF h g (.int (nI b))) : a = b := by
  obtain ⟨fs, a1, a2⟩ := m
  obtain ⟨fs', a1', a2'⟩ := y
  rw [a1] at a1'
  cases a1'
  rw [a2] at a2'
  have e := congrArg Int32.toInt (Value.int.inj (Option.some.inj a2'))
  rw [nI_toInt (by omega), nI_toInt (by omega)] at e
  omega
/-- how many courts there are behind courts, and what it answered -/
theorem co_cnt {cc : Nat} (hcc : cc ≤ 6) (pr : prun sl 88 188 [] h h1 h2 v w) (hI : LI5 h) (m3 : mF h 3 (.int (nI cc))) : v = w ∧ ∃ N, cc + N ≤ 6 ∧ mF h2 3 (.int (nI (cc + N))) ∧ (w = nI N ∨ pm_cmp .le w 0 = true ∧ N = 0) := by
  have hv := (two_get (vs := []) (co_two5 hI) pr).1
  refine ⟨hv, ?_⟩
  obtain ⟨-, ⟨f1, i1⟩, ⟨m2, r2⟩, -⟩ := pr
  obtain ⟨hI0, ⟨n0, cc0, f, g, hn, hc, ⟨x1, x2⟩, ⟨y1, y2, y3⟩, hjj⟩, -⟩ := hI
  have ecc := mF_ij (by omega) (by omega) y3 m3
  subst ecc
  obtain ⟨eA, eN⟩ := cm_both hn hc hjj
  obtain ⟨w0, hw⟩ := ty_m0 i1.1
  obtain ⟨w16, h16⟩ := ty_mi i1.1 16 (by decide +kernel) (by decide +kernel)
  obtain ⟨w17, h17⟩ := ty_mi i1.1 17 (by decide +kernel) (by decide +kernel)
  obtain ⟨w18, h18⟩ := ty_mi i1.1 18 (by decide +kernel) (by decide +kernel)
  obtain ⟨w20, h20⟩ := ty_mi i1.1 20 (by decide +kernel) (by decide +kernel)
  obtain ⟨fr0, hB⟩ := ty_173 i1.1
  obtain ⟨s1, s2⟩ := cm_run hn hc hw (mF_hi f1 y1) h16 h17 h18 h20 (mF_hi f1 y3) (ty_m14 i1.1) ((f1.1 172 rfl).trans y2) (ty_m19 i1.1) hB r2
  dsimp only at s1 s2
  have s1 := Value.int.inj (Option.some.inj s1)
  rw [eA] at s1
  rw [s1]
  refine ⟨cmN g n0 cc0, ?_, s2, ?_⟩
  · rcases eN with ⟨-, e⟩ | ⟨-, e⟩
    · exact e
    · omega
  · rcases eN with ⟨e, -⟩ | e
    · exact Or.inl e
    · exact Or.inr e
theorem gf_cnt {gc : Nat} (hgc : gc ≤ 8) (pr : prun sl 89 192 [] h h1 h2 v w) (hI : LI5 h) (m4 : mF h 4 (.int (nI gc))) : v = w ∧ ∃ N, gc + N ≤ 8 ∧ mF h2 4 (.int (nI (gc + N))) ∧ (w = nI N ∨ pm_cmp .le w 0 = true ∧ N = 0) := by
  have hv := (two_get (vs := []) (gf_two5 hI) pr).1
  refine ⟨hv, ?_⟩
  obtain ⟨-, ⟨f1, i1⟩, ⟨m2, r2⟩, -⟩ := pr
  obtain ⟨hI0, ⟨n0, cc0, f, g, hn, hc, ⟨x1, x2⟩, ⟨y1, y2, y3⟩, hjj⟩, gc0, hg, z1, z2⟩ := hI
  have egc := mF_ij (by omega) (by omega) z2 m4
  subst egc
  obtain ⟨eA, eN⟩ := gm_both (cc := cc0) hn hg hjj
  obtain ⟨w0, hw⟩ := ty_m0 i1.1
  obtain ⟨w16, h16⟩ := ty_mi i1.1 16 (by decide +kernel) (by decide +kernel)
  obtain ⟨w17, h17⟩ := ty_mi i1.1 17 (by decide +kernel) (by decide +kernel)
  obtain ⟨w18, h18⟩ := ty_mi i1.1 18 (by decide +kernel) (by decide +kernel)
  obtain ⟨w20, h20⟩ := ty_mi i1.1 20 (by decide +kernel) (by decide +kernel)
  obtain ⟨fr0, hB⟩ := ty_173 i1.1
  obtain ⟨s1, s2⟩ := gm_run hn hg hw (mF_hi f1 y1) h16 h17 h18 h20 (mF_hi f1 y3) (mF_hi f1 z2) (ty_m14 i1.1) ((f1.1 172 rfl).trans y2) (ty_m19 i1.1) hB r2
  dsimp only at s1 s2
  have s1 := Value.int.inj (Option.some.inj s1)
  rw [eA] at s1
  rw [s1]
  refine ⟨gmN g n0 cc0 gc0, ?_, s2, ?_⟩
  · rcases eN with ⟨-, e⟩ | ⟨-, e⟩
    · exact e
    · omega
  · rcases eN with ⟨e, -⟩ | e
    · exact Or.inl e
    · exact Or.inr e
theorem rk_courts (pr : prun sl 88 188 [] h h1 h2 v w) (hI : LI5 h) (r : RK h) : RK h2 := by
  obtain ⟨q, ch, cc, gc, b, c, ⟨q8, k⟩, ⟨m5, m3, m4, hb⟩, ⟨c4, c5⟩, hj⟩ := r
  obtain ⟨hv, N, hN, m3', hA⟩ := co_cnt hb.2.1 pr hI m3
  obtain ⟨⟨m, r1⟩, ⟨f1, i1⟩, ⟨m2, r2⟩, lo, i2⟩ := pr
  obtain ⟨u, eu, kx⟩ := xk_88 k r1
  dsimp only at eu kx
  cases eu
  obtain ⟨w20, h20⟩ := ty_mi i1.1 20 (by decide +kernel) (by decide +kernel)
  obtain ⟨u2, eu2, k5⟩ := ck_188 (mF_hi f1 m5) h20 r2
  dsimp only at eu2 k5
  cases eu2
  subst hv
  obtain ⟨b2, b3⟩ := nr2_run (vs := []) rfl i1 r2
  have b4 := fm_mF (sf_run sG_ok m2 _ _ _ _ _ rfl r2) rfl (mF_hi f1 m4)
  dsimp only at b2 b3 b4
  refine rk_new q8 hj hb (cc' := cc + N) (gc' := gc) (fun z => ?_) (by omega) ⟨hN, hb.2.2⟩ (k7_lo lo kx) k5 m3' b4 (b2.trans ((f1.1 194 rfl).trans c4)) (b3.trans ((f1.1 195 rfl).trans c5))
  have := pos_N (N := N) (hA.elim (fun e => Or.inl e) (fun e => Or.inr e.1)) z
  omega
theorem rk_gifts (pr : prun sl 89 192 [] h h1 h2 v w) (hI : LI5 h) (r : RK h) : RK h2 := by
  obtain ⟨q, ch, cc, gc, b, c, ⟨q8, k⟩, ⟨m5, m3, m4, hb⟩, ⟨c4, c5⟩, hj⟩ := r
  obtain ⟨hv, N, hN, m4', hA⟩ := gf_cnt hb.2.2 pr hI m4
  obtain ⟨⟨m, r1⟩, ⟨f1, i1⟩, ⟨m2, r2⟩, lo, i2⟩ := pr
  obtain ⟨u, eu, kx⟩ := xk_89 k r1
  dsimp only at eu kx
  cases eu
  obtain ⟨w20, h20⟩ := ty_mi i1.1 20 (by decide +kernel) (by decide +kernel)
  obtain ⟨u2, eu2, k5⟩ := ck_192 (mF_hi f1 m5) h20 r2
  dsimp only at eu2 k5
  cases eu2
  subst hv
  obtain ⟨b2, b3⟩ := nr2_run (vs := []) rfl i1 r2
  have b4 := m3_runs (show sCK 192 = true from rfl) (mF_hi f1 m3) r2
  dsimp only at b2 b3 b4
  refine rk_new q8 hj hb (cc' := cc) (gc' := gc + N) (fun z => ?_) (by omega) ⟨hb.2.1, hN⟩ (k7_lo lo kx) k5 b4 m4' (b2.trans ((f1.1 194 rfl).trans c4)) (b3.trans ((f1.1 195 rfl).trans c5))
  have := pos_N (N := N) (hA.elim (fun e => Or.inl e) (fun e => Or.inr e.1)) z
  omega
end RLK
/-! the relation of p42 and every call -/
section RLT
variable {sl kx km : Nat} {h h1 h2 : pm_H} {R : pm_Rs} {vs : List Int32} {v w x : Int32}
def REL6 (h : pm_H) : Prop := REL5 h ∧ RK h
def LI6 (h : pm_H) : Prop := mInv h ∧ REL6 h
theorem LI_5 (hI : LI6 h) : LI5 h := ⟨hI.1, hI.2.1⟩
theorem twX_LI6 (hI : LI6 h) (q : twX h h1) : LI6 h1 := by
  have h5 := twX_LI5 (LI_5 hI) q
  exact ⟨h5.1, h5.2, RK_eq q.1 hI.2.2⟩
theorem rel_w6 (sm : sMK km = true) (gm : sGK km = true) (tm : sKK km = true) (nm : nKK km = true) (i1 : mInv h1) (vs : List Int32) {mx m f l : Nat} (r2 : pm_run PT m f l km (0, pm_l0 (.ref 162 :: vs.map Value.int) mx, [], h1, 198, sl) = some R) (lo : ∀ i, i < 162 → R.2.1 i = h1 i) (r : REL6 h1) : REL6 R.2.1 := ⟨rel5_m sm gm i1 r2 lo r.1, rk_m tm nm i1 r2 lo r.2⟩
theorem rel_R6 (sx : sQK kx = true) (sm : sMK km = true) (gx : sGK kx = true) (gm : sGK km = true) (tx : sKK kx = true) (tm : sKK km = true) (nm : nKK km = true) (pr : prun sl kx km vs h h1 h2 v w) (hI : LI6 h) : REL6 h2 := ⟨rel5_R sx sm gx gm pr hI.2.1, rk_R tx tm nm pr hI.2.2⟩
theorem LI5_cT (hI : LI5 h) : ∃ c : Nat, cT h (.int (nI c)) := by
  obtain ⟨-, ⟨n0, cc, f, g, -, -, ⟨x1, -⟩, -⟩, -⟩ := hI
  exact ⟨n0, pT_cT x1⟩
theorem rel_sign6 (pr : prun sl 86 178 [x] h h1 h2 v w) (hI : LI6 h) : REL6 h2 := ⟨(two_get (vs := [x]) (sg_two5 (LI_5 hI) x) pr).2.2, rk_R rfl rfl rfl pr hI.2.2⟩
theorem rel_end6 (pr : prun sl 87 179 [x] h h1 h2 v w) (hI : LI6 h) : REL6 h2 := ⟨(two_get (vs := [x]) (en_two5 (LI_5 hI) x) pr).2.2, rk_R rfl rfl rfl pr hI.2.2⟩
theorem rel_courts6 (pr : prun sl 88 188 [] h h1 h2 v w) (hI : LI6 h) : REL6 h2 := ⟨(two_get (vs := []) (co_two5 (LI_5 hI)) pr).2.2, rk_courts pr (LI_5 hI) hI.2.2⟩
theorem rel_gifts6 (pr : prun sl 89 192 [] h h1 h2 v w) (hI : LI6 h) : REL6 h2 := ⟨(two_get (vs := []) (gf_two5 (LI_5 hI)) pr).2.2, rk_gifts pr (LI_5 hI) hI.2.2⟩
theorem rel_rule6 (pr : prun sl 90 198 [] h h1 h2 v w) (hI : LI6 h) : REL6 h2 := by
  refine ⟨?_, rk_R rfl rfl rfl pr hI.2.2⟩
  obtain ⟨c, hc⟩ := LI5_cT (LI_5 hI)
  obtain ⟨⟨m, r1⟩, ⟨f1, i1⟩, ⟨m2, r2⟩, -⟩ := id pr
  exact rel5_Z rfl rfl rfl rfl pr (zx_rule (ty_x0 hI.1.1) (ty_x9 hI.1.1).choose_spec hc r1) (z_rule (ty_m0 i1.1).choose_spec (ty_m15 i1.1).choose_spec r2) hI.2.1
theorem rel_year6 (pr : prun sl 100 228 [] h h1 h2 v w) (hI : LI6 h) : REL6 h2 := by
  refine ⟨?_, rk_R rfl rfl rfl pr hI.2.2⟩
  obtain ⟨⟨m, r1⟩, ⟨f1, i1⟩, ⟨m2, r2⟩, -⟩ := id pr
  exact rel5_Z rfl rfl rfl rfl pr (zx_year hI.1 r1) (z_year (ty_m0 i1.1).choose_spec (ty_m15 i1.1).choose_spec r2) hI.2.1
theorem rel_law6 (pr : prun sl 122 258 [] h h1 h2 v w) (hI : LI6 h) : REL6 h2 := by
  refine ⟨?_, rk_R rfl rfl rfl pr hI.2.2⟩
  obtain ⟨c, hc⟩ := LI5_cT (LI_5 hI)
  obtain ⟨⟨m, r1⟩, ⟨f1, i1⟩, ⟨m2, r2⟩, -⟩ := id pr
  exact rel5_Z rfl rfl rfl rfl pr (zx_law (ty_x0 hI.1.1) (ty_x9 hI.1.1).choose_spec hc r1) (z_law (ty_m0 i1.1).choose_spec (ty_m15 i1.1).choose_spec r2) hI.2.1
theorem rel_keep6 (pr : prun sl 125 264 [x] h h1 h2 v w) (hI : LI6 h) : REL6 h2 := ⟨rel5_R rfl rfl rfl rfl pr hI.2.1, rkp_keep pr hI.2.2⟩
theorem rel_again6 (pr : prun sl 126 265 [x] h h1 h2 v w) (hI : LI6 h) : v = w ∧ REL6 h2 := ⟨(ag_both pr hI.2.2).1, rel5_R rfl rfl rfl rfl pr hI.2.1, (ag_both pr hI.2.2).2⟩
end RLT
