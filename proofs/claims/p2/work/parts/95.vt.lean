/-! turns that keep both lengths of THE TEXT alike -/
section TXP
variable {P : pm_St → Prop} {sl bS Ln i pc : Nat} {xs : Nat → Int32} {L : pm_L} {h h1 : pm_H}
/-- one turn: two calls, their answers thrown away, the relation kept -/
theorem op_pairR (H : lc_Cl 198 sl bS Ln xs P) {n kx km pe : Nat} (hc : lc_twp pc n kx km pe = true) (hL : lc_L bS i L) (hb : i + 1 + n ≤ Ln) (hI : LI h) {c : con} (hx : con_ok PT bB 198 cxF cxQ c) (ek : c.1 = kx) (ec : cx_int c n = true) {A : Option Value → Prop} (hA : ∀ v, A v → ∃ x : Int32, v = some (.int x)) (hm : ∀ h1, mInv h1 → pm_WP PT 2047 (84000 - (19 + pm_max PT km)) km (0, pm_l0 (.ref 162 :: (lc_vals xs i n 1).map Value.int) (pm_max PT km), [], h1, 198, sl) (mPost A h1 sl)) (sx : sfK kx = true) (sm : sfK km = true) (kk : ∀ h2, LI h2 → P (pe, L, [], h2, 198, sl)) : P (pc, L, [], h, 198, sl) := by
  subst ek
  unfold cx_int at ec
  simp only [Bool.and_eq_true] at ec
  obtain ⟨e1, e2, e3, e4, e5, e6, e7, e8⟩ := ec
  have e1 := of_decide_eq_true e1
  have e2 := of_decide_eq_true e2
  have e4 := of_decide_eq_true e4
  have e5 := Nat.le_of_ble_eq_true e5
  have e6 := Nat.le_of_ble_eq_true e6
  have e8 := Nat.le_of_ble_eq_true e8
  have e7 : c.2.2.2.2.2.2.2 = false := by simpa using e7
  obtain ⟨f1, o1⟩ := ty_0 hI.1.1
  have hlen := lc_vals_len xs i n 1
  refine lc_twp_ok H hc hL hb (by decide) o1 (wp_mono (sf_wp sfK_ok sx (hx (.ref 0 :: (lc_vals xs i n 1).map Value.int) h 2047 (84000 - (19 + pm_max PT c.1)) sl ?_ ?_ trivial e5 (by omega))) ?_)
  · rw [e1]
    refine ⟨⟨rfl, List.mem_singleton_self _⟩, ?_⟩
    have := as_top (lc_vals xs i n 1)
    rw [hlen] at this
    exact this
  · rw [e2]; exact hI.1.1
  · rintro ⟨rv, h1, s1⟩ ⟨⟨⟨a, ha, hv⟩, q1, ⟨q2, -⟩, q3⟩, q4⟩
    rw [e7, e4] at q3
    dsimp only [cond] at hv q1 q2 q3 q4
    cases q1
    have hI1 := cx_inv hI.1 q2 q3
    refine ⟨rfl, ?_, ty_162 hI1.1, wp_mono (sf_wp sfK_ok sm (hm h1 hI1)) ?_⟩
    · have ea := List.all_eq_true.mp e3 a ha
      cases a with
      | none => cases ea
      | some b =>
        cases rv with
        | none => exact hv.elim
        | some v =>
          obtain ⟨x, rfl, -⟩ := av_int (Nat.eq_of_beq_eq_true ea) hv
          exact ⟨x, rfl⟩
    · rintro ⟨rv2, h2, s2⟩ ⟨⟨p1, p2, p3, p4⟩, p5⟩
      dsimp only at p1 p2 p4 p5
      cases p2
      exact ⟨hA _ p1, rfl, kk h2 ⟨p4, REL_fm p5 (REL_fm q4 hI.2)⟩⟩
/-- both calls, from a count on, answer the same and count the same -/
theorem ho_pair {kx km : Nat} {bs : List av} {c c' : Nat} {a : Int} (e : ho_chk kx km bs c c' a = true) (hc : c ≤ 80) (hc' : c' ≤ 80) {As : List Value} (hAs : as_ok As bs) (hI : mInv h) (r1 : cT h (.int (nI c))) (r2 : mF h 15 (.int (nI c))) (lx : 1500 ≤ 84000 - (19 + pm_max PT kx)) (lm : 1500 ≤ 84000 - (19 + pm_max PT km)) :
    pm_WP PT 2047 (84000 - (19 + pm_max PT kx)) kx (0, pm_l0 (.ref 0 :: As) (pm_max PT kx), [], h, 198, sl) (fun q => q.2.2 = (198, sl) ∧ ∃ v : Int32, q.1 = some (.int v) ∧ (∃ f2, q.2.1 162 = .inr (11, f2)) ∧ pm_WP PT 2047 (84000 - (19 + pm_max PT km)) km (0, pm_l0 (.ref 162 :: As) (pm_max PT km), [], q.2) (fun y => y.1 = some (.int v) ∧ y.2.2 = (198, sl) ∧ LI y.2.1)) := by
  unfold ho_chk at e
  rw [Bool.and_eq_true] at e
  have hx : con_ok PT bB 198 cxF cxQ (hoT kx bs c c' a) := con_chk_ok (fun _ _ h => h) cxpp (kl_ok (fun _ h => by cases h)) nw_class (fun h => by cases h) e.1
  have hm : con_ok PT bB 198 rxF rxQ (hoM km bs c c' a) := con_chk_ok rxle rxpp (kl_ok (fun _ h => by cases h)) nw_class (fun h => by cases h) e.2
  have cI : (nI c).toInt = (c : Int) := nI_toInt (by omega)
  obtain ⟨fs, g1, g2⟩ := r1
  refine wp_mono (hx (.ref 0 :: As) h 2047 (84000 - (19 + pm_max PT kx)) sl ⟨⟨rfl, List.mem_singleton_self _⟩, hAs⟩ (ovf_in hI.1 (by decide) asT_eq g1 g2 ⟨rfl, by rw [cI]; exact Int.le_refl _, by rw [cI]; exact Int.le_refl _⟩) trivial (Nat.le_of_ble_eq_true rfl) lx) ?_
  rintro ⟨rv, h1, s1⟩ ⟨⟨b, hb, hv⟩, q1, ⟨q2, -⟩, q3⟩
  cases q1
  cases List.mem_singleton.mp hb
  obtain ⟨t1, fs1, w1, k1, k2, k3⟩ := ovf_out q3 (by decide) (by decide) asT_eq asT_1 (by
    unfold av_le
    rw [Bool.and_eq_true]
    exact ⟨rfl, by show (decide ((0 : Int) ≤ (c' : Int)) && decide ((c' : Int) ≤ 80)) = true; rw [Bool.and_eq_true]; exact ⟨decide_eq_true (by omega), decide_eq_true (by omega)⟩⟩)
  have hI1 := cx_inv hI q2 t1
  obtain ⟨y, rfl, y1, y2⟩ := ao_i hv
  obtain ⟨gs, m1, m2⟩ := r2
  have m1' : h1 162 = .inr (11, gs) := (q2.1 162 rfl).trans m1
  refine ⟨rfl, y, rfl, ⟨gs, m1'⟩, ?_⟩
  refine wp_mono (hm (.ref 162 :: As) h1 2047 (84000 - (19 + pm_max PT km)) sl ⟨⟨rfl, List.mem_singleton_self _⟩, hAs⟩ (ovf_in hI1.1 (by decide) asM_eq m1' m2 ⟨rfl, by rw [cI]; exact Int.le_refl _, by rw [cI]; exact Int.le_refl _⟩) hI1.2 (Nat.le_of_ble_eq_true rfl) lm) ?_
  rintro ⟨rv2, h2, s2⟩ ⟨⟨b2, hb2, hv2⟩, p1, ⟨p2, p4⟩, p3⟩
  cases p1
  cases List.mem_singleton.mp hb2
  obtain ⟨t2, fs2, w2, j1, j2, j3⟩ := ovf_out p3 (by decide) (by decide) asM_eq asM_15 (by
    unfold av_le
    rw [Bool.and_eq_true]
    exact ⟨rfl, by show (decide ((0 : Int) ≤ (c' : Int)) && decide ((c' : Int) ≤ 80)) = true; rw [Bool.and_eq_true]; exact ⟨decide_eq_true (by omega), decide_eq_true (by omega)⟩⟩)
  obtain ⟨z, rfl, z1, z2⟩ := ao_i hv2
  have ez : y = z := Int32.toInt_inj.1 (by omega)
  subst ez
  refine ⟨rfl, rfl, ⟨t2, p4⟩, c', hc', ⟨fs1, (p2.1 1 rfl).trans k1, ?_⟩, fs2, j1, ?_⟩
  · obtain ⟨u, rfl, u1, u2⟩ := av_int rfl k3
    rw [← nIof hc' u1 u2]
    exact k2
  · obtain ⟨u, rfl, u1, u2⟩ := av_int rfl j3
    rw [← nIof hc' u1 u2]
    exact j2
/-- what both calls do -/
def twoWP (sl : Nat) (h : pm_H) (kx km : Nat) (As : List Value) : Prop := pm_WP PT 2047 (84000 - (19 + pm_max PT kx)) kx (0, pm_l0 (.ref 0 :: As) (pm_max PT kx), [], h, 198, sl) (fun q => q.2.2 = (198, sl) ∧ ∃ v : Int32, q.1 = some (.int v) ∧ (∃ f2, q.2.1 162 = .inr (11, f2)) ∧ pm_WP PT 2047 (84000 - (19 + pm_max PT km)) km (0, pm_l0 (.ref 162 :: As) (pm_max PT km), [], q.2) (fun y => y.1 = some (.int v) ∧ y.2.2 = (198, sl) ∧ LI y.2.1))
theorem si_two (hI : LI h) (x : Int32) : twoWP sl h 86 178 [.int x] := by
  obtain ⟨hI0, c, hc, r1, r2⟩ := hI
  have e := List.all_eq_true.mp si_all c (List.mem_range.mpr (by omega))
  refine ho_pair e hc ?_ ⟨ai_top_ok x, trivial⟩ hI0 r1 r2 (Nat.le_of_ble_eq_true rfl) (Nat.le_of_ble_eq_true rfl)
  unfold si_c
  cases ho : Nat.ble c 76 with
  | false => exact hc
  | true =>
    have := Nat.le_of_ble_eq_true ho
    show c + 4 ≤ 80
    omega
/-- such a turn, its answers thrown away -/
theorem two_pop (H : lc_Cl 198 sl bS Ln xs P) {n kx km pe : Nat} (hc : lc_twp pc n kx km pe = true) (hL : lc_L bS i L) (hb : i + 1 + n ≤ Ln) (hI : LI h) (q : twoWP sl h kx km ((lc_vals xs i n 1).map Value.int)) (kk : ∀ h2, LI h2 → P (pe, L, [], h2, 198, sl)) : P (pc, L, [], h, 198, sl) := by
  obtain ⟨f1, o1⟩ := ty_0 hI.1.1
  refine lc_twp_ok H hc hL hb (by decide) o1 (wp_mono q ?_)
  rintro ⟨rv, h1, s1⟩ ⟨q1, v, q2, q3, q4⟩
  cases q1
  refine ⟨rfl, ⟨v, q2⟩, q3, wp_mono q4 ?_⟩
  rintro ⟨rv2, h2, s2⟩ ⟨p1, p2, p3⟩
  cases p2
  exact ⟨⟨v, p1⟩, rfl, kk h2 p3⟩
/-! end, by hand -/
theorem in_bc (x : Int32) {c : Nat} (hc : c ≤ 80) : in_b x.toInt64 0 (nI c).toInt64 = decide (0 ≤ x.toInt ∧ x.toInt ≤ (c : Int)) := by
  unfold in_b
  have n1 : (0 : Int64).toInt = 0 := by decide
  have n2 : (nI c).toInt64.toInt = (c : Int) := by rw [Int32.toInt_toInt64, nI_toInt (by omega)]
  have e1 : decide (x.toInt64 < 0) = decide (x.toInt < 0) := by
    rw [Bool.eq_iff_iff, decide_eq_true_iff, decide_eq_true_iff, Int64.lt_iff_toInt_lt, Int32.toInt_toInt64, n1]
  have e2 : decide ((nI c).toInt64 < x.toInt64) = decide ((c : Int) < x.toInt) := by
    rw [Bool.eq_iff_iff, decide_eq_true_iff, decide_eq_true_iff, Int64.lt_iff_toInt_lt, n2, Int32.toInt_toInt64]
  rw [e1, e2, Bool.eq_iff_iff, Bool.and_eq_true, decide_eq_true_iff, Bool.not_eq_true', Bool.not_eq_true', decide_eq_false_iff_not, decide_eq_false_iff_not]
  omega
/-- the class's end: what it answers, what the length is then -/
theorem en_x {fr lo : Nat} {fs : List Value} {c : Nat} (hc : c ≤ 80) (h0 : x0 h) (r1 : cT h (.int (nI c))) (y : Int32) : pm_WP PT fr lo 87 (0, pm_l0 [.ref 0, .int y] 2, [], h, 198, sl) (fun q => q.1 = some (.int (cond (decide (0 ≤ y.toInt ∧ y.toInt ≤ (c : Int))) 1 0)) ∧ cT q.2.1 (.int (cond (decide (0 ≤ y.toInt ∧ y.toInt ≤ (c : Int))) y (nI c)))) := by
  have cI : (nI c).toInt = (c : Int) := nI_toInt (by omega)
  have z0 : (0 : Int32).toInt = 0 := by decide
  obtain ⟨f0, e0, e0'⟩ := h0
  obtain ⟨gs, g1, g2, g3⟩ := cT_up (v := .int y) r1
  refine wp_i rfl rfl rfl rfl ?_
  refine wp_if (c := .lt) (off := 14) (t := 15) rfl rfl (fun q => ?_) (fun q => ?_)
  · have q := of_decide_eq_true q
    rw [Int32.lt_iff_toInt_lt, z0] at q
    rw [decide_eq_false (by omega)]
    refine wp_i rfl rfl rfl rfl ?_
    exact wp_zret rfl rfl (Or.inl rfl) ⟨rfl, gs, g1, g2⟩
  · have q := of_decide_eq_false q
    rw [Int32.lt_iff_toInt_lt, z0] at q
    refine wp_i rfl rfl rfl rfl ?_
    refine wp_i rfl rfl rfl rfl ?_
    refine wp_i rfl rfl rfl (gf_eq (f := 0) rfl (by decide) e0 e0') ?_
    refine wp_i rfl rfl rfl (gf_eq (f := 1) rfl (by decide) g1 g2) ?_
    refine wp_icmp (c := .le) (off := 5) (t := 17) rfl rfl (fun q2 => ?_) (fun q2 => ?_)
    · have q2 := of_decide_eq_true q2
      rw [Int32.le_iff_toInt_le, cI] at q2
      rw [decide_eq_true (by omega)]
      refine wp_i rfl rfl rfl rfl ?_
      refine wp_i rfl rfl rfl (gf_eq (f := 0) rfl (by decide) e0 e0') ?_
      refine wp_i rfl rfl rfl rfl ?_
      refine wp_i rfl rfl rfl (pf_eq (f := 1) rfl rfl (by decide) (by decide) g1 g2) ?_
      refine wp_i rfl rfl rfl rfl ?_
      exact wp_zret rfl rfl (Or.inr rfl) ⟨rfl, g3⟩
    · have q2 := of_decide_eq_false q2
      rw [Int32.le_iff_toInt_le, cI] at q2
      rw [decide_eq_false (by omega)]
      refine wp_i rfl rfl rfl rfl ?_
      exact wp_zret rfl rfl (Or.inl rfl) ⟨rfl, gs, g1, g2⟩
theorem en_m {fr lo : Nat} {c : Nat} {w : Int32} (hc : c ≤ 80) (h0 : mF h 0 (.int w)) (r2 : mF h 15 (.int (nI c))) (y : Int32) (hf : 1 ≤ fr) (hl : 100 ≤ lo) : pm_WP PT fr lo 179 (0, pm_l0 [.ref 162, .int y] 2, [], h, 198, sl) (fun q => q.1 = some (.int (cond (decide (0 ≤ y.toInt ∧ y.toInt ≤ (c : Int))) 1 0)) ∧ mF q.2.1 15 (.int (cond (decide (0 ≤ y.toInt ∧ y.toInt ≤ (c : Int))) y (nI c)))) := by
  have r3 : mF (mset h 0 (.int (Int32.ofInt 0))) 15 (.int (nI c)) := mF_ne (by decide) r2
  refine wp_i rfl rfl rfl rfl ?_
  refine wp_i rfl rfl rfl rfl ?_
  refine wp_pfm (w := .int w) rfl rfl rfl (by decide) h0 ?_
  refine wp_i rfl rfl rfl rfl ?_
  refine wp_i rfl rfl rfl rfl ?_
  refine wp_i rfl rfl rfl rfl ?_
  refine wp_i rfl rfl rfl rfl ?_
  refine wp_gfm rfl rfl r3 ?_
  refine wp_i rfl rfl rfl rfl ?_
  refine wp_callS (t := 163) (As := [.long (y).toInt64, .long 0, .long ((nI c)).toInt64]) (rest := []) (mx := 6) rfl rfl rfl rfl (Nat.le_of_ble_eq_true rfl) (Nat.le_of_ble_eq_true rfl) hf (by omega) (wp_mono (hd_in y.toInt64 0 (nI c).toInt64) ?_)
  rintro _ rfl
  rw [in_bc y hc]
  show pm_WP PT fr lo 179 (16, [some (.ref 162), some (.int y)], [.int (cond (decide (0 ≤ y.toInt ∧ y.toInt ≤ (c : Int))) 1 0)], mset h 0 (.int (Int32.ofInt 0)), 198, sl) _
  cases decide (0 ≤ y.toInt ∧ y.toInt ≤ (c : Int)) with
  | true =>
    refine wp_if (c := .ne) (off := 5) (t := 21) rfl rfl (fun q => ?_) (fun q => by cases q)
    refine wp_i rfl rfl rfl rfl ?_
    refine wp_i rfl rfl rfl rfl ?_
    refine wp_pfm (w := .int (nI c)) rfl rfl rfl (by decide) r3 ?_
    refine wp_i rfl rfl rfl rfl ?_
    exact wp_zret rfl rfl (Or.inr rfl) ⟨rfl, mF_self r3⟩
  | false =>
    refine wp_if (c := .ne) (off := 5) (t := 21) rfl rfl (fun q => by cases q) (fun q => ?_)
    refine wp_i rfl rfl rfl rfl ?_
    exact wp_zret rfl rfl (Or.inl rfl) ⟨rfl, r3⟩
def asX0 : List av := match bB 0 with
  | .inr (_, as) => as
  | _ => []
def asM0 : av := asM.getD 0 (0, 0, 0)
theorem ty_x0 (hh : ah_ok bB 198 [] h) : x0 h := by
  have h0 := hh 0 (by decide)
  obtain ⟨fs, ef, hl, hg⟩ := aE_obj (ci := 10) (as := asX0) h0 (by decide)
  have hlf : 0 < fs.length := by rw [hl]; exact Nat.le_of_ble_eq_true rfl
  have ev : fs[0]? = some fs[0] := List.getElem?_eq_getElem hlf
  have hv := hg 0 _ (2, 1, 1) ev rfl
  have hr : fs[0] = .ref 1 := by
    cases e : fs[0] with
    | ref p =>
      rw [e] at hv
      have := hv.2
      rw [show p = 1 from List.mem_singleton.mp this]
    | null => rw [e] at hv; exact absurd (show (2 : Nat) = 3 from hv) (by decide)
    | _ => rw [e] at hv; first | exact hv.elim | (cases hv.1)
  exact ⟨fs, ef, by rw [ev, hr]⟩
theorem ty_x9 (hh : ah_ok bB 198 [] h) : ∃ q fs, h 0 = .inr (10, fs) ∧ fs[9]? = some q := by
  have h0 := hh 0 (by decide)
  obtain ⟨fs, ef, hl, hg⟩ := aE_obj (ci := 10) (as := asX0) h0 (by decide)
  have hlf : 9 < fs.length := by rw [hl]; exact Nat.le_of_ble_eq_true rfl
  exact ⟨fs[9], fs, ef, List.getElem?_eq_getElem hlf⟩
theorem ty_m0 (hh : ah_ok bB 198 [] h) : ∃ w : Int32, mF h 0 (.int w) := by
  obtain ⟨v, m, a⟩ := ob_fld (o := []) hh asM_eq (g := 0) (a := asM0) rfl
  obtain ⟨x, rfl, -⟩ := av_int rfl a
  exact ⟨x, m⟩
theorem en_two (hI : LI h) (y : Int32) : twoWP sl h 87 179 [.int y] := by
  obtain ⟨hI0, c, hc, r1, r2⟩ := hI
  refine wp_mono (wp_det (cxw_end [.ref 0, .int y] h 2047 (84000 - (19 + pm_max PT 87)) sl ⟨⟨rfl, List.mem_singleton_self _⟩, ai_top_ok _, trivial⟩ hI0.1 trivial (Nat.le_of_ble_eq_true rfl) (Nat.le_of_ble_eq_true rfl)) (en_x (fs := []) hc (ty_x0 hI0.1) r1 y)) ?_
  rintro ⟨rv, h1, s1⟩ ⟨⟨-, q1, ⟨q2, -⟩, q3⟩, p1, p2⟩
  cases q1
  dsimp only at p1 p2
  have hI1 := cx_inv hI0 q2 q3
  obtain ⟨w, hw⟩ := ty_m0 hI1.1
  have r2' : mF h1 15 (.int (nI c)) := by
    obtain ⟨gs, m1, m2⟩ := r2
    exact ⟨gs, (q2.1 162 rfl).trans m1, m2⟩
  refine ⟨rfl, _, p1, ty_162 hI1.1, ?_⟩
  refine wp_mono (wp_det (hm_end hI1 y (fr := 2047) (lo := 84000 - (19 + pm_max PT 179)) (Nat.le_of_ble_eq_true rfl) (Nat.le_of_ble_eq_true rfl)) (en_m hc hw r2' y (Nat.le_of_ble_eq_true rfl) (Nat.le_of_ble_eq_true rfl))) ?_
  rintro ⟨rv2, h2, s2⟩ ⟨⟨a1, a2, a3, a4⟩, b1, b2⟩
  dsimp only at a2 a3 a4 b1 b2
  cases a2
  refine ⟨b1, rfl, a4, ?_⟩
  have p2' : cT h2 (.int (cond (decide (0 ≤ y.toInt ∧ y.toInt ≤ (c : Int))) y (nI c))) := by
    obtain ⟨gs, m1, m2⟩ := p2
    exact ⟨gs, (a3 1 (by decide)).trans m1, m2⟩
  cases hd : decide (0 ≤ y.toInt ∧ y.toInt ≤ (c : Int)) with
  | false =>
    rw [hd] at p2' b2
    exact ⟨c, hc, p2', b2⟩
  | true =>
    rw [hd] at p2' b2
    have hd := of_decide_eq_true hd
    obtain ⟨j, rfl, hj, ej⟩ := hI_of (show 0 ≤ y.toInt by omega)
    exact ⟨j, by omega, p2', b2⟩
theorem ty_m15 (hh : ah_ok bB 198 [] h) : ∃ w : Int32, mF h 15 (.int w) := by
  obtain ⟨v, m, a⟩ := ob_fld (o := []) hh asM_eq (g := 15) (a := (0, 0, 80)) asM_15
  obtain ⟨x, rfl, -⟩ := av_int rfl a
  exact ⟨x, m⟩
theorem LI_cT (hI : LI h) : ∃ c : Nat, cT h (.int (nI c)) := by
  obtain ⟨-, c, -, r, -⟩ := hI
  exact ⟨c, r⟩
theorem zx_year {n : Nat} {R : pm_Rs} (hI : mInv h) (hh : pm_run PT n 2047 (84000 - (19 + pm_max PT 100)) 100 (0, pm_l0 [.ref 0] (pm_max PT 100), [], h, 198, sl) = some R) : cT R.2.1 (.int 0) := by
  obtain ⟨-, -, -, q⟩ := rn_det (zw_year [.ref 0] h 2047 (84000 - (19 + pm_max PT 100)) sl ⟨⟨rfl, List.mem_singleton_self _⟩, trivial⟩ hI.1 trivial (Nat.le_of_ble_eq_true rfl) (Nat.le_of_ble_eq_true rfl)) hh
  obtain ⟨-, fs, v, k1, k2, k3⟩ := ovf_out q (by decide) (by decide) asT_eq asT_1 (by decide)
  obtain ⟨u, rfl, u1, u2⟩ := av_int rfl k3
  have u1 : (0 : Int) ≤ u.toInt := u1
  have u2 : u.toInt ≤ 0 := u2
  have : u = 0 := Int32.toInt_inj.1 (by rw [show (0 : Int32).toInt = 0 by decide]; omega)
  subst this
  exact ⟨fs, k1, k2⟩
/-- a turn of two calls that read THE TEXT: it is empty behind both -/
theorem op_pairZ (H : lc_Cl 198 sl bS Ln xs P) {kx km pe : Nat} (hc : lc_twp pc 0 kx km pe = true) (hL : lc_L bS i L) (hb : i + 1 + 0 ≤ Ln) (hI : LI h) {c : con} (hx : con_ok PT bB 198 cxF cxQ c) (ek : c.1 = kx) (ec : cx_int c 0 = true) (hm : ∀ h1, mInv h1 → pm_WP PT 2047 (84000 - (19 + pm_max PT km)) km (0, pm_l0 [.ref 162] (pm_max PT km), [], h1, 198, sl) (mPost anInt h1 sl))
    (zx : ∀ n r, pm_run PT n 2047 (84000 - (19 + pm_max PT kx)) kx (0, pm_l0 [.ref 0] (pm_max PT kx), [], h, 198, sl) = some r → cT r.2.1 (.int 0)) (zm : ∀ h1, mInv h1 → ∀ n r, pm_run PT n 2047 (84000 - (19 + pm_max PT km)) km (0, pm_l0 [.ref 162] (pm_max PT km), [], h1, 198, sl) = some r → zT r.2.1) (kk : ∀ h2, LI h2 → P (pe, L, [], h2, 198, sl)) : P (pc, L, [], h, 198, sl) := by
  subst ek
  unfold cx_int at ec
  simp only [Bool.and_eq_true] at ec
  obtain ⟨e1, e2, e3, e4, e5, e6, e7, e8⟩ := ec
  have e1 := of_decide_eq_true e1
  have e2 := of_decide_eq_true e2
  have e4 := of_decide_eq_true e4
  have e5 := Nat.le_of_ble_eq_true e5
  have e6 := Nat.le_of_ble_eq_true e6
  have e8 := Nat.le_of_ble_eq_true e8
  have e7 : c.2.2.2.2.2.2.2 = false := by simpa using e7
  obtain ⟨f1, o1⟩ := ty_0 hI.1.1
  refine lc_twp_ok H hc hL hb (by decide) o1 (wp_mono (wp_runs (hx [.ref 0] h 2047 (84000 - (19 + pm_max PT c.1)) sl ?_ ?_ trivial e5 (by omega)) zx) ?_)
  · rw [e1]
    exact ⟨⟨rfl, List.mem_singleton_self _⟩, trivial⟩
  · rw [e2]; exact hI.1.1
  · rintro ⟨rv, h1, s1⟩ ⟨⟨⟨a, ha, hv⟩, q1, ⟨q2, -⟩, q3⟩, q4⟩
    rw [e7, e4] at q3
    dsimp only [cond] at hv q1 q2 q3 q4
    cases q1
    have hI1 := cx_inv hI.1 q2 q3
    refine ⟨rfl, ?_, ty_162 hI1.1, wp_mono (wp_runs (hm h1 hI1) (zm h1 hI1)) ?_⟩
    · have ea := List.all_eq_true.mp e3 a ha
      cases a with
      | none => cases ea
      | some b =>
        cases rv with
        | none => exact hv.elim
        | some v =>
          obtain ⟨x, rfl, -⟩ := av_int (Nat.eq_of_beq_eq_true ea) hv
          exact ⟨x, rfl⟩
    · rintro ⟨rv2, h2, s2⟩ ⟨⟨p1, p2, p3, p4⟩, p5⟩
      dsimp only at p1 p2 p3 p4 p5
      cases p2
      obtain ⟨gs, g1, g2⟩ := q4
      exact ⟨p1, rfl, kk h2 ⟨p4, 0, by decide, ⟨gs, (p3 1 (by decide)).trans g1, g2⟩, p5⟩⟩
end TXP
