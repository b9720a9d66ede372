/-! sign, end, courts and the other readers of THE TEXT: their turns -/
section TU4
variable {P : pm_St → Prop} {sl bS Ln i pc n fr lo : Nat} {xs : Nat → Int32} {L : pm_L} {h h1 h2 : pm_H} {R : pm_Rs}
theorem pT_ty {m : Nat} {f : Nat → Int32} (hh : ah_ok bB 198 [] h) (c : cT h (.int (nI m))) (e : h 2 = .inl (1, 80, .inl f)) : pT h m f := by
  obtain ⟨gs, w, a1, a2, a3⟩ := ty_gs hh
  obtain ⟨gs', b1, b2⟩ := c
  rw [a1] at b1
  cases b1
  exact ⟨⟨gs, a1, a2, b2⟩, e⟩
theorem pT_cT {m : Nat} {f : Nat → Int32} (x : pT h m f) : cT h (.int (nI m)) := by
  obtain ⟨⟨gs, a1, a2, a3⟩, -⟩ := x
  exact ⟨gs, a1, a3⟩
theorem f4_eq {f g : Nat → Int32} {n0 : Nat} {a b c d : Int32} (hj : ∀ j, j < n0 → f j = g j) : ∀ j, j < n0 + 4 → f4 f n0 a b c d j = f4 g n0 a b c d j := by
  intro j hlt
  unfold f4 upd
  by_cases z : j < n0
  · rw [if_neg (by omega), if_neg (by omega), if_neg (by omega), if_neg (by omega), if_neg (by omega), if_neg (by omega), if_neg (by omega), if_neg (by omega)]
    exact hj j z
  · by_cases z3 : j = n0 + 3
    · rw [if_pos z3, if_pos z3]
    · rw [if_neg z3, if_neg z3]
      by_cases z2 : j = n0 + 2
      · rw [if_pos z2, if_pos z2]
      · rw [if_neg z2, if_neg z2]
        by_cases z1 : j = n0 + 1
        · rw [if_pos z1, if_pos z1]
        · rw [if_neg z1, if_neg z1, if_pos (by omega), if_pos (by omega)]
theorem rC_runs {k mx : Nat} {As : List Value} {v : Value} (hk : sCK k = true) (x : rC h v) (hh : pm_run PT n fr lo k (0, pm_l0 As mx, [], h, 198, sl) = some R) : rC R.2.1 v := rC_fm rfl (sf_run sC_ok n fr lo k _ R hk hh) x
theorem m3_runs {k mx : Nat} {As : List Value} {v : Value} (hk : sCK k = true) (x : mF h 3 v) (hh : pm_run PT n fr lo k (0, pm_l0 As mx, [], h, 198, sl) = some R) : mF R.2.1 3 v := fm_mF (sf_run sC_ok n fr lo k _ R hk hh) rfl x
theorem sg_two4 (hI : LI4 h) (v : Int32) : twoWP4 sl h 86 178 [.int v] := by
  obtain ⟨hI0, n0, cc, f, g, hn, hc, ⟨x1, x2⟩, ⟨y1, y2, y3⟩, hj⟩ := hI
  refine wp_mono (wp_runs (Z := fun r => cond (decide (n0 ≤ 76)) (r.1 = some (.int (nI (n0 + 4))) ∧ pT r.2.1 (n0 + 4) (f4 f n0 (chX v 24) (chX v 16) (chX v 8) (chX v 0))) (r.1 = some (.int (Int32.ofInt (-1))) ∧ r.2.1 = h) ∧ rC r.2.1 (.int (nI cc))) (cxw_sign [.ref 0, .int v] h 2047 (84000 - (19 + pm_max PT 86)) sl ⟨⟨rfl, List.mem_singleton_self _⟩, ai_top_ok _, trivial⟩ hI0.1 trivial (Nat.le_of_ble_eq_true rfl) (Nat.le_of_ble_eq_true rfl)) (fun m r hh => ⟨sgx_run hn (ty_x0 hI0.1) x1 hh, rC_runs rfl x2 hh⟩)) ?_
  rintro ⟨rv, h1, s1⟩ ⟨⟨-, q1, ⟨q2, -⟩, q3⟩, p1, p2⟩
  cases q1
  dsimp only at p1 p2
  have hI1 := cx_inv hI0 q2 q3
  obtain ⟨w, hw⟩ := ty_m0 hI1.1
  have hr := wp_runs (Z := fun r => cond (decide (n0 ≤ 76)) (r.1 = some (.int (nI (n0 + 4))) ∧ mF r.2.1 15 (.int (nI (n0 + 4))) ∧ r.2.1 172 = .inl (0, 80, .inl (f4 g n0 (chM v 24) (chM v 16) (chM v 8) (chM v 0)))) (r.1 = some (.int (Int32.ofInt (-1))) ∧ mF r.2.1 15 (.int (nI n0)) ∧ r.2.1 172 = .inl (0, 80, .inl g)) ∧ mF r.2.1 3 (.int (nI cc))) (hm_sign hI1 v (sl := sl) (fr := 2047) (lo := 84000 - (19 + pm_max PT 178)) (Nat.le_of_ble_eq_true rfl) (Nat.le_of_ble_eq_true rfl)) (fun m r hh => ⟨sm_run hn hw (mF_hi q2 y1) (ty_m14 hI1.1) ((q2.1 172 rfl).trans y2) hh, m3_runs rfl (mF_hi q2 y3) hh⟩)
  by_cases z : n0 ≤ 76
  · rw [decide_eq_true z] at p1 hr
    obtain ⟨e1, e2⟩ := p1
    subst e1
    refine ⟨rfl, _, rfl, ty_162 hI1.1, wp_mono hr ?_⟩
    rintro ⟨rv2, h2, s2⟩ ⟨⟨a1, a2, a3, a4⟩, ⟨b1, b2, b3⟩, b4⟩
    dsimp only at a2 a3 a4 b1 b2 b3 b4
    cases a2
    refine ⟨b1, rfl, a4, n0 + 4, cc, _, _, by omega, hc, ⟨pT_lo a3 e2, rC_lo a3 p2⟩, ⟨b2, b3, b4⟩, ?_⟩
    rw [ch_24, ch_16, ch_8, ch_0]
    exact f4_eq hj
  · rw [decide_eq_false z] at p1 hr
    obtain ⟨e1, e2⟩ := p1
    subst e1
    subst e2
    refine ⟨rfl, _, rfl, ty_162 hI1.1, wp_mono hr ?_⟩
    rintro ⟨rv2, h2, s2⟩ ⟨⟨a1, a2, a3, a4⟩, ⟨b1, b2, b3⟩, b4⟩
    dsimp only at a2 a3 a4 b1 b2 b3 b4
    cases a2
    exact ⟨b1, rfl, a4, n0, cc, f, g, hn, hc, ⟨pT_lo a3 x1, rC_lo a3 p2⟩, ⟨b2, b3, b4⟩, hj⟩
/-- methods that write no char array; methods that can't reach the reference's tape -/
def akX : List Nat := [0, 6, 15, 22, 45, 52, 57, 72, 78, 79, 82, 85, 86, 91, 92, 93, 128, 161]
theorem ak2_all : ((List.range 271).filter (fun k => !(akX.any (fun x => Nat.beq x k)))).all (ak_b 1 (sf_X akX)) = true := by decide +kernel
theorem ak2_ok : ak_ok 1 (sf_X akX) := ak_of sf_X_in ak2_all
def nrX : List Nat := [0, 6, 15, 22, 45, 52, 57, 72, 78, 82, 85, 91, 92, 93, 128, 161, 178, 181, 182, 183, 184, 185, 187, 188, 191, 192, 194, 195, 196, 198, 226, 228, 258]
theorem nr2_all : ((List.range 271).filter (fun k => !(nrX.any (fun x => Nat.beq x k)))).all (fun k => sf_b (fun _ _ => false) (sf_X nrX) k && nr_b nrG (sf_X nrX) k) = true := by decide +kernel
theorem nr2_sf : sf_ok (fun _ _ => false) (sf_X nrX) := sf_of sf_X_in (List.all_eq_true.mpr (fun k hk => ((Bool.and_eq_true _ _).mp (List.all_eq_true.mp nr2_all k hk)).1))
theorem nr2_ok : nr_ok nrG (sf_X nrX) := nr_of sf_X_in (List.all_eq_true.mpr (fun k hk => ((Bool.and_eq_true _ _).mp (List.all_eq_true.mp nr2_all k hk)).2))
theorem en_two4 (hI : LI4 h) (y : Int32) : twoWP4 sl h 87 179 [.int y] := by
  obtain ⟨hI0, c, cc, f, g, hc, hcc, ⟨x1, x2⟩, ⟨r2, y2, y3⟩, hj⟩ := hI
  refine wp_mono (wp_runs (Z := fun r => akp 1 h r.2.1 ∧ rC r.2.1 (.int (nI cc))) (wp_det (cxw_end [.ref 0, .int y] h 2047 (84000 - (19 + pm_max PT 87)) sl ⟨⟨rfl, List.mem_singleton_self _⟩, ai_top_ok _, trivial⟩ hI0.1 trivial (Nat.le_of_ble_eq_true rfl) (Nat.le_of_ble_eq_true rfl)) (en_x (fs := []) hc (ty_x0 hI0.1) (pT_cT x1) y)) (fun m r hh => ⟨ak_run (by decide) ak2_ok m _ _ 87 _ r rfl hh, rC_runs rfl x2 hh⟩)) ?_
  rintro ⟨rv, h1, s1⟩ ⟨⟨⟨-, q1, ⟨q2, -⟩, q3⟩, p1, p2⟩, u1, u2⟩
  cases q1
  dsimp only at p1 p2 u1 u2
  have hI1 := cx_inv hI0 q2 q3
  obtain ⟨w, hw⟩ := ty_m0 hI1.1
  have r2' : mF h1 15 (.int (nI c)) := mF_hi q2 r2
  refine ⟨rfl, _, p1, ty_162 hI1.1, ?_⟩
  refine wp_mono (wp_runs (Z := fun r => r.2.1 172 = h1 172 ∧ mF r.2.1 3 (.int (nI cc))) (wp_det (hm_end hI1 y (fr := 2047) (lo := 84000 - (19 + pm_max PT 179)) (Nat.le_of_ble_eq_true rfl) (Nat.le_of_ble_eq_true rfl)) (en_m hc hw r2' y (Nat.le_of_ble_eq_true rfl) (Nat.le_of_ble_eq_true rfl))) (fun m r hh => ⟨(nr_run nr2_ok nr2_sf m _ _ 179 _ r rfl (Nat.le_refl _) ⟨nrL_l0 (nrS_ints [y]), fun v hv => absurd hv (by simp), nrH_ty hI1.1⟩ hh).2 172 rfl, m3_runs rfl (mF_hi q2 y3) hh⟩)) ?_
  rintro ⟨rv2, h2, s2⟩ ⟨⟨⟨a1, a2, a3, a4⟩, b1, b2⟩, v1, v2⟩
  dsimp only at a2 a3 a4 b1 b2 v1 v2
  cases a2
  refine ⟨b1, rfl, a4, ?_⟩
  have e2 : h1 2 = .inl (1, 80, .inl f) := u1 2 _ x1.2
  have e172 : h2 172 = .inl (0, 80, .inl g) := v1.trans ((q2.1 172 rfl).trans y2)
  cases hd : decide (0 ≤ y.toInt ∧ y.toInt ≤ (c : Int)) with
  | false =>
    rw [hd] at p2 b2
    exact ⟨c, cc, f, g, hc, hcc, ⟨pT_lo a3 (pT_ty hI1.1 p2 e2), rC_lo a3 u2⟩, ⟨b2, e172, v2⟩, hj⟩
  | true =>
    rw [hd] at p2 b2
    have hd := of_decide_eq_true hd
    obtain ⟨j, rfl, hjj, ej⟩ := hI_of (show 0 ≤ y.toInt by omega)
    exact ⟨j, cc, f, g, by omega, hcc, ⟨pT_lo a3 (pT_ty hI1.1 p2 e2), rC_lo a3 u2⟩, ⟨b2, e172, v2⟩, fun q hq => hj q (by omega)⟩
/-- what holds when both texts are empty -/
theorem REL_0 {cc : Nat} (hI1 : mInv h1) (hI2 : mInv h2) (hc : cc ≤ 6) (a3 : ∀ i, i < 162 → h2 i = h1 i) (c : cT h1 (.int 0)) (r : rC h1 (.int (nI cc))) (z : zT h2) (m : mF h2 3 (.int (nI cc))) : REL4 h2 := by
  obtain ⟨f, e2⟩ := ty_2 hI1.1
  obtain ⟨g, e172⟩ := ty_172 hI2.1
  exact ⟨0, cc, f, g, by decide, hc, ⟨pT_lo a3 (pT_ty (m := 0) hI1.1 c e2), rC_lo a3 r⟩, ⟨z, e172, m⟩, fun j hj => absurd hj (by omega)⟩
theorem ty_x2 (hh : ah_ok bB 198 [] h) : ∃ fs, h 0 = .inr (10, fs) ∧ fs[0]? = some (.ref 1) ∧ fs[2]? = some (.ref 5) := by
  obtain ⟨fs, a1, a2⟩ := ty_x0 hh
  have h0 := hh 0 (by decide)
  obtain ⟨fs', ef, hl, hg⟩ := aE_obj (ci := 10) (as := asX0) h0 (by decide)
  rw [a1] at ef
  cases ef
  have hlf : 2 < fs.length := by rw [hl]; exact Nat.le_of_ble_eq_true rfl
  have ev : fs[2]? = some fs[2] := List.getElem?_eq_getElem hlf
  have hv := hg 2 _ (2, 5, 1) ev rfl
  have hr : fs[2] = .ref 5 := by
    cases e : fs[2] with
    | ref p =>
      rw [e] at hv
      have := hv.2
      rw [show p = 5 from List.mem_singleton.mp this]
    | null => rw [e] at hv; exact absurd (show (2 : Nat) = 3 from hv) (by decide)
    | _ => rw [e] at hv; first | exact hv.elim | (cases hv.1)
  exact ⟨fs, a1, a2, by rw [ev, hr]⟩
theorem co_two4 (hI : LI4 h) : twoWP4 sl h 88 188 [] := by
  obtain ⟨hI0, n0, cc, f, g, hn, hc, ⟨x1, x2⟩, ⟨y1, y2, y3⟩, hj⟩ := hI
  obtain ⟨eA, eN⟩ := cm_both hn hc hj
  have hN6 : cc + cmN g n0 cc ≤ 6 := by
    rcases eN with ⟨-, q⟩ | ⟨-, q⟩
    · exact q
    · omega
  have px : pX h n0 cc f := by
    obtain ⟨fs, a1, a2, a3⟩ := ty_x2 hI0.1
    exact ⟨⟨fs, a1, a2, a3⟩, x1.1, x1.2, x2⟩
  refine wp_mono (wp_runs (Z := fun r => (r.1 = some (.int (xR n0 cc f)) ∧ rC r.2.1 (.int (nI (cc + cmN g n0 cc)))) ∧ cT r.2.1 (.int 0)) (cxw_courts [.ref 0] h 2047 (84000 - (19 + pm_max PT 88)) sl ⟨⟨rfl, List.mem_singleton_self _⟩, trivial⟩ hI0.1 trivial (Nat.le_of_ble_eq_true rfl) (Nat.le_of_ble_eq_true rfl)) (fun m r hh => ⟨xc_run hn hc px eN hh, zx_courts (ty_x0 hI0.1) (pT_cT x1) hh⟩)) ?_
  rintro ⟨rv, h1, s1⟩ ⟨⟨-, q1, ⟨q2, -⟩, q3⟩, ⟨p1, p2⟩, p3⟩
  cases q1
  dsimp only at p1 p2 p3
  have hI1 := cx_inv hI0 q2 q3
  obtain ⟨w, hw⟩ := ty_m0 hI1.1
  obtain ⟨w16, h16⟩ := ty_mi hI1.1 16 (by decide +kernel) (by decide +kernel)
  obtain ⟨w17, h17⟩ := ty_mi hI1.1 17 (by decide +kernel) (by decide +kernel)
  obtain ⟨w18, h18⟩ := ty_mi hI1.1 18 (by decide +kernel) (by decide +kernel)
  obtain ⟨w20, h20⟩ := ty_mi hI1.1 20 (by decide +kernel) (by decide +kernel)
  obtain ⟨fr0, hB⟩ := ty_173 hI1.1
  refine ⟨rfl, _, p1, ty_162 hI1.1, ?_⟩
  refine wp_mono (wp_runs (Z := fun r => (r.1 = some (.int (cmA g n0 cc)) ∧ mF r.2.1 3 (.int (nI (cc + cmN g n0 cc)))) ∧ zT r.2.1) (hm_courts hI1 (fr := 2047) (lo := 84000 - (19 + pm_max PT 188)) (Nat.le_of_ble_eq_true rfl) (Nat.le_of_ble_eq_true rfl)) (fun m r hh => ⟨cm_run hn hc hw (mF_hi q2 y1) h16 h17 h18 h20 (mF_hi q2 y3) (ty_m14 hI1.1) ((q2.1 172 rfl).trans y2) (ty_m19 hI1.1) hB hh, z_courts hw (mF_hi q2 y1) hh⟩)) ?_
  rintro ⟨rv2, h2, s2⟩ ⟨⟨a1, a2, a3, a4⟩, ⟨b1, b2⟩, b3⟩
  dsimp only at a2 a3 a4 b1 b2 b3
  cases a2
  rw [eA] at b1
  exact ⟨b1, rfl, a4, REL_0 hI1 a4 hN6 a3 p3 p2 b3 b2⟩
end TU4
