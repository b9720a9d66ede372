/-! both texts, how many COURTS, how many GIFTS: turns -/
section TR5
variable {P : pm_St → Prop} {sl bS Ln i pc n fr lo : Nat} {xs : Nat → Int32} {L : pm_L} {h h1 h2 : pm_H} {R : pm_Rs}
def RG (h : pm_H) : Prop := ∃ gc : Nat, gc ≤ 8 ∧ rG h (.int (nI gc)) ∧ mF h 4 (.int (nI gc))
theorem RG_fm (q : fm (sfF sG) h h1) (r : RG h) : RG h1 := by
  obtain ⟨gc, hg, r1, r2⟩ := r
  exact ⟨gc, hg, rG_fm q r1, fm_mF q rfl r2⟩
def REL5 (h : pm_H) : Prop := REL4 h ∧ RG h
def LI5 (h : pm_H) : Prop := mInv h ∧ REL5 h
theorem LI_4 (hI : LI5 h) : LI4 h := ⟨hI.1, hI.2.1⟩
theorem twX_LI5 (hI : LI5 h) (q : twX h h1) : LI5 h1 := by
  have h4 := twX_LI4 (LI_4 hI) q
  obtain ⟨gc, hg, ⟨rs, d1, d2⟩, ms, m1, m2⟩ := hI.2.2
  exact ⟨h4.1, h4.2, gc, hg, ⟨rs, (q.1 5 (by decide)).trans d1, d2⟩, ms, (q.1 162 (by decide)).trans m1, m2⟩
/-- what both calls do -/
def twoWP5 (sl : Nat) (h : pm_H) (kx km : Nat) (As : List Value) : Prop := pm_WP PT 2047 (84000 - (19 + pm_max PT kx)) kx (0, pm_l0 (.ref 0 :: As) (pm_max PT kx), [], h, 198, sl) (fun q => q.2.2 = (198, sl) ∧ ∃ v : Int32, q.1 = some (.int v) ∧ (∃ f2, q.2.1 162 = .inr (11, f2)) ∧ pm_WP PT 2047 (84000 - (19 + pm_max PT km)) km (0, pm_l0 (.ref 162 :: As) (pm_max PT km), [], q.2) (fun y => y.1 = some (.int v) ∧ y.2.2 = (198, sl) ∧ LI5 y.2.1))
theorem two_lift5 {kx km : Nat} {As : List Value} (q : twoWP4 sl h kx km As) (gx : sGK kx = true) (gm : sGK km = true) (r : RG h) : twoWP5 sl h kx km As := by
  refine wp_mono (wp_runs (Z := fun r => fm (sfF sG) h r.2.1) q (fun m r hh => sf_run sG_ok m _ _ _ _ r gx hh)) ?_
  rintro ⟨rv, h1, s1⟩ ⟨⟨q1, v, q2, q3, q4⟩, q5⟩
  cases q1
  dsimp only at q2 q3 q4 q5
  refine ⟨rfl, v, q2, q3, wp_mono (wp_runs (Z := fun r => fm (sfF sG) h1 r.2.1) q4 (fun m r hh => sf_run sG_ok m _ _ _ _ r gm hh)) ?_⟩
  rintro ⟨rv2, h2, s2⟩ ⟨⟨p1, p2, p3⟩, p4⟩
  exact ⟨p1, p2, p3.1, p3.2, RG_fm p4 (RG_fm q5 r)⟩
theorem sg_two5 (hI : LI5 h) (v : Int32) : twoWP5 sl h 86 178 [.int v] := two_lift5 (sg_two4 (LI_4 hI) v) rfl rfl hI.2.2
theorem en_two5 (hI : LI5 h) (v : Int32) : twoWP5 sl h 87 179 [.int v] := two_lift5 (en_two4 (LI_4 hI) v) rfl rfl hI.2.2
theorem co_two5 (hI : LI5 h) : twoWP5 sl h 88 188 [] := two_lift5 (co_two4 (LI_4 hI)) rfl rfl hI.2.2
theorem gf_two5 (hI : LI5 h) : twoWP5 sl h 89 192 [] := by
  obtain ⟨hI0, ⟨n0, cc, f, g, hn, hc, ⟨x1, x2⟩, ⟨y1, y2, y3⟩, hj⟩, gc, hg, z1, z2⟩ := hI
  obtain ⟨eA, eN⟩ := gm_both (cc := cc) hn hg hj
  have hN6 : gc + gmN g n0 cc gc ≤ 8 := by
    rcases eN with ⟨-, q⟩ | ⟨-, q⟩
    · exact q
    · omega
  have px : pX h n0 cc f := by
    obtain ⟨fs, a1, a2, a3⟩ := ty_x2 hI0.1
    exact ⟨⟨fs, a1, a2, a3⟩, x1.1, x1.2, x2⟩
  refine wp_mono (wp_runs (Z := fun r => (r.1 = some (.int (xgR n0 cc gc f)) ∧ rG r.2.1 (.int (nI (gc + gmN g n0 cc gc)))) ∧ cT r.2.1 (.int 0) ∧ rC r.2.1 (.int (nI cc))) (cxw_gifts [.ref 0] h 2047 (84000 - (19 + pm_max PT 89)) sl ⟨⟨rfl, List.mem_singleton_self _⟩, trivial⟩ hI0.1 trivial (Nat.le_of_ble_eq_true rfl) (Nat.le_of_ble_eq_true rfl)) (fun m r hh => ⟨xgf_run hn hc hg px z1 eN hh, zx_gifts (ty_x0 hI0.1) (pT_cT x1) hh, rC_runs rfl x2 hh⟩)) ?_
  rintro ⟨rv, h1, s1⟩ ⟨⟨-, q1, ⟨q2, -⟩, q3⟩, ⟨p1, p2⟩, p3, p4⟩
  cases q1
  dsimp only at p1 p2 p3 p4
  have hI1 := cx_inv hI0 q2 q3
  obtain ⟨w, hw⟩ := ty_m0 hI1.1
  obtain ⟨w16, h16⟩ := ty_mi hI1.1 16 (by decide +kernel) (by decide +kernel)
  obtain ⟨w17, h17⟩ := ty_mi hI1.1 17 (by decide +kernel) (by decide +kernel)
  obtain ⟨w18, h18⟩ := ty_mi hI1.1 18 (by decide +kernel) (by decide +kernel)
  obtain ⟨w20, h20⟩ := ty_mi hI1.1 20 (by decide +kernel) (by decide +kernel)
  obtain ⟨fr0, hB⟩ := ty_173 hI1.1
  refine ⟨rfl, _, p1, ty_162 hI1.1, ?_⟩
  refine wp_mono (wp_runs (Z := fun r => (r.1 = some (.int (gmA g n0 cc gc)) ∧ mF r.2.1 4 (.int (nI (gc + gmN g n0 cc gc)))) ∧ zT r.2.1 ∧ mF r.2.1 3 (.int (nI cc))) (hm_gifts hI1 (fr := 2047) (lo := 84000 - (19 + pm_max PT 192)) (Nat.le_of_ble_eq_true rfl) (Nat.le_of_ble_eq_true rfl)) (fun m r hh => ⟨gm_run hn hg hw (mF_hi q2 y1) h16 h17 h18 h20 (mF_hi q2 y3) (mF_hi q2 z2) (ty_m14 hI1.1) ((q2.1 172 rfl).trans y2) (ty_m19 hI1.1) hB hh, z_gifts hw (mF_hi q2 y1) hh, m3_runs rfl (mF_hi q2 y3) hh⟩)) ?_
  rintro ⟨rv2, h2, s2⟩ ⟨⟨a1, a2, a3, a4⟩, ⟨b1, b2⟩, b3, b4⟩
  dsimp only at a2 a3 a4 b1 b2 b3 b4
  cases a2
  rw [eA] at b1
  refine ⟨b1, rfl, a4, REL_0 hI1 a4 hc a3 p3 p4 b3 b4, _, hN6, ?_, b2⟩
  obtain ⟨rs, r1, r2⟩ := p2
  exact ⟨rs, (a3 5 (by decide)).trans r1, r2⟩
end TR5
