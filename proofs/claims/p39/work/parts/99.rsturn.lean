/-! the turn of rests: both answer the same -/
section RST
variable {P : pm_St → Prop} {sz sl bS Ln i pc : Nat} {xs : Nat → Int32} {L : pm_L} {S : List Value} {h : pm_H}
/-- two calls, compared -/
def lc_two (pc n kx km pe : Nat) : Bool := lc_al pc 1 && (lc_args (pc + 1) n 1 && (lc_iv (pc + 1 + 6 * n) kx n 10 && (lc_al (pc + 4 + 6 * n) 2 && (lc_args (pc + 5 + 6 * n) n 1 && (lc_iv (pc + 5 + 12 * n) km n 11 && (lc_eq (pc + 8 + 12 * n) pe && (decide (pm_ret PT kx = some .int ∨ pm_ret PT kx = some .boolean))))))))
theorem lc_two_ok (H : lc_Cl sz sl bS Ln xs P) {n kx km pe : Nat} (hc : lc_two pc n kx km pe = true) (hL : lc_L bS i L) (hb : i + 1 + n ≤ Ln) (hz : 162 < sz) {f1 f2 : List Value} (o1 : h 0 = .inr (10, f1)) (o2 : h 162 = .inr (11, f2))
    (kk : pm_WP PT 2047 (84000 - (19 + pm_max PT kx)) kx (0, pm_l0 (.ref 0 :: (lc_vals xs i n 1).map Value.int) (pm_max PT kx), [], h, sz, sl) (fun x => x.2.2 = (sz, sl) ∧ ∃ v, x.1 = some v ∧ pm_WP PT 2047 (84000 - (19 + pm_max PT km)) km (0, pm_l0 (.ref 162 :: (lc_vals xs i n 1).map Value.int) (pm_max PT km), [], x.2) (fun y => y.1 = some v ∧ y.2.2 = (sz, sl) ∧ P (pe, L, [], y.2)))) : P (pc, L, [], h, sz, sl) := by
  unfold lc_two at hc
  simp only [Bool.and_eq_true] at hc
  obtain ⟨c1, c2, c3, c4, c5, c6, c7, c8⟩ := hc
  have hty := of_decide_eq_true c8
  obtain ⟨l0, l1, l2, l3, l4, l5⟩ := hL
  refine lc_al_ok H c1 l1 rfl (lc_args_ok H l0 l4 n 1 _ _ c2 hb ?_)
  refine lc_iv_ok H c3 o1 (by omega) (lc_vals_len xs i n 1) (by decide) (wp_mono (wp_int hty (wp_keep kk)) ?_)
  rintro ⟨rv, h1, sz1, sl1⟩ ⟨⟨⟨q1, v, q2, q3⟩, q4⟩, w, q5⟩
  cases q1
  dsimp only at q2 q3 q4 q5
  subst q2
  cases q5
  refine ⟨rfl, ?_⟩
  obtain ⟨f2', o2'⟩ := q4 162 hz _ _ o2
  show P (pc + 1 + 6 * n + 3, L, [.int w], h1, sz, sl)
  rw [show pc + 1 + 6 * n + 3 = pc + 4 + 6 * n by omega]
  refine lc_al_ok H c4 l2 rfl ?_
  rw [show pc + 4 + 6 * n + 1 = pc + 5 + 6 * n by omega]
  refine lc_args_ok H l0 l4 n 1 _ _ c5 hb ?_
  rw [show pc + 5 + 6 * n + 6 * n = pc + 5 + 12 * n by omega]
  refine lc_iv_ok H c6 o2' hz (lc_vals_len xs i n 1) (by show (1 : Nat) + 0 ≤ 8; omega) (wp_mono q3 ?_)
  rintro ⟨rv2, h2, sz2, sl2⟩ ⟨p1, p2, p3⟩
  dsimp only at p1 p2 p3
  cases p2
  subst p1
  refine ⟨rfl, ?_⟩
  show P (pc + 5 + 12 * n + 3, L, [.int w, .int w], h2, sz, sl)
  rw [show pc + 5 + 12 * n + 3 = pc + 8 + 12 * n by omega]
  exact lc_eq_ok H c7 p3
def rsK : kn := fun t as o => match rs_kn t as with
  | some a => some ([(some a, o)], 2, 100)
  | none => none
theorem rsK_ok {F : fr_F} {PP : pm_H → Prop} : kn_ok rsK PT bB 198 F PP := by
  intro t as o R Fr Lo e As h fr lo sl hAs hh hp hF hL
  unfold rsK at e
  split at e
  · rename_i a ea
    cases e
    refine wp_mono (rs_kn_ok t as a As fr lo h 198 sl ea hAs hF hL) ?_
    rintro ⟨rv, h1, s1⟩ ⟨v, q1, q2, q3⟩
    cases q3
    dsimp only at q1
    subst q1
    exact ⟨⟨_, List.mem_singleton_self _, q2, hh, rfl, rfl⟩, fm_rf _, hp⟩
  · cases e
def rcX (v w a : Int) : con := (123, [(2, 0, 1), (0, v, w)], [], [some (0, a, a)], [], 200, 9000, false)
def rcM (v w a : Int) : con := (261, [(2, 162, 1), (0, v, w)], [], [some (0, a, a)], [], 200, 9000, false)
theorem rcX_ok {v w a : Int} (e : con_chk rsK PT bB 198 cxF cxJ cxjo cxP2 4000 (rcX v w a) = true) : con_ok PT bB 198 cxF cxQ (rcX v w a) := con_chk_ok (fun _ _ h => h) cxpp rsK_ok nw_class (fun h => by cases h) e
theorem rcM_ok {v w a : Int} (e : con_chk rsK PT bB 198 rxF0 rxJ rxjo rxP 4000 (rcM v w a) = true) : con_ok PT bB 198 rxF rxQ (rcM v w a) := con_chk_ok rxle rxpp rsK_ok nw_class (fun h => by cases h) e
def rsGoal (sl i : Nat) (xs : Nat → Int32) (L : pm_L) (h : pm_H) (P : pm_St → Prop) (x : Int32) : Prop := pm_WP PT 2047 (84000 - (19 + pm_max PT 123)) 123 (0, pm_l0 [.ref 0, .int x] (pm_max PT 123), [], h, 198, sl) (fun q => q.2.2 = (198, sl) ∧ ∃ v, q.1 = some v ∧ pm_WP PT 2047 (84000 - (19 + pm_max PT 261)) 261 (0, pm_l0 [.ref 162, .int x] (pm_max PT 261), [], q.2) (fun y => y.1 = some v ∧ y.2.2 = (198, sl) ∧ P (1443, L, [], y.2)))
theorem rs_box {v w a : Int} (hx : con_ok PT bB 198 cxF cxQ (rcX v w a)) (hm : con_ok PT bB 198 rxF rxQ (rcM v w a)) (hI : mInv h) (kk : ∀ h2, mInv h2 → P (1443, L, [], h2, 198, sl)) (x : Int32) (q : av_ok (.int x) (0, v, w)) : rsGoal sl i xs L h P x := by
  refine wp_mono (hx [.ref 0, .int x] h 2047 (84000 - (19 + pm_max PT 123)) sl ⟨⟨rfl, List.mem_singleton_self _⟩, q, trivial⟩ hI.1 trivial (Nat.le_of_ble_eq_true rfl) (Nat.le_of_ble_eq_true rfl)) ?_
  rintro ⟨rv, h1, s1⟩ ⟨⟨b, hb, hv⟩, q1, ⟨q2, -⟩, q3⟩
  cases q1
  cases List.mem_singleton.mp hb
  have hI1 := cx_inv hI q2 q3
  obtain ⟨y, rfl, y1, y2⟩ := ao_i hv
  refine ⟨rfl, .int y, rfl, ?_⟩
  refine wp_mono (hm [.ref 162, .int x] h1 2047 (84000 - (19 + pm_max PT 261)) sl ⟨⟨rfl, List.mem_singleton_self _⟩, q, trivial⟩ hI1.1 hI1.2 (Nat.le_of_ble_eq_true rfl) (Nat.le_of_ble_eq_true rfl)) ?_
  rintro ⟨rv2, h2, s2⟩ ⟨⟨b2, hb2, hv2⟩, p1, ⟨p2, p4⟩, p3⟩
  cases p1
  cases List.mem_singleton.mp hb2
  obtain ⟨z, rfl, z1, z2⟩ := ao_i hv2
  have : y = z := Int32.toInt_inj.1 (by omega)
  subst this
  exact ⟨rfl, rfl, kk h2 ⟨p3, p4⟩⟩
theorem rsx_0 : con_chk rsK PT bB 198 cxF cxJ cxjo cxP2 4000 (rcX 0 0 1) = true := by decide +kernel
theorem rsm_0 : con_chk rsK PT bB 198 rxF0 rxJ rxjo rxP 4000 (rcM 0 0 1) = true := by decide +kernel
theorem rsx_1 : con_chk rsK PT bB 198 cxF cxJ cxjo cxP2 4000 (rcX 1 1 1) = true := by decide +kernel
theorem rsm_1 : con_chk rsK PT bB 198 rxF0 rxJ rxjo rxP 4000 (rcM 1 1 1) = true := by decide +kernel
theorem rsx_2 : con_chk rsK PT bB 198 cxF cxJ cxjo cxP2 4000 (rcX 2 2 2) = true := by decide +kernel
theorem rsm_2 : con_chk rsK PT bB 198 rxF0 rxJ rxjo rxP 4000 (rcM 2 2 2) = true := by decide +kernel
theorem rsx_3 : con_chk rsK PT bB 198 cxF cxJ cxjo cxP2 4000 (rcX 3 3 1) = true := by decide +kernel
theorem rsm_3 : con_chk rsK PT bB 198 rxF0 rxJ rxjo rxP 4000 (rcM 3 3 1) = true := by decide +kernel
theorem rsx_4 : con_chk rsK PT bB 198 cxF cxJ cxjo cxP2 4000 (rcX 4 4 1) = true := by decide +kernel
theorem rsm_4 : con_chk rsK PT bB 198 rxF0 rxJ rxjo rxP 4000 (rcM 4 4 1) = true := by decide +kernel
theorem rsx_5 : con_chk rsK PT bB 198 cxF cxJ cxjo cxP2 4000 (rcX 5 5 1) = true := by decide +kernel
theorem rsm_5 : con_chk rsK PT bB 198 rxF0 rxJ rxjo rxP 4000 (rcM 5 5 1) = true := by decide +kernel
theorem rsx_6 : con_chk rsK PT bB 198 cxF cxJ cxjo cxP2 4000 (rcX 6 6 1) = true := by decide +kernel
theorem rsm_6 : con_chk rsK PT bB 198 rxF0 rxJ rxjo rxP 4000 (rcM 6 6 1) = true := by decide +kernel
theorem rsx_7 : con_chk rsK PT bB 198 cxF cxJ cxjo cxP2 4000 (rcX 7 7 1) = true := by decide +kernel
theorem rsm_7 : con_chk rsK PT bB 198 rxF0 rxJ rxjo rxP 4000 (rcM 7 7 1) = true := by decide +kernel
theorem rsx_8 : con_chk rsK PT bB 198 cxF cxJ cxjo cxP2 4000 (rcX 8 8 1) = true := by decide +kernel
theorem rsm_8 : con_chk rsK PT bB 198 rxF0 rxJ rxjo rxP 4000 (rcM 8 8 1) = true := by decide +kernel
theorem rsx_9 : con_chk rsK PT bB 198 cxF cxJ cxjo cxP2 4000 (rcX 9 9 0) = true := by decide +kernel
theorem rsm_9 : con_chk rsK PT bB 198 rxF0 rxJ rxjo rxP 4000 (rcM 9 9 0) = true := by decide +kernel
theorem rsx_10 : con_chk rsK PT bB 198 cxF cxJ cxjo cxP2 4000 (rcX 10 10 0) = true := by decide +kernel
theorem rsm_10 : con_chk rsK PT bB 198 rxF0 rxJ rxjo rxP 4000 (rcM 10 10 0) = true := by decide +kernel
theorem rsx_11 : con_chk rsK PT bB 198 cxF cxJ cxjo cxP2 4000 (rcX 11 11 0) = true := by decide +kernel
theorem rsm_11 : con_chk rsK PT bB 198 rxF0 rxJ rxjo rxP 4000 (rcM 11 11 0) = true := by decide +kernel
theorem rsx_12 : con_chk rsK PT bB 198 cxF cxJ cxjo cxP2 4000 (rcX 12 12 0) = true := by decide +kernel
theorem rsm_12 : con_chk rsK PT bB 198 rxF0 rxJ rxjo rxP 4000 (rcM 12 12 0) = true := by decide +kernel
theorem rsx_13 : con_chk rsK PT bB 198 cxF cxJ cxjo cxP2 4000 (rcX 13 13 0) = true := by decide +kernel
theorem rsm_13 : con_chk rsK PT bB 198 rxF0 rxJ rxjo rxP 4000 (rcM 13 13 0) = true := by decide +kernel
theorem rsx_14 : con_chk rsK PT bB 198 cxF cxJ cxjo cxP2 4000 (rcX 14 14 0) = true := by decide +kernel
theorem rsm_14 : con_chk rsK PT bB 198 rxF0 rxJ rxjo rxP 4000 (rcM 14 14 0) = true := by decide +kernel
theorem rsx_15 : con_chk rsK PT bB 198 cxF cxJ cxjo cxP2 4000 (rcX 15 15 0) = true := by decide +kernel
theorem rsm_15 : con_chk rsK PT bB 198 rxF0 rxJ rxjo rxP 4000 (rcM 15 15 0) = true := by decide +kernel
theorem rsx_16 : con_chk rsK PT bB 198 cxF cxJ cxjo cxP2 4000 (rcX 16 16 0) = true := by decide +kernel
theorem rsm_16 : con_chk rsK PT bB 198 rxF0 rxJ rxjo rxP 4000 (rcM 16 16 0) = true := by decide +kernel
theorem rsx_17 : con_chk rsK PT bB 198 cxF cxJ cxjo cxP2 4000 (rcX 17 17 0) = true := by decide +kernel
theorem rsm_17 : con_chk rsK PT bB 198 rxF0 rxJ rxjo rxP 4000 (rcM 17 17 0) = true := by decide +kernel
theorem rsx_18 : con_chk rsK PT bB 198 cxF cxJ cxjo cxP2 4000 (rcX 18 18 1) = true := by decide +kernel
theorem rsm_18 : con_chk rsK PT bB 198 rxF0 rxJ rxjo rxP 4000 (rcM 18 18 1) = true := by decide +kernel
theorem rsx_19 : con_chk rsK PT bB 198 cxF cxJ cxjo cxP2 4000 (rcX 19 19 1) = true := by decide +kernel
theorem rsm_19 : con_chk rsK PT bB 198 rxF0 rxJ rxjo rxP 4000 (rcM 19 19 1) = true := by decide +kernel
theorem rsx_20 : con_chk rsK PT bB 198 cxF cxJ cxjo cxP2 4000 (rcX 20 20 1) = true := by decide +kernel
theorem rsm_20 : con_chk rsK PT bB 198 rxF0 rxJ rxjo rxP 4000 (rcM 20 20 1) = true := by decide +kernel
theorem rsx_lo : con_chk rsK PT bB 198 cxF cxJ cxjo cxP2 4000 (rcX (-2147483648) (-1) (-1)) = true := by decide +kernel
theorem rsm_lo : con_chk rsK PT bB 198 rxF0 rxJ rxjo rxP 4000 (rcM (-2147483648) (-1) (-1)) = true := by decide +kernel
theorem rsx_hi : con_chk rsK PT bB 198 cxF cxJ cxjo cxP2 4000 (rcX 21 2147483647 (-1)) = true := by decide +kernel
theorem rsm_hi : con_chk rsK PT bB 198 rxF0 rxJ rxjo rxP 4000 (rcM 21 2147483647 (-1)) = true := by decide +kernel
theorem rs_all (hI : mInv h) (kk : ∀ h2, mInv h2 → P (1443, L, [], h2, 198, sl)) (x : Int32) : rsGoal sl i xs L h P x := by
  have r := ai_rng x
  by_cases z1 : x.toInt ≤ -1
  · exact rs_box (rcX_ok rsx_lo) (rcM_ok rsm_lo) hI kk x ⟨rfl, r.1, z1⟩
  by_cases z2 : 21 ≤ x.toInt
  · exact rs_box (rcX_ok rsx_hi) (rcM_ok rsm_hi) hI kk x ⟨rfl, z2, r.2⟩
  have hz : x.toInt = 0 ∨ x.toInt = 1 ∨ x.toInt = 2 ∨ x.toInt = 3 ∨ x.toInt = 4 ∨ x.toInt = 5 ∨ x.toInt = 6 ∨ x.toInt = 7 ∨ x.toInt = 8 ∨ x.toInt = 9 ∨ x.toInt = 10 ∨ x.toInt = 11 ∨ x.toInt = 12 ∨ x.toInt = 13 ∨ x.toInt = 14 ∨ x.toInt = 15 ∨ x.toInt = 16 ∨ x.toInt = 17 ∨ x.toInt = 18 ∨ x.toInt = 19 ∨ x.toInt = 20 := by omega
  rcases hz with z | z | z | z | z | z | z | z | z | z | z | z | z | z | z | z | z | z | z | z | z
  · exact rs_box (rcX_ok rsx_0) (rcM_ok rsm_0) hI kk x ⟨rfl, by rw [z]; decide, by rw [z]; decide⟩
  · exact rs_box (rcX_ok rsx_1) (rcM_ok rsm_1) hI kk x ⟨rfl, by rw [z]; decide, by rw [z]; decide⟩
  · exact rs_box (rcX_ok rsx_2) (rcM_ok rsm_2) hI kk x ⟨rfl, by rw [z]; decide, by rw [z]; decide⟩
  · exact rs_box (rcX_ok rsx_3) (rcM_ok rsm_3) hI kk x ⟨rfl, by rw [z]; decide, by rw [z]; decide⟩
  · exact rs_box (rcX_ok rsx_4) (rcM_ok rsm_4) hI kk x ⟨rfl, by rw [z]; decide, by rw [z]; decide⟩
  · exact rs_box (rcX_ok rsx_5) (rcM_ok rsm_5) hI kk x ⟨rfl, by rw [z]; decide, by rw [z]; decide⟩
  · exact rs_box (rcX_ok rsx_6) (rcM_ok rsm_6) hI kk x ⟨rfl, by rw [z]; decide, by rw [z]; decide⟩
  · exact rs_box (rcX_ok rsx_7) (rcM_ok rsm_7) hI kk x ⟨rfl, by rw [z]; decide, by rw [z]; decide⟩
  · exact rs_box (rcX_ok rsx_8) (rcM_ok rsm_8) hI kk x ⟨rfl, by rw [z]; decide, by rw [z]; decide⟩
  · exact rs_box (rcX_ok rsx_9) (rcM_ok rsm_9) hI kk x ⟨rfl, by rw [z]; decide, by rw [z]; decide⟩
  · exact rs_box (rcX_ok rsx_10) (rcM_ok rsm_10) hI kk x ⟨rfl, by rw [z]; decide, by rw [z]; decide⟩
  · exact rs_box (rcX_ok rsx_11) (rcM_ok rsm_11) hI kk x ⟨rfl, by rw [z]; decide, by rw [z]; decide⟩
  · exact rs_box (rcX_ok rsx_12) (rcM_ok rsm_12) hI kk x ⟨rfl, by rw [z]; decide, by rw [z]; decide⟩
  · exact rs_box (rcX_ok rsx_13) (rcM_ok rsm_13) hI kk x ⟨rfl, by rw [z]; decide, by rw [z]; decide⟩
  · exact rs_box (rcX_ok rsx_14) (rcM_ok rsm_14) hI kk x ⟨rfl, by rw [z]; decide, by rw [z]; decide⟩
  · exact rs_box (rcX_ok rsx_15) (rcM_ok rsm_15) hI kk x ⟨rfl, by rw [z]; decide, by rw [z]; decide⟩
  · exact rs_box (rcX_ok rsx_16) (rcM_ok rsm_16) hI kk x ⟨rfl, by rw [z]; decide, by rw [z]; decide⟩
  · exact rs_box (rcX_ok rsx_17) (rcM_ok rsm_17) hI kk x ⟨rfl, by rw [z]; decide, by rw [z]; decide⟩
  · exact rs_box (rcX_ok rsx_18) (rcM_ok rsm_18) hI kk x ⟨rfl, by rw [z]; decide, by rw [z]; decide⟩
  · exact rs_box (rcX_ok rsx_19) (rcM_ok rsm_19) hI kk x ⟨rfl, by rw [z]; decide, by rw [z]; decide⟩
  · exact rs_box (rcX_ok rsx_20) (rcM_ok rsm_20) hI kk x ⟨rfl, by rw [z]; decide, by rw [z]; decide⟩
theorem rs_turn : rsTurn sl bS Ln xs := by
  intro P i L h H hL hi hI kk
  obtain ⟨f1, o1⟩ := ty_0 hI.1
  obtain ⟨f2, o2⟩ := ty_162 hI.1
  exact lc_two_ok H (n := 1) (kx := 123) (km := 261) (pe := 1443) (by decide +kernel) hL (by omega) (by decide) o1 o2 (rs_all (i := i) (xs := xs) hI kk (xs (i + 1)))
end RST
