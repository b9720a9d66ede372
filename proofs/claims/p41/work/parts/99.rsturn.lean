/-! the turn of keep: both answer the same -/
section RST
variable {P : pm_St → Prop} {sz sl bS Ln i pc : Nat} {xs : Nat → Int32} {L : pm_L} {S : List Value} {h : pm_H}
/-- two calls, compared -/
def lc_two (pc n kx km pe : Nat) : Bool := lc_al pc 1 && (lc_args (pc + 1) n 1 && (lc_iv (pc + 1 + 6 * n) kx n 10 && (lc_al (pc + 4 + 6 * n) 2 && (lc_args (pc + 5 + 6 * n) n 1 && (lc_iv (pc + 5 + 12 * n) km n 11 && (lc_eq (pc + 8 + 12 * n) pe && (decide (pm_ret PT kx = some .int ∨ pm_ret PT kx = some .boolean))))))))
theorem lc_two_ok (H : lc_Cl sz sl bS Ln xs P) {n kx km pe : Nat} (hc : lc_two pc n kx km pe = true) (hL : lc_L bS i L) (hb : i + 1 + n ≤ Ln) (hz : 162 < sz) {f1 f2 : List Value} (o1 : h 0 = .inr (10, f1)) (o2 : h 162 = .inr (11, f2))
    (kk : pm_WP PT 2047 (84000 - (19 + pm_max PT kx)) kx (0, pm_l0 (.ref 0 :: (lc_vals xs i n 1).map Value.int) (pm_max PT kx), [], h, sz, sl) (fun x => x.2.2 = (sz, sl) ∧ ∃ v, x.1 = some v ∧ pm_WP PT 2047 (84000 - (19 + pm_max PT km)) km (0, pm_l0 (.ref 162 :: (lc_vals xs i n 1).map Value.int) (pm_max PT km), [], x.2) (fun y => y.1 = some v ∧ y.2.2 = (sz, sl) ∧ P (pe, L, [], y.2)))) : P (pc, L, [], h, sz, sl) := by
  unfold lc_two at hc
  simp only [Bool.and_eq_true] at hc
  obtain ⟨c1, c2, c3, c4, c5, c6, c7, c8⟩ := hc
  have hty := of_decide_eq_true c8
  obtain ⟨l0, l1, l2, l3, l4, l5⟩ := hL
  refine lc_al_ok H c1 l1 rfl (lc_args_ok H l0 l4 n 1 _ _ c2 hb ?_)
  refine lc_iv_ok H c3 o1 (by omega) (lc_vals_len xs i n 1) (by decide) (wp_mono (wp_int hty (wp_keep kk)) ?_)
  rintro ⟨rv, h1, sz1, sl1⟩ ⟨⟨⟨q1, v, q2, q3⟩, q4⟩, w, q5⟩
  cases q1
  dsimp only at q2 q3 q4 q5
  subst q2
  cases q5
  refine ⟨rfl, ?_⟩
  obtain ⟨f2', o2'⟩ := q4 162 hz _ _ o2
  show P (pc + 1 + 6 * n + 3, L, [.int w], h1, sz, sl)
  rw [show pc + 1 + 6 * n + 3 = pc + 4 + 6 * n by omega]
  refine lc_al_ok H c4 l2 rfl ?_
  rw [show pc + 4 + 6 * n + 1 = pc + 5 + 6 * n by omega]
  refine lc_args_ok H l0 l4 n 1 _ _ c5 hb ?_
  rw [show pc + 5 + 6 * n + 6 * n = pc + 5 + 12 * n by omega]
  refine lc_iv_ok H c6 o2' hz (lc_vals_len xs i n 1) (by show (1 : Nat) + 0 ≤ 8; omega) (wp_mono q3 ?_)
  rintro ⟨rv2, h2, sz2, sl2⟩ ⟨p1, p2, p3⟩
  dsimp only at p1 p2 p3
  cases p2
  subst p1
  refine ⟨rfl, ?_⟩
  show P (pc + 5 + 12 * n + 3, L, [.int w, .int w], h2, sz, sl)
  rw [show pc + 5 + 12 * n + 3 = pc + 8 + 12 * n by omega]
  exact lc_eq_ok H c7 p3
def kcX (v w a : Int) : con := (125, [(2, 0, 1), (0, v, w)], [], [some (0, a, a)], [], 10, 800, false)
theorem kcX_ok {v w a : Int} (e : con_chkS (kl bB cxF [cxt241, cxt245, cxt246]) PT bB 198 cxF cxJ cxjo cxP2 [(0, 1, 0, 0, [(-1), 0, 1, 2])] 477 (kcX v w a) = true) : con_ok PT bB 198 cxF cxQ (kcX v w a) := con_chkS_ok (fun _ _ h => h) cxpp (kl_ok (List.forall_mem_cons.mpr ⟨cxo241, List.forall_mem_cons.mpr ⟨cxo245, List.forall_mem_cons.mpr ⟨cxo246, fun _ h => (by cases h)⟩⟩⟩)) nw_class (fun h => by cases h) e
theorem kcx_lo : con_chkS (kl bB cxF [cxt241, cxt245, cxt246]) PT bB 198 cxF cxJ cxjo cxP2 [(0, 1, 0, 0, [(-1), 0, 1, 2])] 477 (kcX (-2147483648) (-1) 0) = true := by decide +kernel
theorem kcx_in : con_chkS (kl bB cxF [cxt241, cxt245, cxt246]) PT bB 198 cxF cxJ cxjo cxP2 [(0, 1, 0, 0, [(-1), 0, 1, 2])] 477 (kcX 0 2 1) = true := by decide +kernel
theorem kcx_hi : con_chkS (kl bB cxF [cxt241, cxt245, cxt246]) PT bB 198 cxF cxJ cxjo cxP2 [(0, 1, 0, 0, [(-1), 0, 1, 2])] 477 (kcX 3 2147483647 0) = true := by decide +kernel
theorem kc_in (x : Int32) : in_b x.toInt64 0 2 = decide (0 ≤ x.toInt ∧ x.toInt ≤ 2) := by
  unfold in_b
  have n1 : (0 : Int64).toInt = 0 := by decide
  have n2 : (2 : Int64).toInt = 2 := by decide
  have e1 : decide (x.toInt64 < 0) = decide (x.toInt < 0) := by
    rw [Bool.eq_iff_iff, decide_eq_true_iff, decide_eq_true_iff, Int64.lt_iff_toInt_lt, Int32.toInt_toInt64, n1]
  have e2 : decide ((2 : Int64) < x.toInt64) = decide (2 < x.toInt) := by
    rw [Bool.eq_iff_iff, decide_eq_true_iff, decide_eq_true_iff, Int64.lt_iff_toInt_lt, Int32.toInt_toInt64, n2]
  rw [e1, e2, Bool.eq_iff_iff, Bool.and_eq_true, decide_eq_true_iff, Bool.not_eq_true', Bool.not_eq_true', decide_eq_false_iff_not, decide_eq_false_iff_not]
  omega
def kpGoal (sl i : Nat) (xs : Nat → Int32) (L : pm_L) (h : pm_H) (P : pm_St → Prop) (x : Int32) : Prop := pm_WP PT 2047 (84000 - (19 + pm_max PT 125)) 125 (0, pm_l0 [.ref 0, .int x] (pm_max PT 125), [], h, 198, sl) (fun q => q.2.2 = (198, sl) ∧ ∃ v, q.1 = some v ∧ pm_WP PT 2047 (84000 - (19 + pm_max PT 264)) 264 (0, pm_l0 [.ref 162, .int x] (pm_max PT 264), [], q.2) (fun y => y.1 = some v ∧ y.2.2 = (198, sl) ∧ P (1443, L, [], y.2)))
theorem kp_box {v w a : Int} (hx : con_ok PT bB 198 cxF cxQ (kcX v w a)) (hI : mInv h) (kk : ∀ h2, mInv h2 → P (1443, L, [], h2, 198, sl)) (x : Int32) (q : av_ok (.int x) (0, v, w)) (ea : (cond (in_b x.toInt64 0 2) (1 : Int32) 0).toInt = a) : kpGoal sl i xs L h P x := by
  refine wp_mono (hx [.ref 0, .int x] h 2047 (84000 - (19 + pm_max PT 125)) sl ⟨⟨rfl, List.mem_singleton_self _⟩, q, trivial⟩ hI.1 trivial (Nat.le_of_ble_eq_true rfl) (Nat.le_of_ble_eq_true rfl)) ?_
  rintro ⟨rv, h1, s1⟩ ⟨⟨b, hb, hv⟩, q1, ⟨q2, -⟩, q3⟩
  cases q1
  cases List.mem_singleton.mp hb
  have hI1 := cx_inv hI q2 q3
  obtain ⟨y, rfl, y1, y2⟩ := ao_i hv
  refine ⟨rfl, .int y, rfl, ?_⟩
  refine wp_mono (hm_keep hI1 x (fr := 2047) (lo := 84000 - (19 + pm_max PT 264)) (Nat.le_of_ble_eq_true rfl) (Nat.le_of_ble_eq_true rfl)) ?_
  rintro ⟨rv2, h2, s2⟩ ⟨⟨p1, p2, p3, p4⟩, p5⟩
  dsimp only at p2 p4 p5
  cases p2
  have : y = cond (in_b x.toInt64 0 2) (1 : Int32) 0 := Int32.toInt_inj.1 (by omega)
  rw [this]
  exact ⟨p5, rfl, kk h2 p4⟩
theorem kp_all (hI : mInv h) (kk : ∀ h2, mInv h2 → P (1443, L, [], h2, 198, sl)) (x : Int32) : kpGoal sl i xs L h P x := by
  have r := ai_rng x
  have e := kc_in x
  by_cases z1 : x.toInt ≤ -1
  · exact kp_box (kcX_ok kcx_lo) hI kk x ⟨rfl, r.1, z1⟩ (by rw [e, decide_eq_false (by omega)]; rfl)
  by_cases z2 : 3 ≤ x.toInt
  · exact kp_box (kcX_ok kcx_hi) hI kk x ⟨rfl, z2, r.2⟩ (by rw [e, decide_eq_false (by omega)]; rfl)
  · exact kp_box (kcX_ok kcx_in) hI kk x ⟨rfl, by show (0 : Int) ≤ x.toInt; omega, by show x.toInt ≤ 2; omega⟩ (by rw [e, decide_eq_true (by omega)]; rfl)
theorem rs_turn : rsTurn sl bS Ln xs := by
  intro P i L h H hL hi hI kk
  obtain ⟨f1, o1⟩ := ty_0 hI.1
  obtain ⟨f2, o2⟩ := ty_162 hI.1
  exact lc_two_ok H (n := 1) (kx := 125) (km := 264) (pe := 1443) (by decide +kernel) hL (by omega) (by decide) o1 o2 (kp_all (i := i) (xs := xs) hI kk (xs (i + 1)))
end RST
