section MG95tzx0
/-! THE TEXT is empty behind courts, gifts, rule, year, law of the class -/
section ZCX
variable {n fr lo sl k pc j f t a ci : Nat} {h : pm_H} {L : pm_L} {r fs : List Value} {R : pm_Rs} {Q : pm_Rs → Prop}
def asT : List av := match bB 1 with
  | .inr (_, as) => as
  | _ => []
theorem asT_eq : bB 1 = .inr (8, asT) := rfl
theorem asT_1 : asT[1]? = some (0, 0, 80) := by decide +kernel
def zO : ah := [(1, .inr (8, asT.set 1 (0, 0, 0)))]
theorem gf_eq {v : Value} (hf : pm_fld PT (pm_o PT k) j = some (ci, f, t)) (ha : a < 198) (e : h a = .inr (ci, fs)) (e1 : fs[f]? = some v) : pm_simple PT fr lo k (.getfield j) pc L (.ref a :: r) h 198 sl = some (pc + 3, L, v :: r, h, 198, sl) := by
  show pm_gf PT k j pc L (.ref a :: r) h 198 sl = _
  unfold pm_gf pm_obj
  dsimp only
  rw [if_pos ha, e]
  dsimp only
  rw [hf]
  dsimp only
  rw [if_pos rfl, e1]
theorem pf_eq {v w : Value} (hf : pm_fld PT (pm_o PT k) j = some (ci, f, t)) (ht : pm_fits (t % 10) v = true) (ht2 : t < 10) (ha : a < 198) (e : h a = .inr (ci, fs)) (e1 : fs[f]? = some w) : pm_simple PT fr lo k (.putfield j) pc L (v :: .ref a :: r) h 198 sl = some (pc + 3, L, r, va_up h a (.inr (ci, fs.set f v)), 198, sl) := by
  show pm_pf PT k j pc L (v :: .ref a :: r) h 198 sl = _
  unfold pm_pf pm_obj
  dsimp only
  rw [if_pos ha, e]
  dsimp only
  rw [hf]
  dsimp only
  rw [if_pos ⟨rfl, (List.getElem?_eq_some_iff.mp e1).1, ht, Or.inl ht2⟩]
/-- the class's object has its text; the text's length -/
def x0 (h : pm_H) : Prop := ∃ fs, h 0 = .inr (10, fs) ∧ fs[0]? = some (.ref 1)
def cT (h : pm_H) (v : Value) : Prop := ∃ gs, h 1 = .inr (8, gs) ∧ gs[1]? = some v
theorem cT_fm {h' : pm_H} {v : Value} (q : fm (sfF sP) h h') (z : cT h v) : cT h' v := by
  obtain ⟨gs, e1, e2⟩ := z
  obtain ⟨gs', a1, -, a2⟩ := q.2 1 8 gs e1
  exact ⟨gs', a1, (a2 1 rfl).trans e2⟩
theorem x0_fm {h' : pm_H} (q : fm (sfF sP) h h') (z : x0 h) : x0 h' := by
  obtain ⟨gs, e1, e2⟩ := z
  obtain ⟨gs', a1, -, a2⟩ := q.2 0 10 gs e1
  exact ⟨gs', a1, (a2 0 rfl).trans e2⟩
theorem cT_up {v w : Value} (z : cT h w) : ∃ gs, h 1 = .inr (8, gs) ∧ gs[1]? = some w ∧ cT (va_up h 1 (.inr (8, gs.set 1 v))) v := by
  obtain ⟨gs, e1, e2⟩ := z
  refine ⟨gs, e1, e2, gs.set 1 v, by simp [va_up], ?_⟩
  rw [List.getElem?_set_self (List.getElem?_eq_some_iff.mp e2).1]
theorem zr_88 : sfr_ok sP sfK 88 13 := sfr_of (by decide +kernel)
theorem zr_89 : sfr_ok sP sfK 89 13 := sfr_of (by decide +kernel)
theorem zr_90 : sfr_ok sP sfK 90 16 := sfr_of (by decide +kernel)
theorem zr_122 : sfr_ok sP sfK 122 16 := sfr_of (by decide +kernel)
theorem zx_courts {w : Value} (h0 : x0 h) (h1 : cT h w) (hh : pm_run PT n fr lo 88 (0, pm_l0 [.ref 0] 3, [], h, 198, sl) = some R) : cT R.2.1 (.int 0) := by
  obtain ⟨n, hh⟩ := rn_i rfl rfl rfl rfl hh
  obtain ⟨n, fr', lo', r1, hr1, hh⟩ := rn_call (w := 0) (t := 129) rfl rfl hh
  have q := sf_run sfK_ok _ _ _ 129 _ r1 rfl hr1
  obtain ⟨v, ev⟩ := pm_run_ty _ _ _ _ _ _ (Or.inl rfl) hr1
  obtain ⟨rv, hp, sz1, sl1⟩ := r1
  dsimp only at ev q hh
  subst ev
  have hsz := sz_run sfK_ok _ _ _ _ _ _ rfl hr1
  dsimp only at hsz
  cases hsz
  obtain ⟨fs, e0, e0'⟩ := x0_fm q h0
  obtain ⟨gs, g1, g2, g3⟩ := cT_up (v := .int (Int32.ofInt 0)) (cT_fm q h1)
  obtain ⟨n, hh⟩ := rn_i rfl rfl rfl rfl hh
  obtain ⟨n, hh⟩ := rn_i rfl rfl rfl rfl hh
  obtain ⟨n, hh⟩ := rn_i rfl rfl rfl (gf_eq (f := 0) rfl (by decide) e0 e0') hh
  obtain ⟨n, hh⟩ := rn_i rfl rfl rfl rfl hh
  obtain ⟨n, hh⟩ := rn_i rfl rfl rfl (pf_eq (f := 1) rfl rfl (by decide) (by decide) g1 g2) hh
  exact cT_fm (sfr_run sfK_ok zr_88 n fr lo _ R (Nat.le_of_ble_eq_true rfl) hh) g3
theorem zx_gifts {w : Value} (h0 : x0 h) (h1 : cT h w) (hh : pm_run PT n fr lo 89 (0, pm_l0 [.ref 0] 2, [], h, 198, sl) = some R) : cT R.2.1 (.int 0) := by
  obtain ⟨n, hh⟩ := rn_i rfl rfl rfl rfl hh
  obtain ⟨n, fr', lo', r1, hr1, hh⟩ := rn_call (w := 0) (t := 130) rfl rfl hh
  have q := sf_run sfK_ok _ _ _ 130 _ r1 rfl hr1
  obtain ⟨v, ev⟩ := pm_run_ty _ _ _ _ _ _ (Or.inl rfl) hr1
  obtain ⟨rv, hp, sz1, sl1⟩ := r1
  dsimp only at ev q hh
  subst ev
  have hsz := sz_run sfK_ok _ _ _ _ _ _ rfl hr1
  dsimp only at hsz
  cases hsz
  obtain ⟨fs, e0, e0'⟩ := x0_fm q h0
  obtain ⟨gs, g1, g2, g3⟩ := cT_up (v := .int (Int32.ofInt 0)) (cT_fm q h1)
  obtain ⟨n, hh⟩ := rn_i rfl rfl rfl rfl hh
  obtain ⟨n, hh⟩ := rn_i rfl rfl rfl rfl hh
  obtain ⟨n, hh⟩ := rn_i rfl rfl rfl (gf_eq (f := 0) rfl (by decide) e0 e0') hh
  obtain ⟨n, hh⟩ := rn_i rfl rfl rfl rfl hh
  obtain ⟨n, hh⟩ := rn_i rfl rfl rfl (pf_eq (f := 1) rfl rfl (by decide) (by decide) g1 g2) hh
  exact cT_fm (sfr_run sfK_ok zr_89 n fr lo _ R (Nat.le_of_ble_eq_true rfl) hh) g3
theorem zx_rule {w : Value} (h0 : x0 h) {q : Value} (h9 : ∃ fs, h 0 = .inr (10, fs) ∧ fs[9]? = some q) (h1 : cT h w) (hh : pm_run PT n fr lo 90 (0, pm_l0 [.ref 0] 3, [], h, 198, sl) = some R) : cT R.2.1 (.int 0) := by
  obtain ⟨n, hh⟩ := rn_i rfl rfl rfl rfl hh
  obtain ⟨fs9, e9, e9'⟩ := h9
  obtain ⟨n, hh⟩ := rn_i rfl rfl rfl (gf_eq (f := 9) rfl (by decide) e9 e9') hh
  obtain ⟨n, fr', lo', r1, hr1, hh⟩ := rn_call (w := 0) (t := 58) rfl rfl hh
  have q := sf_run sfK_ok _ _ _ 58 _ r1 rfl hr1
  obtain ⟨v, ev⟩ := pm_run_ty _ _ _ _ _ _ (Or.inl rfl) hr1
  obtain ⟨rv, hp, sz1, sl1⟩ := r1
  dsimp only at ev q hh
  subst ev
  have hsz := sz_run sfK_ok _ _ _ _ _ _ rfl hr1
  dsimp only at hsz
  cases hsz
  obtain ⟨fs, e0, e0'⟩ := x0_fm q h0
  obtain ⟨gs, g1, g2, g3⟩ := cT_up (v := .int (Int32.ofInt 0)) (cT_fm q h1)
  obtain ⟨n, hh⟩ := rn_i rfl rfl rfl rfl hh
  obtain ⟨n, hh⟩ := rn_i rfl rfl rfl rfl hh
  obtain ⟨n, hh⟩ := rn_i rfl rfl rfl (gf_eq (f := 0) rfl (by decide) e0 e0') hh
  obtain ⟨n, hh⟩ := rn_i rfl rfl rfl rfl hh
  obtain ⟨n, hh⟩ := rn_i rfl rfl rfl (pf_eq (f := 1) rfl rfl (by decide) (by decide) g1 g2) hh
  exact cT_fm (sfr_run sfK_ok zr_90 n fr lo _ R (Nat.le_of_ble_eq_true rfl) hh) g3
theorem zx_law {w : Value} (h0 : x0 h) {q : Value} (h9 : ∃ fs, h 0 = .inr (10, fs) ∧ fs[9]? = some q) (h1 : cT h w) (hh : pm_run PT n fr lo 122 (0, pm_l0 [.ref 0] 4, [], h, 198, sl) = some R) : cT R.2.1 (.int 0) := by
  obtain ⟨n, hh⟩ := rn_i rfl rfl rfl rfl hh
  obtain ⟨fs9, e9, e9'⟩ := h9
  obtain ⟨n, hh⟩ := rn_i rfl rfl rfl (gf_eq (f := 9) rfl (by decide) e9 e9') hh
  obtain ⟨n, fr', lo', r1, hr1, hh⟩ := rn_call (w := 0) (t := 58) rfl rfl hh
  have q := sf_run sfK_ok _ _ _ 58 _ r1 rfl hr1
  obtain ⟨v, ev⟩ := pm_run_ty _ _ _ _ _ _ (Or.inl rfl) hr1
  obtain ⟨rv, hp, sz1, sl1⟩ := r1
  dsimp only at ev q hh
  subst ev
  have hsz := sz_run sfK_ok _ _ _ _ _ _ rfl hr1
  dsimp only at hsz
  cases hsz
  obtain ⟨fs, e0, e0'⟩ := x0_fm q h0
  obtain ⟨gs, g1, g2, g3⟩ := cT_up (v := .int (Int32.ofInt 0)) (cT_fm q h1)
  obtain ⟨n, hh⟩ := rn_i rfl rfl rfl rfl hh
  obtain ⟨n, hh⟩ := rn_i rfl rfl rfl rfl hh
  obtain ⟨n, hh⟩ := rn_i rfl rfl rfl (gf_eq (f := 0) rfl (by decide) e0 e0') hh
  obtain ⟨n, hh⟩ := rn_i rfl rfl rfl rfl hh
  obtain ⟨n, hh⟩ := rn_i rfl rfl rfl (pf_eq (f := 1) rfl rfl (by decide) (by decide) g1 g2) hh
  exact cT_fm (sfr_run sfK_ok zr_122 n fr lo _ R (Nat.le_of_ble_eq_true rfl) hh) g3
end ZCX
end MG95tzx0
section MG95tzx1
/-! THE TEXT's length: sign, end, and those that read it -/
section TXR
variable {n fr lo sl k i pc bS Ln : Nat} {h h1 : pm_H} {L : pm_L} {R : pm_Rs} {P : pm_St → Prop} {xs : Nat → Int32} {Q Q' : pm_Rs → Prop} {st : pm_St}
theorem rn_det {r : pm_Rs} (q : pm_WP PT fr lo k st Q) (hh : pm_run PT n fr lo k st = some r) : Q r := by
  obtain ⟨m, r', e, hq⟩ := q
  have a1 := pm_run_le (Nat.le_max_left m n) e
  have a2 := pm_run_le (Nat.le_max_right m n) hh
  rw [a1] at a2
  cases a2
  exact hq
theorem wp_det (q : pm_WP PT fr lo k st Q) (q' : pm_WP PT fr lo k st Q') : pm_WP PT fr lo k st (fun x => Q x ∧ Q' x) := by
  obtain ⟨m, r, e, hq⟩ := q
  exact ⟨m, r, e, hq, rn_det q' e⟩
def zc56 : con := (56, [(2, 3, 1), (1, (-9223372036854775808), 9223372036854775807), (1, (-9223372036854775808), 9223372036854775807)], zO, [none], zO, 10, 800, false)
def zc17 : con := (17, [(2, 25, 1)], zO, [none], zO, 5, 400, false)
theorem zk56 : con_chk (kl bB cxF []) PT bB 198 cxF cxJ cxjo cxP 700 zc56 = true := fq_chk1 (fq_jn_eq _) rfl (by decide +kernel)
theorem zk17 : con_chk (kl bB cxF []) PT bB 198 cxF cxJ cxjo cxP 700 zc17 = true := fq_chk1 (fq_jn_eq _) rfl (by decide +kernel)
theorem zo56 : con_ok PT bB 198 cxF cxQ zc56 := con_chk_ok (fun _ _ h => h) cxpp (kl_ok (fun _ h => by cases h)) nw_class (fun h => by cases h) zk56
theorem zo17 : con_ok PT bB 198 cxF cxQ zc17 := con_chk_ok (fun _ _ h => h) cxpp (kl_ok (fun _ h => by cases h)) nw_class (fun h => by cases h) zk17
def cz_year : con := (100, [(2, 0, 1)], [], [some (0, -2147483648, 2147483647)], zO, 30, 2400, false)
theorem zq_year : con_chkS (kl bB cxF [zc17, zc56, cxt33, cxt35, cxt42, cxt82, cxt97, cxt119, cxt120]) PT bB 198 cxF cxJ cxjo cxP2 [] 3117 cz_year = true := fq_chkS1 (fq_jn_eq _) rfl (by decide +kernel)
theorem zw_year : con_ok PT bB 198 cxF cxQ cz_year := con_chkS_ok (fun _ _ h => h) cxpp (kl_ok (List.forall_mem_cons.mpr ⟨zo17, List.forall_mem_cons.mpr ⟨zo56, List.forall_mem_cons.mpr ⟨cxo33, List.forall_mem_cons.mpr ⟨cxo35, List.forall_mem_cons.mpr ⟨cxo42, List.forall_mem_cons.mpr ⟨cxo82, List.forall_mem_cons.mpr ⟨cxo97, List.forall_mem_cons.mpr ⟨cxo119, List.forall_mem_cons.mpr ⟨cxo120, fun _ h => (by cases h)⟩⟩⟩⟩⟩⟩⟩⟩⟩)) nw_class (fun h => by cases h) zq_year
theorem asM_15 : asM[15]? = some (0, 0, 80) := by decide +kernel
end TXR
end MG95tzx1
section MG95tzx2
/-! THE TEXT's length: end, and what the types tell -/
section TXP
variable {P : pm_St → Prop} {sl bS Ln i pc : Nat} {xs : Nat → Int32} {L : pm_L} {h h1 : pm_H}
/-! end, by hand -/
theorem in_bc (x : Int32) {c : Nat} (hc : c ≤ 80) : in_b x.toInt64 0 (nI c).toInt64 = decide (0 ≤ x.toInt ∧ x.toInt ≤ (c : Int)) := by
  unfold in_b
  have n1 : (0 : Int64).toInt = 0 := by decide
  have n2 : (nI c).toInt64.toInt = (c : Int) := by rw [Int32.toInt_toInt64, nI_toInt (by omega)]
  have e1 : decide (x.toInt64 < 0) = decide (x.toInt < 0) := by
    rw [Bool.eq_iff_iff, decide_eq_true_iff, decide_eq_true_iff, Int64.lt_iff_toInt_lt, Int32.toInt_toInt64, n1]
  have e2 : decide ((nI c).toInt64 < x.toInt64) = decide ((c : Int) < x.toInt) := by
    rw [Bool.eq_iff_iff, decide_eq_true_iff, decide_eq_true_iff, Int64.lt_iff_toInt_lt, n2, Int32.toInt_toInt64]
  rw [e1, e2, Bool.eq_iff_iff, Bool.and_eq_true, decide_eq_true_iff, Bool.not_eq_true', Bool.not_eq_true', decide_eq_false_iff_not, decide_eq_false_iff_not]
  omega
/-- the class's end: what it answers, what the length is then -/
theorem en_x {fr lo : Nat} {fs : List Value} {c : Nat} (hc : c ≤ 80) (h0 : x0 h) (r1 : cT h (.int (nI c))) (y : Int32) : pm_WP PT fr lo 87 (0, pm_l0 [.ref 0, .int y] 2, [], h, 198, sl) (fun q => q.1 = some (.int (cond (decide (0 ≤ y.toInt ∧ y.toInt ≤ (c : Int))) 1 0)) ∧ cT q.2.1 (.int (cond (decide (0 ≤ y.toInt ∧ y.toInt ≤ (c : Int))) y (nI c)))) := by
  have cI : (nI c).toInt = (c : Int) := nI_toInt (by omega)
  have z0 : (0 : Int32).toInt = 0 := by decide
  obtain ⟨f0, e0, e0'⟩ := h0
  obtain ⟨gs, g1, g2, g3⟩ := cT_up (v := .int y) r1
  refine wp_i rfl rfl rfl rfl ?_
  refine wp_if (c := .lt) (off := 14) (t := 15) rfl rfl (fun q => ?_) (fun q => ?_)
  · have q := of_decide_eq_true q
    rw [Int32.lt_iff_toInt_lt, z0] at q
    rw [decide_eq_false (by omega)]
    refine wp_i rfl rfl rfl rfl ?_
    exact wp_zret rfl rfl (Or.inl rfl) ⟨rfl, gs, g1, g2⟩
  · have q := of_decide_eq_false q
    rw [Int32.lt_iff_toInt_lt, z0] at q
    refine wp_i rfl rfl rfl rfl ?_
    refine wp_i rfl rfl rfl rfl ?_
    refine wp_i rfl rfl rfl (gf_eq (f := 0) rfl (by decide) e0 e0') ?_
    refine wp_i rfl rfl rfl (gf_eq (f := 1) rfl (by decide) g1 g2) ?_
    refine wp_icmp (c := .le) (off := 5) (t := 17) rfl rfl (fun q2 => ?_) (fun q2 => ?_)
    · have q2 := of_decide_eq_true q2
      rw [Int32.le_iff_toInt_le, cI] at q2
      rw [decide_eq_true (by omega)]
      refine wp_i rfl rfl rfl rfl ?_
      refine wp_i rfl rfl rfl (gf_eq (f := 0) rfl (by decide) e0 e0') ?_
      refine wp_i rfl rfl rfl rfl ?_
      refine wp_i rfl rfl rfl (pf_eq (f := 1) rfl rfl (by decide) (by decide) g1 g2) ?_
      refine wp_i rfl rfl rfl rfl ?_
      exact wp_zret rfl rfl (Or.inr rfl) ⟨rfl, g3⟩
    · have q2 := of_decide_eq_false q2
      rw [Int32.le_iff_toInt_le, cI] at q2
      rw [decide_eq_false (by omega)]
      refine wp_i rfl rfl rfl rfl ?_
      exact wp_zret rfl rfl (Or.inl rfl) ⟨rfl, gs, g1, g2⟩
theorem en_m {fr lo : Nat} {c : Nat} {w : Int32} (hc : c ≤ 80) (h0 : mF h 0 (.int w)) (r2 : mF h 15 (.int (nI c))) (y : Int32) (hf : 1 ≤ fr) (hl : 100 ≤ lo) : pm_WP PT fr lo 179 (0, pm_l0 [.ref 162, .int y] 2, [], h, 198, sl) (fun q => q.1 = some (.int (cond (decide (0 ≤ y.toInt ∧ y.toInt ≤ (c : Int))) 1 0)) ∧ mF q.2.1 15 (.int (cond (decide (0 ≤ y.toInt ∧ y.toInt ≤ (c : Int))) y (nI c)))) := by
  have r3 : mF (mset h 0 (.int (Int32.ofInt 0))) 15 (.int (nI c)) := mF_ne (by decide) r2
  refine wp_i rfl rfl rfl rfl ?_
  refine wp_i rfl rfl rfl rfl ?_
  refine wp_pfm (w := .int w) rfl rfl rfl (by decide) h0 ?_
  refine wp_i rfl rfl rfl rfl ?_
  refine wp_i rfl rfl rfl rfl ?_
  refine wp_i rfl rfl rfl rfl ?_
  refine wp_i rfl rfl rfl rfl ?_
  refine wp_gfm rfl rfl r3 ?_
  refine wp_i rfl rfl rfl rfl ?_
  refine wp_callS (t := 163) (As := [.long (y).toInt64, .long 0, .long ((nI c)).toInt64]) (rest := []) (mx := 6) rfl rfl rfl rfl (Nat.le_of_ble_eq_true rfl) (Nat.le_of_ble_eq_true rfl) hf (by omega) (wp_mono (hd_in y.toInt64 0 (nI c).toInt64) ?_)
  rintro _ rfl
  rw [in_bc y hc]
  show pm_WP PT fr lo 179 (16, [some (.ref 162), some (.int y)], [.int (cond (decide (0 ≤ y.toInt ∧ y.toInt ≤ (c : Int))) 1 0)], mset h 0 (.int (Int32.ofInt 0)), 198, sl) _
  cases decide (0 ≤ y.toInt ∧ y.toInt ≤ (c : Int)) with
  | true =>
    refine wp_if (c := .ne) (off := 5) (t := 21) rfl rfl (fun q => ?_) (fun q => by cases q)
    refine wp_i rfl rfl rfl rfl ?_
    refine wp_i rfl rfl rfl rfl ?_
    refine wp_pfm (w := .int (nI c)) rfl rfl rfl (by decide) r3 ?_
    refine wp_i rfl rfl rfl rfl ?_
    exact wp_zret rfl rfl (Or.inr rfl) ⟨rfl, mF_self r3⟩
  | false =>
    refine wp_if (c := .ne) (off := 5) (t := 21) rfl rfl (fun q => by cases q) (fun q => ?_)
    refine wp_i rfl rfl rfl rfl ?_
    exact wp_zret rfl rfl (Or.inl rfl) ⟨rfl, r3⟩
def asX0 : List av := match bB 0 with
  | .inr (_, as) => as
  | _ => []
def asM0 : av := asM.getD 0 (0, 0, 0)
theorem ty_x0 (hh : ah_ok bB 198 [] h) : x0 h := by
  have h0 := hh 0 (by decide)
  obtain ⟨fs, ef, hl, hg⟩ := aE_obj (ci := 10) (as := asX0) h0 (by decide)
  have hlf : 0 < fs.length := by rw [hl]; exact Nat.le_of_ble_eq_true rfl
  have ev : fs[0]? = some fs[0] := List.getElem?_eq_getElem hlf
  have hv := hg 0 _ (2, 1, 1) ev rfl
  have hr : fs[0] = .ref 1 := by
    cases e : fs[0] with
    | ref p =>
      rw [e] at hv
      have := hv.2
      rw [show p = 1 from List.mem_singleton.mp this]
    | null => rw [e] at hv; exact absurd (show (2 : Nat) = 3 from hv) (by decide)
    | _ => rw [e] at hv; first | exact hv.elim | (cases hv.1)
  exact ⟨fs, ef, by rw [ev, hr]⟩
theorem ty_x9 (hh : ah_ok bB 198 [] h) : ∃ q fs, h 0 = .inr (10, fs) ∧ fs[9]? = some q := by
  have h0 := hh 0 (by decide)
  obtain ⟨fs, ef, hl, hg⟩ := aE_obj (ci := 10) (as := asX0) h0 (by decide)
  have hlf : 9 < fs.length := by rw [hl]; exact Nat.le_of_ble_eq_true rfl
  exact ⟨fs[9], fs, ef, List.getElem?_eq_getElem hlf⟩
theorem ty_m0 (hh : ah_ok bB 198 [] h) : ∃ w : Int32, mF h 0 (.int w) := by
  obtain ⟨v, m, a⟩ := ob_fld (o := []) hh asM_eq (g := 0) (a := asM0) rfl
  obtain ⟨x, rfl, -⟩ := av_int rfl a
  exact ⟨x, m⟩
theorem ty_m15 (hh : ah_ok bB 198 [] h) : ∃ w : Int32, mF h 15 (.int w) := by
  obtain ⟨v, m, a⟩ := ob_fld (o := []) hh asM_eq (g := 15) (a := (0, 0, 80)) asM_15
  obtain ⟨x, rfl, -⟩ := av_int rfl a
  exact ⟨x, m⟩
theorem zx_year {n : Nat} {R : pm_Rs} (hI : mInv h) (hh : pm_run PT n 2047 (84000 - (19 + pm_max PT 100)) 100 (0, pm_l0 [.ref 0] (pm_max PT 100), [], h, 198, sl) = some R) : cT R.2.1 (.int 0) := by
  obtain ⟨-, -, -, q⟩ := rn_det (zw_year [.ref 0] h 2047 (84000 - (19 + pm_max PT 100)) sl ⟨⟨rfl, List.mem_singleton_self _⟩, trivial⟩ hI.1 trivial (Nat.le_of_ble_eq_true rfl) (Nat.le_of_ble_eq_true rfl)) hh
  obtain ⟨-, fs, v, k1, k2, k3⟩ := ovf_out q (by decide) (by decide) asT_eq asT_1 (by decide)
  obtain ⟨u, rfl, u1, u2⟩ := av_int rfl k3
  have u1 : (0 : Int) ≤ u.toInt := u1
  have u2 : u.toInt ≤ 0 := u2
  have : u = 0 := Int32.toInt_inj.1 (by rw [show (0 : Int32).toInt = 0 by decide]; omega)
  subst this
  exact ⟨fs, k1, k2⟩
end TXP
end MG95tzx2
section MG95tzx3
/-! the reference's courts: what it reads, what it answers -/
section CMM
variable {n fr lo F Lo sl k pc t cc a rm : Nat} {h : pm_H} {tp : Nat → Int32} {R r : pm_Rs} {Q : pm_Rs → Prop} {st : pm_St}
theorem rn_dt (q : pm_WP PT F Lo k st Q) (hh : pm_run PT n fr lo k st = some r) : Q r := by
  obtain ⟨m, r', e, hq⟩ := q
  have a1 := pm_run_le (Nat.le_max_left m n) (pm_run_room m F Lo (max F fr) (max Lo lo) k st r' (Nat.le_max_left _ _) (Nat.le_max_left _ _) e)
  have a2 := pm_run_le (Nat.le_max_right m n) (pm_run_room n fr lo (max F fr) (max Lo lo) k st r (Nat.le_max_right _ _) (Nat.le_max_right _ _) hh)
  rw [a1] at a2
  cases a2
  exact hq
/-- the state of the reader -/
def pR (h : pm_H) (tp : Nat → Int32) (t cc a rm : Nat) : Prop := (mF h 16 (.int (nI a)) ∧ mF h 17 (.int (nI t)) ∧ mF h 14 (.ref 172) ∧ h 172 = .inl (0, 80, .inl tp)) ∧ mF h 20 (.int (nI rm)) ∧ mF h 3 (.int (nI cc)) ∧ mF h 19 (.ref 173) ∧ ∃ f, h 173 = .inl (0, 36, .inl f)
theorem pR_16 {b : Nat} (p : pR h tp t cc a rm) : pR (mset h 16 (.int (nI b))) tp t cc b rm := by
  obtain ⟨⟨p1, p2, p3, p4⟩, p5, p6, p7, f, p8⟩ := p
  exact ⟨⟨mF_self p1, mF_ne (by decide) p2, mF_ne (by decide) p3, mset_arr (by decide) p4⟩, mF_ne (by decide) p5, mF_ne (by decide) p6, mF_ne (by decide) p7, f, mset_arr (by decide) p8⟩
theorem pR_20 {b : Nat} (p : pR h tp t cc a rm) : pR (mset h 20 (.int (nI b))) tp t cc a b := by
  obtain ⟨⟨p1, p2, p3, p4⟩, p5, p6, p7, f, p8⟩ := p
  exact ⟨⟨mF_ne (by decide) p1, mF_ne (by decide) p2, mF_ne (by decide) p3, mset_arr (by decide) p4⟩, mF_self p5, mF_ne (by decide) p6, mF_ne (by decide) p7, f, mset_arr (by decide) p8⟩
theorem aset_mF {b m g : Nat} {e : Nat → Int32} {v : Value} (hn : b ≠ 162) (q : mF h g v) : mF (aset h b m e) g v := by
  obtain ⟨fs, e1, e2⟩ := q
  exact ⟨fs, by unfold aset; simp [va_up, Ne.symm hn, e1], e2⟩
theorem asR_ne {b m i : Nat} {e : Nat → Int32} (hn : i ≠ b) : aset h b m e i = h i := by
  unfold aset
  simp [va_up, hn]
theorem asR_self {b m : Nat} {e : Nat → Int32} : aset h b m e b = .inl (0, m, .inl e) := by
  unfold aset
  simp [va_up]
theorem pR_rd {e : Nat → Int32} (p : pR h tp t cc a rm) : pR (aset h 173 36 e) tp t cc a rm := by
  obtain ⟨⟨p1, p2, p3, p4⟩, p5, p6, p7, f, p8⟩ := p
  exact ⟨⟨aset_mF (by decide) p1, aset_mF (by decide) p2, aset_mF (by decide) p3, (asR_ne (by decide)).trans p4⟩, aset_mF (by decide) p5, aset_mF (by decide) p6, aset_mF (by decide) p7, e, asR_self⟩
/-- so many digits from a on: all there, and where it ends -/
def rcD (tp : Nat → Int32) (t : Nat) : Nat → Nat → Bool × Nat
  | 0, a => (true, a)
  | k + 1, a => cond (dg tp a t) (rcD tp t k (a + 1)) (false, a)
def rcC (tp : Nat → Int32) (t a : Nat) : Bool × Nat := cond (dgi tp a t 1 9) (rcD tp t 5 (a + 1)) (false, a)
theorem dg_val (q : dg tp a t = true) : 0 ≤ (tp a - 48).toInt ∧ (tp a - 48).toInt ≤ 9 := by
  obtain ⟨-, h1, h2⟩ := dg_iv q
  have e : (tp a - 48).toInt = (tp a).toInt - 48 := by
    rw [Int32.toInt_sub, show (48 : Int32).toInt = 48 by decide]
    exact Int.bmod_eq_of_le (by omega) (by omega)
  omega
theorem lt0_val {x : Int32} (q : 0 ≤ x.toInt) : pm_cmp .lt x 0 = false := by
  refine decide_eq_false (fun z => ?_)
  rw [Int32.lt_iff_toInt_lt, show (0 : Int32).toInt = 0 by decide] at z
  omega
theorem lt0_m1 : pm_cmp .lt (-1 : Int32) 0 = true := by decide
theorem rc_loop (ht : t ≤ 80) : ∀ (k i a n : Nat) (b : Bool) (h : pm_H), i + k = 5 → a < 100 → rm < 6 → pR h tp t cc a rm → pm_run PT n fr lo 187 (54, [some (.ref 162), some (.int (nI (6 * rm))), some (.int (cond b 1 0)), some (.int (nI i))], [], h, 198, sl) = some R → R.1 = some (.int (cond (cond b (rcD tp t k a) (false, a)).1 1 0)) ∧ pR R.2.1 tp t cc (cond b (rcD tp t k a) (false, a)).2 (rm + 1) ∧ R.2.2 = (198, sl) := by
  have fin : ∀ (i a n : Nat) (b : Bool) (h : pm_H), pR h tp t cc a rm → pm_run PT n fr lo 187 (103, [some (.ref 162), some (.int (nI (6 * rm))), some (.int (cond b 1 0)), some (.int (nI i))], [], h, 198, sl) = some R → R.1 = some (.int (cond b 1 0)) ∧ pR R.2.1 tp t cc a (rm + 1) ∧ R.2.2 = (198, sl) := by
    intro i a n b h p hh
    obtain ⟨n, hh⟩ := rn_i rfl rfl rfl rfl hh
    obtain ⟨n, hh⟩ := rn_i rfl rfl rfl rfl hh
    obtain ⟨n, hh⟩ := rn_gfm rfl rfl p.2.1 hh
    obtain ⟨n, hh⟩ := rn_i rfl rfl rfl rfl hh
    obtain ⟨n, hh⟩ := rn_i rfl rfl rfl rfl hh
    obtain ⟨n, hh⟩ := rn_pfm (w := .int (nI rm)) rfl rfl rfl (by decide) p.2.1 hh
    obtain ⟨n, hh⟩ := rn_i rfl rfl rfl rfl hh
    obtain ⟨-, rfl⟩ := rn_ret rfl (Or.inr rfl) hh
    have e : nI rm + Int32.ofInt 1 = nI (rm + 1) := (Int32.ofNat_add rm 1).symm
    refine ⟨rfl, ?_, rfl⟩
    show pR (mset h 20 (.int (nI rm + Int32.ofInt 1))) tp t cc a (rm + 1)
    rw [e]
    exact pR_20 p
  intro k
  induction k with
  | zero =>
    intro i a n b h hi ha hrm p hh
    have hi : i = 5 := by omega
    subst hi
    obtain ⟨n, hh⟩ := rn_i rfl rfl rfl rfl hh
    obtain ⟨n, hh⟩ := rn_i rfl rfl rfl rfl hh
    obtain ⟨n, hh⟩ := rn_icmp (cc := .ge) (off := 47) (t := 103) rfl rfl hh
    have hh : pm_run PT n fr lo 187 (103, [some (.ref 162), some (.int (nI (6 * rm))), some (.int (cond b 1 0)), some (.int (nI 5))], [], h, 198, sl) = some R := hh
    obtain ⟨e1, e2, e3⟩ := fin 5 a n b h p hh
    cases b
    · exact ⟨e1, e2, e3⟩
    · exact ⟨e1, e2, e3⟩
  | succ k ih =>
    intro i a n b h hi ha hrm p hh
    obtain ⟨n, hh⟩ := rn_i rfl rfl rfl rfl hh
    obtain ⟨n, hh⟩ := rn_i rfl rfl rfl rfl hh
    obtain ⟨n, hh⟩ := rn_icmp (cc := .ge) (off := 47) (t := 103) rfl rfl hh
    have ec : pm_cmp .ge (nI i) (Int32.ofInt 5) = false := by
      have := hI_ge (a := i) (b := 5) (by omega) (by omega)
      rw [decide_eq_false (by omega)] at this
      exact this
    rw [ec] at hh
    obtain ⟨n, hh⟩ := rn_i rfl rfl rfl rfl hh
    obtain ⟨n, hh⟩ := rn_if (cc := .eq) (off := 43) (t := 103) rfl rfl hh
    cases b with
    | false =>
      have hh : pm_run PT n fr lo 187 (103, [some (.ref 162), some (.int (nI (6 * rm))), some (.int (cond false 1 0)), some (.int (nI i))], [], h, 198, sl) = some R := hh
      exact fin i a n false h p hh
    | true =>
      have hh : pm_run PT n fr lo 187 (63, [some (.ref 162), some (.int (nI (6 * rm))), some (.int 1), some (.int (nI i))], [], h, 198, sl) = some R := hh
      obtain ⟨⟨q1, q2, q3, q4⟩, q5, q6, q7, f, q8⟩ := id p
      obtain ⟨n, hh⟩ := rn_i rfl rfl rfl rfl hh
      obtain ⟨n, hh⟩ := rn_gfm rfl rfl q7 hh
      obtain ⟨n, hh⟩ := rn_i rfl rfl rfl rfl hh
      obtain ⟨n, hh⟩ := rn_i rfl rfl rfl rfl hh
      obtain ⟨n, hh⟩ := rn_i rfl rfl rfl rfl hh
      obtain ⟨n, hh⟩ := rn_i rfl rfl rfl rfl hh
      obtain ⟨n, hh⟩ := rn_i rfl rfl rfl rfl hh
      obtain ⟨n, hh⟩ := rn_i rfl rfl rfl rfl hh
      obtain ⟨n, hh⟩ := rn_i rfl rfl rfl rfl hh
      obtain ⟨n, fr', lo', r1, hr1, hh⟩ := rn_call (w := 0) (t := 184) rfl rfl hh
      have er := rn_dt (F := 10) (Lo := 1000) (hd_number (fr := 10) (lo := 1000) (sl := sl) q1 q2 q3 q4 ht (by omega) (by decide) (by decide) (d := 1) (by decide)) hr1
      have ei : nI (6 * rm) + Int32.ofInt 1 + nI i = nI (6 * rm + 1 + i) := by
        rw [show nI (6 * rm) + Int32.ofInt 1 = nI (6 * rm + 1) from (Int32.ofNat_add (6 * rm) 1).symm]
        exact (Int32.ofNat_add (6 * rm + 1) i).symm
      have hin : pm_in (nI (6 * rm + 1 + i)) 36 = true := hI_in (by omega) (by decide)
      cases hd : dg tp a t with
      | false =>
        rw [hd] at er
        dsimp only [cond] at er
        subst er
        have hh : pm_run PT n fr lo 187 (77, [some (.ref 162), some (.int (nI (6 * rm))), some (.int 1), some (.int (nI i))], [.int (-1), .int (nI (6 * rm) + Int32.ofInt 1 + nI i), .ref 173], h, 198, sl) = some R := hh
        rw [ei] at hh
        obtain ⟨n, hh⟩ := rn_ism rfl q8 hin (by decide) hh
        have p' := pR_rd (e := upd f (nI (6 * rm + 1 + i)).toNatClampNeg (-1)) p
        obtain ⟨n, hh⟩ := rn_i rfl rfl rfl rfl hh
        obtain ⟨n, hh⟩ := rn_gfm rfl rfl p'.2.2.2.1 hh
        obtain ⟨n, hh⟩ := rn_i rfl rfl rfl rfl hh
        obtain ⟨n, hh⟩ := rn_i rfl rfl rfl rfl hh
        obtain ⟨n, hh⟩ := rn_i rfl rfl rfl rfl hh
        obtain ⟨n, hh⟩ := rn_i rfl rfl rfl rfl hh
        obtain ⟨n, hh⟩ := rn_i rfl rfl rfl rfl hh
        have hh : pm_run PT n fr lo 187 (87, [some (.ref 162), some (.int (nI (6 * rm))), some (.int 1), some (.int (nI i))], [.int (nI (6 * rm) + Int32.ofInt 1 + nI i), .ref 173], _, 198, sl) = some R := hh
        rw [ei] at hh
        obtain ⟨n, hh⟩ := rn_iam rfl asR_self hin (by decide) hh
        have eu : upd f (nI (6 * rm + 1 + i)).toNatClampNeg (-1) (nI (6 * rm + 1 + i)).toNatClampNeg = (-1 : Int32) := by simp [upd]
        rw [eu] at hh
        obtain ⟨n, hh⟩ := rn_if (cc := .lt) (off := 7) (t := 95) rfl rfl hh
        rw [lt0_m1] at hh
        obtain ⟨n, hh⟩ := rn_i rfl rfl rfl rfl hh
        obtain ⟨n, hh⟩ := rn_i rfl rfl rfl rfl hh
        obtain ⟨n, hh⟩ := rn_i rfl rfl rfl rfl hh
        obtain ⟨n, hh⟩ := rn_i rfl rfl rfl rfl hh
        have e1 : nI i + Int32.ofInt 1 = nI (i + 1) := (Int32.ofNat_add i 1).symm
        have hh : pm_run PT n fr lo 187 (54, [some (.ref 162), some (.int (nI (6 * rm))), some (.int (cond false 1 0)), some (.int (nI i + Int32.ofInt 1))], [], aset h 173 36 (upd f (nI (6 * rm + 1 + i)).toNatClampNeg (-1)), 198, sl) = some R := hh
        rw [e1] at hh
        have hr := ih (i + 1) a n false _ (by omega) ha hrm p' hh
        show R.1 = some (.int (cond (rcD tp t (k + 1) a).1 1 0)) ∧ pR R.2.1 tp t cc (rcD tp t (k + 1) a).2 (rm + 1) ∧ R.2.2 = (198, sl)
        unfold rcD
        rw [hd]
        exact hr
      | true =>
        rw [hd] at er
        dsimp only [cond] at er
        subst er
        have en : nbr tp t 1 a 0 = (a + 1, 10 * 0 + tp a - 48) := by
          show nbr tp t (0 + 1) a 0 = _
          rw [nbr_gt t hd]
          rfl
        have ev : (10 * 0 + tp a - 48 : Int32) = tp a - 48 := by simp
        rw [en, ev] at hh
        obtain ⟨v1, v2⟩ := dg_val hd
        have p0 : pR (mset h 16 (.int (nI (a + 1)))) tp t cc (a + 1) rm := pR_16 p
        have hh : pm_run PT n fr lo 187 (77, [some (.ref 162), some (.int (nI (6 * rm))), some (.int 1), some (.int (nI i))], [.int (tp a - 48), .int (nI (6 * rm) + Int32.ofInt 1 + nI i), .ref 173], mset h 16 (.int (nI (a + 1))), 198, sl) = some R := hh
        rw [ei] at hh
        obtain ⟨f0, q80⟩ := p0.2.2.2.2
        obtain ⟨n, hh⟩ := rn_ism rfl q80 hin (by decide) hh
        have p' := pR_rd (e := upd f0 (nI (6 * rm + 1 + i)).toNatClampNeg (tp a - 48)) p0
        obtain ⟨n, hh⟩ := rn_i rfl rfl rfl rfl hh
        obtain ⟨n, hh⟩ := rn_gfm rfl rfl p'.2.2.2.1 hh
        obtain ⟨n, hh⟩ := rn_i rfl rfl rfl rfl hh
        obtain ⟨n, hh⟩ := rn_i rfl rfl rfl rfl hh
        obtain ⟨n, hh⟩ := rn_i rfl rfl rfl rfl hh
        obtain ⟨n, hh⟩ := rn_i rfl rfl rfl rfl hh
        obtain ⟨n, hh⟩ := rn_i rfl rfl rfl rfl hh
        have hh : pm_run PT n fr lo 187 (87, [some (.ref 162), some (.int (nI (6 * rm))), some (.int 1), some (.int (nI i))], [.int (nI (6 * rm) + Int32.ofInt 1 + nI i), .ref 173], _, 198, sl) = some R := hh
        rw [ei] at hh
        obtain ⟨n, hh⟩ := rn_iam rfl asR_self hin (by decide) hh
        have eu : upd f0 (nI (6 * rm + 1 + i)).toNatClampNeg (tp a - 48) (nI (6 * rm + 1 + i)).toNatClampNeg = tp a - 48 := by simp [upd]
        rw [eu] at hh
        obtain ⟨n, hh⟩ := rn_if (cc := .lt) (off := 7) (t := 95) rfl rfl hh
        rw [lt0_val v1] at hh
        obtain ⟨n, hh⟩ := rn_i rfl rfl rfl rfl hh
        obtain ⟨n, hh⟩ := rn_i rfl rfl rfl rfl hh
        obtain ⟨n, hh⟩ := rn_i rfl rfl rfl rfl hh
        obtain ⟨n, hh⟩ := rn_i rfl rfl rfl rfl hh
        obtain ⟨n, hh⟩ := rn_i rfl rfl rfl rfl hh
        have e1 : nI i + Int32.ofInt 1 = nI (i + 1) := (Int32.ofNat_add i 1).symm
        have hh : pm_run PT n fr lo 187 (54, [some (.ref 162), some (.int (nI (6 * rm))), some (.int (cond true 1 0)), some (.int (nI i + Int32.ofInt 1))], [], aset (mset h 16 (.int (nI (a + 1)))) 173 36 (upd f0 (nI (6 * rm + 1 + i)).toNatClampNeg (tp a - 48)), 198, sl) = some R := hh
        rw [e1] at hh
        have hat : a < t := dg_lt hd
        have hr := ih (i + 1) (a + 1) n true _ (by omega) (by omega) hrm p' hh
        show R.1 = some (.int (cond (rcD tp t (k + 1) a).1 1 0)) ∧ pR R.2.1 tp t cc (rcD tp t (k + 1) a).2 (rm + 1) ∧ R.2.2 = (198, sl)
        unfold rcD
        rw [hd]
        exact hr
theorem dgi_val (q : dgi tp a t 1 9 = true) : a < t ∧ 0 ≤ (tp a - 48).toInt := by
  unfold dgi in_b at q
  rw [Bool.and_eq_true, Bool.and_eq_true] at q
  refine ⟨of_decide_eq_true q.1, ?_⟩
  have e1 : ¬ (tp a - 48).toInt64 < (1 : Int32).toInt64 := by simpa using q.2.1
  rw [Int64.lt_iff_toInt_lt, Int32.toInt_toInt64, Int32.toInt_toInt64, show (1 : Int32).toInt = 1 by decide] at e1
  omega
theorem rcD_le : ∀ (k a : Nat), a ≤ t → (rcD tp t k a).2 ≤ t
  | 0, a, h => h
  | k + 1, a, h => by
    unfold rcD
    cases hd : dg tp a t with
    | true => exact rcD_le k (a + 1) (dg_lt hd)
    | false => exact h
theorem rcC_le (ha : a ≤ t) : (rcC tp t a).2 ≤ t := by
  unfold rcC
  cases hd : dgi tp a t 1 9 with
  | true => exact rcD_le 5 (a + 1) (dgi_val hd).1
  | false => exact ha
theorem rc_reads (ht : t ≤ 80) (ha : a < 99) (hcr : cc + rm ≤ 6) (p : pR h tp t cc a rm) (hh : pm_run PT n fr lo 187 (0, pm_l0 [.ref 162] 4, [], h, 198, sl) = some R) : R.1 = some (.int (cond (cond (decide (cc + rm = 6)) (false, a) (rcC tp t a)).1 1 0)) ∧ pR R.2.1 tp t cc (cond (decide (cc + rm = 6)) (false, a) (rcC tp t a)).2 (cond (decide (cc + rm = 6)) rm (rm + 1)) ∧ R.2.2 = (198, sl) := by
  obtain ⟨⟨q1, q2, q3, q4⟩, q5, q6, q7, f, q8⟩ := id p
  obtain ⟨n, hh⟩ := rn_i rfl rfl rfl rfl hh
  obtain ⟨n, hh⟩ := rn_gfm rfl rfl q6 hh
  obtain ⟨n, hh⟩ := rn_i rfl rfl rfl rfl hh
  obtain ⟨n, hh⟩ := rn_gfm rfl rfl q5 hh
  obtain ⟨n, hh⟩ := rn_i rfl rfl rfl rfl hh
  obtain ⟨n, hh⟩ := rn_i rfl rfl rfl rfl hh
  obtain ⟨n, hh⟩ := rn_icmp (cc := .ne) (off := 5) (t := 16) rfl rfl hh
  have ec : pm_cmp .ne ((fun x y => x + y) (nI cc) (nI rm)) (Int8.ofInt 6).toInt32 = decide (¬ (cc + rm = 6)) := by
    show pm_cmp .ne (nI cc + nI rm) (nI 6) = _
    rw [nI_add]
    exact hI_ne (by omega) (by omega)
  rw [ec] at hh
  by_cases z : cc + rm = 6
  · rw [decide_eq_false (fun q => q z)] at hh
    rw [decide_eq_true z]
    obtain ⟨n, hh⟩ := rn_i rfl rfl rfl rfl hh
    obtain ⟨-, rfl⟩ := rn_ret rfl (Or.inr rfl) hh
    exact ⟨rfl, p, rfl⟩
  · rw [decide_eq_true z] at hh
    rw [decide_eq_false z]
    have hh : pm_run PT n fr lo 187 (16, [some (.ref 162), none, none, none], [], h, 198, sl) = some R := hh
    obtain ⟨n, hh⟩ := rn_i rfl rfl rfl rfl hh
    obtain ⟨n, hh⟩ := rn_i rfl rfl rfl rfl hh
    obtain ⟨n, hh⟩ := rn_gfm rfl rfl q5 hh
    obtain ⟨n, hh⟩ := rn_i rfl rfl rfl rfl hh
    obtain ⟨n, hh⟩ := rn_i rfl rfl rfl rfl hh
    have e6 : (Int8.ofInt 6).toInt32 * nI rm = nI (6 * rm) := hI_mul 6 rm
    have hh : pm_run PT n fr lo 187 (24, [some (.ref 162), some (.int ((Int8.ofInt 6).toInt32 * nI rm)), none, none], [], h, 198, sl) = some R := hh
    rw [e6] at hh
    obtain ⟨n, hh⟩ := rn_i rfl rfl rfl rfl hh
    obtain ⟨n, hh⟩ := rn_gfm rfl rfl q7 hh
    obtain ⟨n, hh⟩ := rn_i rfl rfl rfl rfl hh
    obtain ⟨n, hh⟩ := rn_i rfl rfl rfl rfl hh
    obtain ⟨n, hh⟩ := rn_i rfl rfl rfl rfl hh
    obtain ⟨n, hh⟩ := rn_i rfl rfl rfl rfl hh
    obtain ⟨n, fr', lo', r1, hr1, hh⟩ := rn_call (w := 0) (t := 185) rfl rfl hh
    have er := rn_dt (F := 10) (Lo := 1000) (hd_digitIn (fr := 10) (lo := 1000) (sl := sl) q1 q2 q3 q4 ht (by omega) (by decide) (by decide) 1 9) hr1
    have hin : pm_in (nI (6 * rm)) 36 = true := hI_in (by omega) (by decide)
    cases hd : dgi tp a t 1 9 with
    | false =>
      rw [hd] at er
      dsimp only [cond] at er
      subst er
      have hh : pm_run PT n fr lo 187 (36, [some (.ref 162), some (.int (nI (6 * rm))), none, none], [.int (-1), .int (nI (6 * rm)), .ref 173], h, 198, sl) = some R := hh
      obtain ⟨n, hh⟩ := rn_ism rfl q8 hin (by decide) hh
      have p' := pR_rd (e := upd f (nI (6 * rm)).toNatClampNeg (-1)) p
      obtain ⟨n, hh⟩ := rn_i rfl rfl rfl rfl hh
      obtain ⟨n, hh⟩ := rn_gfm rfl rfl p'.2.2.2.1 hh
      obtain ⟨n, hh⟩ := rn_i rfl rfl rfl rfl hh
      obtain ⟨n, hh⟩ := rn_iam rfl asR_self hin (by decide) hh
      have eu : upd f (nI (6 * rm)).toNatClampNeg (-1) (nI (6 * rm)).toNatClampNeg = (-1 : Int32) := by simp [upd]
      rw [eu] at hh
      obtain ⟨n, hh⟩ := rn_if (cc := .lt) (off := 7) (t := 50) rfl rfl hh
      rw [lt0_m1] at hh
      obtain ⟨n, hh⟩ := rn_i rfl rfl rfl rfl hh
      obtain ⟨n, hh⟩ := rn_i rfl rfl rfl rfl hh
      obtain ⟨n, hh⟩ := rn_i rfl rfl rfl rfl hh
      obtain ⟨n, hh⟩ := rn_i rfl rfl rfl rfl hh
      have hh : pm_run PT n fr lo 187 (54, [some (.ref 162), some (.int (nI (6 * rm))), some (.int (cond false 1 0)), some (.int (nI 0))], [], aset h 173 36 (upd f (nI (6 * rm)).toNatClampNeg (-1)), 198, sl) = some R := hh
      have hr := rc_loop ht 5 0 a n false _ rfl (by omega) (by omega) p' hh
      show R.1 = some (.int (cond (rcC tp t a).1 1 0)) ∧ pR R.2.1 tp t cc (rcC tp t a).2 (rm + 1) ∧ R.2.2 = (198, sl)
      unfold rcC
      rw [hd]
      exact hr
    | true =>
      rw [hd] at er
      dsimp only [cond] at er
      subst er
      obtain ⟨v0, v1⟩ := dgi_val hd
      have p0 : pR (mset h 16 (.int (nI (a + 1)))) tp t cc (a + 1) rm := pR_16 p
      have hh : pm_run PT n fr lo 187 (36, [some (.ref 162), some (.int (nI (6 * rm))), none, none], [.int (tp a - 48), .int (nI (6 * rm)), .ref 173], mset h 16 (.int (nI (a + 1))), 198, sl) = some R := hh
      obtain ⟨f0, q80⟩ := p0.2.2.2.2
      obtain ⟨n, hh⟩ := rn_ism rfl q80 hin (by decide) hh
      have p' := pR_rd (e := upd f0 (nI (6 * rm)).toNatClampNeg (tp a - 48)) p0
      obtain ⟨n, hh⟩ := rn_i rfl rfl rfl rfl hh
      obtain ⟨n, hh⟩ := rn_gfm rfl rfl p'.2.2.2.1 hh
      obtain ⟨n, hh⟩ := rn_i rfl rfl rfl rfl hh
      obtain ⟨n, hh⟩ := rn_iam rfl asR_self hin (by decide) hh
      have eu : upd f0 (nI (6 * rm)).toNatClampNeg (tp a - 48) (nI (6 * rm)).toNatClampNeg = tp a - 48 := by simp [upd]
      rw [eu] at hh
      obtain ⟨n, hh⟩ := rn_if (cc := .lt) (off := 7) (t := 50) rfl rfl hh
      rw [lt0_val v1] at hh
      obtain ⟨n, hh⟩ := rn_i rfl rfl rfl rfl hh
      obtain ⟨n, hh⟩ := rn_i rfl rfl rfl rfl hh
      obtain ⟨n, hh⟩ := rn_i rfl rfl rfl rfl hh
      obtain ⟨n, hh⟩ := rn_i rfl rfl rfl rfl hh
      obtain ⟨n, hh⟩ := rn_i rfl rfl rfl rfl hh
      have hh : pm_run PT n fr lo 187 (54, [some (.ref 162), some (.int (nI (6 * rm))), some (.int (cond true 1 0)), some (.int (nI 0))], [], aset (mset h 16 (.int (nI (a + 1)))) 173 36 (upd f0 (nI (6 * rm)).toNatClampNeg (tp a - 48)), 198, sl) = some R := hh
      have hr := rc_loop ht 5 0 (a + 1) n true _ rfl (by omega) (by omega) p' hh
      show R.1 = some (.int (cond (rcC tp t a).1 1 0)) ∧ pR R.2.1 tp t cc (rcC tp t a).2 (rm + 1) ∧ R.2.2 = (198, sl)
      unfold rcC
      rw [hd]
      exact hr
/-- all LINES: did the last one stand, where it ends, how many were begun -/
def spL (tp : Nat → Int32) (t cc : Nat) : Nat → Nat → Nat → Bool × Nat × Nat
  | 0, rm, a => (false, a, rm)
  | k + 1, rm, a => cond (decide (cc + rm = 6)) (false, a, rm) (cond (rcC tp t a).1 (cond (decide ((rcC tp t a).2 < t ∧ tp (rcC tp t a).2 = 59)) (spL tp t cc k (rm + 1) ((rcC tp t a).2 + 1)) (true, (rcC tp t a).2, rm + 1)) (false, (rcC tp t a).2, rm + 1))
theorem cm_loop (ht : t ≤ 80) {n0 : Int32} : ∀ (k rm a n : Nat) (h : pm_H), cc + rm + k = 7 → 0 < k → a ≤ t → pR h tp t cc a rm → pm_run PT n fr lo 188 (29, [some (.ref 162), some (.int n0), some (.int 1), some (.int 1), none, none, none], [], h, 198, sl) = some R → ∃ m h', pm_run PT m fr lo 188 (60, [some (.ref 162), some (.int n0), some (.int (cond (spL tp t cc k rm a).1 1 0)), some (.int 0), none, none, none], [], h', 198, sl) = some R ∧ pR h' tp t cc (spL tp t cc k rm a).2.1 (spL tp t cc k rm a).2.2 := by
  have out : ∀ (n : Nat) (b : Int32) (h : pm_H), pm_run PT n fr lo 188 (29, [some (.ref 162), some (.int n0), some (.int b), some (.int 0), none, none, none], [], h, 198, sl) = some R → ∃ m, pm_run PT m fr lo 188 (60, [some (.ref 162), some (.int n0), some (.int b), some (.int 0), none, none, none], [], h, 198, sl) = some R := by
    intro n b h hh
    obtain ⟨n, hh⟩ := rn_i rfl rfl rfl rfl hh
    obtain ⟨n, hh⟩ := rn_if (cc := .eq) (off := 30) (t := 60) rfl rfl hh
    exact ⟨n, hh⟩
  intro k
  induction k with
  | zero => intro rm a n h hk h0; exact absurd h0 (by omega)
  | succ k ih =>
    intro rm a n h hk h0 ha p hh
    obtain ⟨n, hh⟩ := rn_i rfl rfl rfl rfl hh
    obtain ⟨n, hh⟩ := rn_if (cc := .eq) (off := 30) (t := 60) rfl rfl hh
    have hh : pm_run PT n fr lo 188 (33, [some (.ref 162), some (.int n0), some (.int 1), some (.int 1), none, none, none], [], h, 198, sl) = some R := hh
    obtain ⟨n, hh⟩ := rn_i rfl rfl rfl rfl hh
    obtain ⟨n, fr', lo', r1, hr1, hh⟩ := rn_call (w := 0) (t := 187) rfl rfl hh
    obtain ⟨e1, e2, e3⟩ := rc_reads ht (by omega) (by omega) p hr1
    obtain ⟨rv, h1, s1⟩ := r1
    dsimp only at e1 e2 e3
    subst e1
    subst e3
    show ∃ m h', pm_run PT m fr lo 188 (60, [some (.ref 162), some (.int n0), some (.int (cond (spL tp t cc (k + 1) rm a).1 1 0)), some (.int 0), none, none, none], [], h', 198, sl) = some R ∧ pR h' tp t cc (spL tp t cc (k + 1) rm a).2.1 (spL tp t cc (k + 1) rm a).2.2
    unfold spL
    cases z : decide (cc + rm = 6) with
    | true =>
      rw [z] at e2 hh
      have hh : pm_run PT n fr lo 188 (37, [some (.ref 162), some (.int n0), some (.int 1), some (.int 1), none, none, none], [.int 0], h1, 198, sl) = some R := hh
      obtain ⟨n, hh⟩ := rn_i rfl rfl rfl rfl hh
      obtain ⟨n, hh⟩ := rn_i rfl rfl rfl rfl hh
      obtain ⟨n, hh⟩ := rn_if (cc := .eq) (off := 16) (t := 55) rfl rfl hh
      have hh : pm_run PT n fr lo 188 (55, [some (.ref 162), some (.int n0), some (.int 0), some (.int 1), none, none, none], [], h1, 198, sl) = some R := hh
      obtain ⟨n, hh⟩ := rn_i rfl rfl rfl rfl hh
      obtain ⟨n, hh⟩ := rn_i rfl rfl rfl rfl hh
      obtain ⟨n, hh⟩ := rn_i rfl rfl rfl rfl hh
      obtain ⟨m, hm⟩ := out n 0 h1 hh
      exact ⟨m, h1, hm, e2⟩
    | false =>
      rw [z] at e2 hh
      dsimp only [cond] at e2 ⊢
      cases y : (rcC tp t a).1 with
      | false =>
        have hh : pm_run PT n fr lo 188 (37, [some (.ref 162), some (.int n0), some (.int 1), some (.int 1), none, none, none], [.int 0], h1, 198, sl) = some R := by rw [← hh]; dsimp only [cond]; rw [y]; rfl
        obtain ⟨n, hh⟩ := rn_i rfl rfl rfl rfl hh
        obtain ⟨n, hh⟩ := rn_i rfl rfl rfl rfl hh
        obtain ⟨n, hh⟩ := rn_if (cc := .eq) (off := 16) (t := 55) rfl rfl hh
        have hh : pm_run PT n fr lo 188 (55, [some (.ref 162), some (.int n0), some (.int 0), some (.int 1), none, none, none], [], h1, 198, sl) = some R := hh
        obtain ⟨n, hh⟩ := rn_i rfl rfl rfl rfl hh
        obtain ⟨n, hh⟩ := rn_i rfl rfl rfl rfl hh
        obtain ⟨n, hh⟩ := rn_i rfl rfl rfl rfl hh
        obtain ⟨m, hm⟩ := out n 0 h1 hh
        exact ⟨m, h1, hm, e2⟩
      | true =>
        have hh : pm_run PT n fr lo 188 (37, [some (.ref 162), some (.int n0), some (.int 1), some (.int 1), none, none, none], [.int 1], h1, 198, sl) = some R := by rw [← hh]; dsimp only [cond]; rw [y]; rfl
        have hle : (rcC tp t a).2 ≤ t := rcC_le ha
        generalize (rcC tp t a).2 = b at *
        obtain ⟨n, hh⟩ := rn_i rfl rfl rfl rfl hh
        obtain ⟨n, hh⟩ := rn_i rfl rfl rfl rfl hh
        obtain ⟨n, hh⟩ := rn_if (cc := .eq) (off := 16) (t := 55) rfl rfl hh
        have hh : pm_run PT n fr lo 188 (42, [some (.ref 162), some (.int n0), some (.int 1), some (.int 1), none, none, none], [], h1, 198, sl) = some R := hh
        obtain ⟨n, hh⟩ := rn_i rfl rfl rfl rfl hh
        obtain ⟨n, hh⟩ := rn_i rfl rfl rfl rfl hh
        obtain ⟨n, fr', lo', r1, hr1, hh⟩ := rn_call (w := 0) (t := 181) rfl rfl hh
        obtain ⟨⟨q1, q2, q3, q4⟩, -⟩ := id e2
        have er := rn_dt (F := 10) (Lo := 1000) (hd_takes (fr := 10) (lo := 1000) (sl := sl) q1 q2 q3 q4 ht (by omega) (by decide) (by decide) 59) hr1
        cases x : decide (b < t ∧ tp b = 59) with
        | false =>
          rw [x] at er
          dsimp only [cond] at er
          subst er
          have hh : pm_run PT n fr lo 188 (48, [some (.ref 162), some (.int n0), some (.int 1), some (.int 1), none, none, none], [.int 0], mset h1 16 (.int (nI (b + 0))), 198, sl) = some R := hh
          obtain ⟨n, hh⟩ := rn_if (cc := .eq) (off := 7) (t := 55) rfl rfl hh
          have hh : pm_run PT n fr lo 188 (55, [some (.ref 162), some (.int n0), some (.int 1), some (.int 1), none, none, none], [], mset h1 16 (.int (nI (b + 0))), 198, sl) = some R := hh
          obtain ⟨n, hh⟩ := rn_i rfl rfl rfl rfl hh
          obtain ⟨n, hh⟩ := rn_i rfl rfl rfl rfl hh
          obtain ⟨n, hh⟩ := rn_i rfl rfl rfl rfl hh
          obtain ⟨m, hm⟩ := out n 1 _ hh
          exact ⟨m, _, hm, pR_16 e2⟩
        | true =>
          rw [x] at er
          dsimp only [cond] at er
          subst er
          have xx := of_decide_eq_true x
          have hh : pm_run PT n fr lo 188 (48, [some (.ref 162), some (.int n0), some (.int 1), some (.int 1), none, none, none], [.int 1], mset h1 16 (.int (nI (b + 1))), 198, sl) = some R := hh
          obtain ⟨n, hh⟩ := rn_if (cc := .eq) (off := 7) (t := 55) rfl rfl hh
          have hh : pm_run PT n fr lo 188 (51, [some (.ref 162), some (.int n0), some (.int 1), some (.int 1), none, none, none], [], mset h1 16 (.int (nI (b + 1))), 198, sl) = some R := hh
          obtain ⟨n, hh⟩ := rn_i rfl rfl rfl rfl hh
          obtain ⟨n, hh⟩ := rn_i rfl rfl rfl rfl hh
          obtain ⟨n, hh⟩ := rn_i rfl rfl rfl rfl hh
          obtain ⟨n, hh⟩ := rn_i rfl rfl rfl rfl hh
          have zz := of_decide_eq_false z
          exact ih (rm + 1) (b + 1) n _ (by omega) (by omega) (by omega) (pR_16 e2) hh
end CMM
end MG95tzx3
section MG95tzx4
/-! the reference's faultOf -/
section FOO
variable {n fr lo sl t a : Nat} {h : pm_H} {R : pm_Rs} {N M B : Int32}
theorem fo_end (q1 : mF h 16 (.int (nI a))) (c : Bool) (hh : pm_run PT n fr lo 186 (44, [some (.ref 162), some (.int N), some (.int M), some (.int B), some (.int (cond c 1 0))], [], h, 198, sl) = some R) : R = (some (.int (cond c (Int32.ofInt 0) (Int32.ofInt (-1) - nI a))), h, 198, sl) := by
  obtain ⟨n, hh⟩ := rn_i rfl rfl rfl rfl hh
  obtain ⟨n, hh⟩ := rn_if (cc := .eq) (off := 7) (t := 53) rfl rfl hh
  cases c with
  | true =>
    have hh : pm_run PT n fr lo 186 (49, [some (.ref 162), some (.int N), some (.int M), some (.int B), some (.int 1)], [], h, 198, sl) = some R := hh
    obtain ⟨n, hh⟩ := rn_i rfl rfl rfl rfl hh
    obtain ⟨n, hh⟩ := rn_i rfl rfl rfl rfl hh
    exact (rn_ret rfl (Or.inl rfl) hh).2
  | false =>
    have hh : pm_run PT n fr lo 186 (53, [some (.ref 162), some (.int N), some (.int M), some (.int B), some (.int 0)], [], h, 198, sl) = some R := hh
    obtain ⟨n, hh⟩ := rn_i rfl rfl rfl rfl hh
    obtain ⟨n, hh⟩ := rn_i rfl rfl rfl rfl hh
    obtain ⟨n, hh⟩ := rn_gfm rfl rfl q1 hh
    obtain ⟨n, hh⟩ := rn_i rfl rfl rfl rfl hh
    exact (rn_ret rfl (Or.inl rfl) hh).2
theorem fo_m (c : Int32) (hh : pm_run PT n fr lo 186 (40, [some (.ref 162), some (.int N), some (.int M), some (.int B), some (.int c)], [], h, 198, sl) = some R) : R = (some (.int (Int32.ofInt (-1) - M)), h, 198, sl) := by
  obtain ⟨n, hh⟩ := rn_i rfl rfl rfl rfl hh
  obtain ⟨n, hh⟩ := rn_i rfl rfl rfl rfl hh
  obtain ⟨n, hh⟩ := rn_i rfl rfl rfl rfl hh
  exact (rn_ret rfl (Or.inl rfl) hh).2
def fO2 (n m a : Nat) (c : Bool) : Int32 := if m < n ∧ (c = true ∨ m ≤ a) then Int32.ofInt (-1) - nI m else cond c (Int32.ofInt 0) (Int32.ofInt (-1) - nI a)
def fO (n m t a : Nat) (b : Bool) : Int32 := fO2 n m a (b && decide (a = t))
theorem fo_two {n0 m : Nat} (hn : n0 ≤ 80) (hm : m ≤ 80) (ha : a < 100) (q1 : mF h 16 (.int (nI a))) (c : Bool) (hh : pm_run PT n fr lo 186 (22, [some (.ref 162), some (.int (nI n0)), some (.int (nI m)), some (.int B), some (.int (cond c 1 0))], [], h, 198, sl) = some R) : R = (some (.int (fO2 n0 m a c)), h, 198, sl) := by
  unfold fO2
  obtain ⟨n, hh⟩ := rn_i rfl rfl rfl rfl hh
  obtain ⟨n, hh⟩ := rn_i rfl rfl rfl rfl hh
  obtain ⟨n, hh⟩ := rn_icmp (cc := .le) (off := 20) (t := 44) rfl rfl hh
  rw [hI_le (by omega) (by omega)] at hh
  by_cases z : n0 ≤ m
  · rw [decide_eq_true z] at hh
    rw [if_neg (by omega)]
    exact fo_end q1 c hh
  · rw [decide_eq_false z] at hh
    obtain ⟨n, hh⟩ := rn_i rfl rfl rfl rfl hh
    obtain ⟨n, hh⟩ := rn_if (cc := .ne) (off := 11) (t := 40) rfl rfl hh
    cases c with
    | true =>
      rw [if_pos ⟨by omega, Or.inl rfl⟩]
      exact fo_m _ hh
    | false =>
      have hh : pm_run PT n fr lo 186 (32, [some (.ref 162), some (.int (nI n0)), some (.int (nI m)), some (.int B), some (.int (cond false 1 0))], [], h, 198, sl) = some R := hh
      obtain ⟨n, hh⟩ := rn_i rfl rfl rfl rfl hh
      obtain ⟨n, hh⟩ := rn_gfm rfl rfl q1 hh
      obtain ⟨n, hh⟩ := rn_i rfl rfl rfl rfl hh
      obtain ⟨n, hh⟩ := rn_icmp (cc := .lt) (off := 7) (t := 44) rfl rfl hh
      rw [hI_lt (by omega) (by omega)] at hh
      by_cases y : a < m
      · rw [decide_eq_true y] at hh
        rw [if_neg (fun q => by rcases q.2 with q | q; cases q; omega)]
        exact fo_end q1 false hh
      · rw [decide_eq_false y] at hh
        rw [if_pos ⟨by omega, Or.inr (by omega)⟩]
        exact fo_m _ hh
theorem fo_run {n0 m : Nat} {b : Bool} (hn : n0 ≤ 80) (hm : m ≤ 80) (ht : t ≤ 80) (ha : a < 100) (q1 : mF h 16 (.int (nI a))) (q2 : mF h 17 (.int (nI t))) (hh : pm_run PT n fr lo 186 (0, pm_l0 [.ref 162, .int (nI n0), .int (nI m), .int (cond b 1 0)] 5, [], h, 198, sl) = some R) : R = (some (.int (fO n0 m t a b)), h, 198, sl) := by
  unfold fO
  obtain ⟨n, hh⟩ := rn_i rfl rfl rfl rfl hh
  obtain ⟨n, hh⟩ := rn_if (cc := .eq) (off := 18) (t := 19) rfl rfl hh
  cases b with
  | false =>
    have hh : pm_run PT n fr lo 186 (19, [some (.ref 162), some (.int (nI n0)), some (.int (nI m)), some (.int 0), none], [], h, 198, sl) = some R := hh
    obtain ⟨n, hh⟩ := rn_i rfl rfl rfl rfl hh
    obtain ⟨n, hh⟩ := rn_i rfl rfl rfl rfl hh
    exact fo_two hn hm ha q1 false hh
  | true =>
    have hh : pm_run PT n fr lo 186 (4, [some (.ref 162), some (.int (nI n0)), some (.int (nI m)), some (.int 1), none], [], h, 198, sl) = some R := hh
    obtain ⟨n, hh⟩ := rn_i rfl rfl rfl rfl hh
    obtain ⟨n, hh⟩ := rn_gfm rfl rfl q1 hh
    obtain ⟨n, hh⟩ := rn_i rfl rfl rfl rfl hh
    obtain ⟨n, hh⟩ := rn_gfm rfl rfl q2 hh
    obtain ⟨n, hh⟩ := rn_icmp (cc := .ne) (off := 7) (t := 19) rfl rfl hh
    rw [hI_ne (by omega) (by omega)] at hh
    by_cases z : a = t
    · rw [decide_eq_false (fun q => q z)] at hh
      rw [decide_eq_true z]
      obtain ⟨n, hh⟩ := rn_i rfl rfl rfl rfl hh
      obtain ⟨n, hh⟩ := rn_i rfl rfl rfl rfl hh
      obtain ⟨n, hh⟩ := rn_i rfl rfl rfl rfl hh
      exact fo_two hn hm ha q1 true hh
    · rw [decide_eq_true z] at hh
      rw [decide_eq_false z]
      obtain ⟨n, hh⟩ := rn_i rfl rfl rfl rfl hh
      obtain ⟨n, hh⟩ := rn_i rfl rfl rfl rfl hh
      exact fo_two hn hm ha q1 false hh
end FOO
end MG95tzx4
section MG95tzx5
/-! the reference's courts: the LINES come -/
section CMN
variable {n fr lo sl k pc sz j cc r : Nat} {h : pm_H} {L : pm_L} {S : List Value} {R : pm_Rs}
theorem vd_run {n fr lo k : Nat} {st : pm_St} {r : pm_Rs} (hr : pm_ret PT k = none) (hh : pm_run PT n fr lo k st = some r) : r.1 = none := by
  induction n generalizing st with
  | zero => cases hh
  | succ n ih =>
    unfold pm_run at hh
    split at hh
    · rename_i r' e1
      cases hh
      unfold pm_end at e1
      split at e1
      · cases e1
      · split at e1
        · split at e1
          · rename_i rv er
            cases e1
            unfold pm_rets at er
            rw [hr] at er
            repeat' split at er
            all_goals first
              | (cases er; done)
              | (cases ‹(none : Option FieldType) = some _›; done)
              | (cases er; rfl)
          · cases e1
        · cases e1
    · split at hh
      · exact ih hh
      · cases hh
theorem ld_eq {tt nn : Nat} {v : Value} (hg : pm_get L j = some v) (hT : pm_isT tt v = true) : pm_lo tt nn pc j L S h sz sl = some (pc + nn, L, v :: S, h, sz, sl) := by
  unfold pm_lo pm_ld
  rw [hg]
  dsimp only
  rw [if_pos hT]
theorem iinc_eq {x : Int32} {d : Int} (hg : pm_get L j = some (.int x)) (hj : j < pm_max PT k) : pm_simple PT fr lo k (.iinc j d) pc L S h sz sl = some (pc + 3, pm_st1 L j (.int (x + Int32.ofInt d)), S, h, sz, sl) := by
  show (match pm_get L j with
    | some (.int x) => if j < pm_max PT k then some (pc + 3, pm_st1 L j (.int (x + Int32.ofInt d)), S, h, sz, sl) else none
    | _ => none) = _
  rw [hg]
  exact if_pos hj
theorem rn_aln {j : Fin 4} {v : Value} (hi : pm_ins PT k pc = some (.aload_n j, 1)) (hg : pm_get L j.val = some v) (hT : pm_isT 2 v = true) (hh : pm_run PT n fr lo k (pc, L, S, h, 198, sl) = some R) : ∃ m, pm_run PT m fr lo k (pc + 1, L, v :: S, h, 198, sl) = some R := rn_i hi rfl rfl (show pm_lo 2 1 pc j.val L S h 198 sl = _ from ld_eq hg hT) hh
theorem rn_iln {j : Fin 4} {v : Value} (hi : pm_ins PT k pc = some (.iload_n j, 1)) (hg : pm_get L j.val = some v) (hT : pm_isT 0 v = true) (hh : pm_run PT n fr lo k (pc, L, S, h, 198, sl) = some R) : ∃ m, pm_run PT m fr lo k (pc + 1, L, v :: S, h, 198, sl) = some R := rn_i hi rfl rfl (show pm_lo 0 1 pc j.val L S h 198 sl = _ from ld_eq hg hT) hh
theorem rn_il {j : Nat} {v : Value} (hi : pm_ins PT k pc = some (.iload j, 2)) (hg : pm_get L j = some v) (hT : pm_isT 0 v = true) (hh : pm_run PT n fr lo k (pc, L, S, h, 198, sl) = some R) : ∃ m, pm_run PT m fr lo k (pc + 2, L, v :: S, h, 198, sl) = some R := rn_i hi rfl rfl (show pm_lo 0 2 pc j L S h 198 sl = _ from ld_eq hg hT) hh
theorem get_lt {v : Value} (hg : pm_get L j = some v) : j < L.length := by
  unfold pm_get at hg
  split at hg
  · rename_i e
    exact (List.getElem?_eq_some_iff.mp e).1
  · cases hg
theorem cut_len (i : Nat) : (pm_cut L i).length = L.length := by
  unfold pm_cut
  split
  · rfl
  · split
    · exact List.length_set
    · rfl
theorem get_st1 {v w : Value} (hg : pm_get L j = some w) : pm_get (pm_st1 L j v) j = some v := by
  have := get_lt hg
  unfold pm_st1 pm_get
  rw [List.getElem?_set_self (by rw [cut_len]; exact this)]
def cmP (ci f : Nat) : Bool := Nat.beq ci 11 && (Nat.beq f 3 || Nat.beq f 20)
def cmK (k : Nat) : Bool := Nat.beq k 165 || (Nat.beq k 189 || Nat.beq k 190)
def cmJ (j : Nat) : Bool := Nat.beq j 0 || Nat.beq j 5
theorem cmK_in (k : Nat) (h : cmK k = true) : k ∈ [165, 189, 190] := by
  unfold cmK at h
  rw [Bool.or_eq_true, Bool.or_eq_true] at h
  rcases h with h | h | h
  · rw [Nat.eq_of_beq_eq_true h]; decide
  · rw [Nat.eq_of_beq_eq_true h]; decide
  · rw [Nat.eq_of_beq_eq_true h]; decide
theorem cm_ok : sf_ok cmP cmK := sf_of cmK_in (by decide +kernel)
theorem cm_blk : blk_ok cmP cmK cmJ 188 90 200 := blk_of (by decide +kernel)
theorem cm_add (hr : r ≤ 6) (hc : cc ≤ 6) : ∀ (d k n : Nat) (L : pm_L) (S : List Value) (h : pm_H), k + d = r → pm_get L 0 = some (.ref 162) → pm_get L 5 = some (.int (nI k)) → mF h 20 (.int (nI r)) → mF h 3 (.int (nI (cc + k))) → pm_run PT n fr lo 188 (81, L, S, h, 198, sl) = some R → R.1 = some (.int (nI r)) ∧ mF R.2.1 3 (.int (nI (cc + r))) := by
  intro d
  induction d with
  | zero =>
    intro k n L S h hk h0 h5 q20 q3 hh
    have hk : k = r := by omega
    subst hk
    obtain ⟨n, hh⟩ := rn_il rfl h5 rfl hh
    obtain ⟨n, hh⟩ := rn_aln rfl h0 rfl hh
    obtain ⟨n, hh⟩ := rn_gfm rfl rfl q20 hh
    obtain ⟨n, hh⟩ := rn_icmp (cc := .ge) (off := 129) (t := 216) rfl rfl hh
    rw [hI_ge (by omega) (by omega), decide_eq_true (Nat.le_refl _)] at hh
    have hh : pm_run PT n fr lo 188 (216, L, S, h, 198, sl) = some R := hh
    obtain ⟨n, hh⟩ := rn_aln rfl h0 rfl hh
    obtain ⟨n, fr', lo', r1, hr1, hh⟩ := rn_call (w := 0) (t := 190) rfl rfl hh
    have hf := sf_run cm_ok _ _ _ 190 _ r1 rfl hr1
    have hz := sz_run cm_ok _ _ _ 190 _ r1 rfl hr1
    have hv := vd_run rfl hr1
    obtain ⟨rv, h1, s1⟩ := r1
    dsimp only at hf hz hv
    subst hz
    subst hv
    have hh : pm_run PT n fr lo 188 (220, L, S, h1, 198, sl) = some R := hh
    obtain ⟨n, hh⟩ := rn_aln rfl h0 rfl hh
    obtain ⟨n, hh⟩ := rn_gfm rfl rfl (fm_mF hf rfl q20) hh
    obtain ⟨-, rfl⟩ := rn_ret rfl (Or.inl rfl) hh
    exact ⟨rfl, fm_mF hf rfl q3⟩
  | succ d ih =>
    intro k n L S h hk h0 h5 q20 q3 hh
    obtain ⟨n, hh⟩ := rn_il rfl h5 rfl hh
    obtain ⟨n, hh⟩ := rn_aln rfl h0 rfl hh
    obtain ⟨n, hh⟩ := rn_gfm rfl rfl q20 hh
    obtain ⟨n, hh⟩ := rn_icmp (cc := .ge) (off := 129) (t := 216) rfl rfl hh
    rw [hI_ge (by omega) (by omega), decide_eq_false (by omega)] at hh
    have hh : pm_run PT n fr lo 188 (90, L, S, h, 198, sl) = some R := hh
    obtain ⟨n, L', S', h', hh, hl, hf⟩ := blk_run cm_ok cm_blk n fr lo _ R (Nat.le_of_ble_eq_true rfl) (Nat.le_of_ble_eq_true rfl) hh
    dsimp only at hl hf hh
    have g0 := hl 0 _ rfl h0 rfl
    have g5 := hl 5 _ rfl h5 rfl
    have q3' := fm_mF hf rfl q3
    have q20' := fm_mF hf rfl q20
    have hh : pm_run PT n fr lo 188 (200, L', S', h', 198, sl) = some R := hh
    obtain ⟨n, hh⟩ := rn_aln rfl g0 rfl hh
    obtain ⟨n, hh⟩ := rn_i rfl rfl rfl rfl hh
    obtain ⟨n, hh⟩ := rn_gfm rfl rfl q3' hh
    obtain ⟨n, hh⟩ := rn_i rfl rfl rfl rfl hh
    obtain ⟨n, hh⟩ := rn_i rfl rfl rfl rfl hh
    obtain ⟨n, hh⟩ := rn_pfm (w := .int (nI (cc + k))) rfl rfl rfl (by decide) q3' hh
    obtain ⟨n, hh⟩ := rn_i rfl rfl rfl (iinc_eq g5 (Nat.le_of_ble_eq_true rfl)) hh
    obtain ⟨n, hh⟩ := rn_i rfl rfl rfl rfl hh
    have e1 : nI (cc + k) + Int32.ofInt 1 = nI (cc + (k + 1)) := (Int32.ofNat_add (cc + k) 1).symm
    have e2 : nI k + Int32.ofInt 1 = nI (k + 1) := (Int32.ofNat_add k 1).symm
    have hh : pm_run PT n fr lo 188 (81, pm_st1 L' 5 (.int (nI k + Int32.ofInt 1)), S', mset h' 3 (.int (nI (cc + k) + Int32.ofInt 1)), 198, sl) = some R := hh
    rw [e1, e2] at hh
    exact ih (k + 1) n _ S' _ (by omega) (lkp_st1 (J := fun j => Nat.beq j 0) rfl 0 _ rfl g0 rfl) (get_st1 g5) (mF_ne (by decide) q20') (mF_self q3') hh
end CMN
end MG95tzx5
section MG95tzx6
/-! the reference's courts, whole -/
section CMW
variable {n fr lo sl n0 cc : Nat} {h : pm_H} {R : pm_Rs} {tp : Nat → Int32}
def cmS (tp : Nat → Int32) (n0 cc : Nat) : Bool × Nat × Nat := cond (Nat.beq n0 0) (true, 0, 0) (spL tp (min n0 41) cc (7 - cc) 0 0)
def cmF (tp : Nat → Int32) (n0 cc : Nat) : Int32 := fO n0 41 (min n0 41) (cmS tp n0 cc).2.1 (cmS tp n0 cc).1
def cmA (tp : Nat → Int32) (n0 cc : Nat) : Int32 := cond (pm_cmp .ge (cmF tp n0 cc) 0) (nI (cmS tp n0 cc).2.2) (cmF tp n0 cc)
def cmN (tp : Nat → Int32) (n0 cc : Nat) : Nat := cond (pm_cmp .ge (cmF tp n0 cc) 0) (cmS tp n0 cc).2.2 0
theorem spL_bd {t : Nat} : ∀ (k rm a : Nat), a ≤ t → (spL tp t cc k rm a).2.1 ≤ t ∧ rm ≤ (spL tp t cc k rm a).2.2 ∧ (cc + rm ≤ 6 → cc + (spL tp t cc k rm a).2.2 ≤ 6)
  | 0, rm, a, ha => ⟨ha, Nat.le_refl _, fun q => q⟩
  | k + 1, rm, a, ha => by
    unfold spL
    cases z : decide (cc + rm = 6) with
    | true => exact ⟨ha, Nat.le_refl _, fun q => q⟩
    | false =>
      have zz := of_decide_eq_false z
      have hle := rcC_le (tp := tp) ha
      dsimp only [cond]
      cases (rcC tp t a).1 with
      | false => exact ⟨hle, Nat.le_succ _, fun q => by show cc + (rm + 1) ≤ 6; omega⟩
      | true =>
        dsimp only
        cases x : decide ((rcC tp t a).2 < t ∧ tp (rcC tp t a).2 = 59) with
        | false => exact ⟨hle, Nat.le_succ _, fun q => by show cc + (rm + 1) ≤ 6; omega⟩
        | true =>
          have xx := of_decide_eq_true x
          obtain ⟨a1, a2, a3⟩ := spL_bd (t := t) k (rm + 1) ((rcC tp t a).2 + 1) (by omega)
          exact ⟨a1, Nat.le_trans (Nat.le_succ rm) a2, fun q => a3 (by omega)⟩
theorem cm_run {w x16 x17 x18 x20 : Int32} {f : Nat → Int32} (hn : n0 ≤ 80) (hc : cc ≤ 6) (h0 : mF h 0 (.int w)) (h15 : mF h 15 (.int (nI n0))) (h16 : mF h 16 (.int x16)) (h17 : mF h 17 (.int x17)) (h18 : mF h 18 (.int x18)) (h20 : mF h 20 (.int x20)) (h3 : mF h 3 (.int (nI cc))) (h14 : mF h 14 (.ref 172)) (hA : h 172 = .inl (0, 80, .inl tp)) (h19 : mF h 19 (.ref 173)) (hB : h 173 = .inl (0, 36, .inl f)) (hh : pm_run PT n fr lo 188 (0, pm_l0 [.ref 162] 7, [], h, 198, sl) = some R) : R.1 = some (.int (cmA tp n0 cc)) ∧ mF R.2.1 3 (.int (nI (cc + cmN tp n0 cc))) := by
  obtain ⟨n, hh⟩ := rn_i rfl rfl rfl rfl hh
  obtain ⟨n, hh⟩ := rn_i rfl rfl rfl rfl hh
  obtain ⟨n, hh⟩ := rn_pfm (w := .int w) rfl rfl rfl (by decide) h0 hh
  obtain ⟨n, hh⟩ := rn_i rfl rfl rfl rfl hh
  obtain ⟨n, hh⟩ := rn_i rfl rfl rfl rfl hh
  obtain ⟨n, fr', lo', r1, hr1, hh⟩ := rn_call (w := 0) (t := 180) rfl rfl hh
  have g15 : mF (mset h 0 (.int (Int32.ofInt 0))) 15 (.int (nI n0)) := mF_ne (by decide) h15
  have er := rn_dt (F := 10) (Lo := 1000) (hd_begins (fr := 10) (lo := 1000) (sl := sl) (m := 41) g15 (mF_ne (by decide) h16) (mF_ne (by decide) h17) (mF_ne (by decide) h18) hn (by decide) (by decide) (by decide)) hr1
  subst er
  have mm : ∀ (g : Nat) (v : Value), g ≠ 0 → g ≠ 15 → g ≠ 16 → g ≠ 18 → g ≠ 17 → mF h g v → mF (hbeg (mset h 0 (.int (Int32.ofInt 0))) n0 41) g v := fun g v a0 a1 a2 a3 a4 q => mF_ne (Ne.symm a4) (mF_ne (Ne.symm a3) (mF_ne (Ne.symm a2) (mF_ne (Ne.symm a1) (mF_ne (Ne.symm a0) q))))
  have p20 : mF (hbeg (mset h 0 (.int (Int32.ofInt 0))) n0 41) 20 (.int x20) := mm 20 _ (by decide) (by decide) (by decide) (by decide) (by decide) h20
  have pp : pR (mset (hbeg (mset h 0 (.int (Int32.ofInt 0))) n0 41) 20 (.int (nI 0))) tp (min n0 41) cc 0 0 := by
    refine ⟨⟨mF_ne (by decide) ?_, mF_ne (by decide) ?_, mF_ne (by decide) (mm 14 _ (by decide) (by decide) (by decide) (by decide) (by decide) h14), ?_⟩, mF_self p20, mF_ne (by decide) (mm 3 _ (by decide) (by decide) (by decide) (by decide) (by decide) h3), mF_ne (by decide) (mm 19 _ (by decide) (by decide) (by decide) (by decide) (by decide) h19), f, ?_⟩
    · exact mF_ne (by decide) (mF_ne (by decide) (mF_self (w := .int x16) (mF_ne (by decide) (mF_ne (by decide) h16))))
    · exact mF_self (w := .int x17) (mF_ne (by decide) (mF_ne (by decide) (mF_ne (by decide) (mF_ne (by decide) h17))))
    · exact mset_arr (by decide) (mset_arr (by decide) (mset_arr (by decide) (mset_arr (by decide) (mset_arr (by decide) (mset_arr (by decide) hA)))))
    · exact mset_arr (by decide) (mset_arr (by decide) (mset_arr (by decide) (mset_arr (by decide) (mset_arr (by decide) (mset_arr (by decide) hB)))))
  have hh : pm_run PT n fr lo 188 (11, [some (.ref 162), none, none, none, none, none, none], [.int (nI n0)], hbeg (mset h 0 (.int (Int32.ofInt 0))) n0 41, 198, sl) = some R := hh
  generalize hbeg (mset h 0 (.int (Int32.ofInt 0))) n0 41 = hb at *
  obtain ⟨n, hh⟩ := rn_i rfl rfl rfl rfl hh
  obtain ⟨n, hh⟩ := rn_i rfl rfl rfl rfl hh
  obtain ⟨n, hh⟩ := rn_i rfl rfl rfl rfl hh
  obtain ⟨n, hh⟩ := rn_pfm (w := .int x20) rfl rfl rfl (by decide) p20 hh
  obtain ⟨n, hh⟩ := rn_i rfl rfl rfl rfl hh
  obtain ⟨n, hh⟩ := rn_i rfl rfl rfl rfl hh
  obtain ⟨n, hh⟩ := rn_i rfl rfl rfl rfl hh
  obtain ⟨n, hh⟩ := rn_if (cc := .le) (off := 7) (t := 27) rfl rfl hh
  have sec : ∀ (n : Nat) (hq : pm_H) (b : Bool) (at_ rm : Nat) (x3 : Int32), at_ ≤ min n0 41 → cc + rm ≤ 6 → pR hq tp (min n0 41) cc at_ rm → pm_run PT n fr lo 188 (60, [some (.ref 162), some (.int (nI n0)), some (.int (cond b 1 0)), some (.int x3), none, none, none], [], hq, 198, sl) = some R → R.1 = some (.int (cond (pm_cmp .ge (fO n0 41 (min n0 41) at_ b) 0) (nI rm) (fO n0 41 (min n0 41) at_ b))) ∧ mF R.2.1 3 (.int (nI (cc + cond (pm_cmp .ge (fO n0 41 (min n0 41) at_ b) 0) rm 0))) := by
    intro n hq b at_ rm x3 hat hrm p hh
    obtain ⟨n, hh⟩ := rn_i rfl rfl rfl rfl hh
    obtain ⟨n, hh⟩ := rn_i rfl rfl rfl rfl hh
    obtain ⟨n, hh⟩ := rn_i rfl rfl rfl rfl hh
    obtain ⟨n, hh⟩ := rn_i rfl rfl rfl rfl hh
    obtain ⟨n, fr', lo', r1, hr1, hh⟩ := rn_call (w := 0) (t := 186) rfl rfl hh
    have er := fo_run (m := 41) hn (by decide) (by omega) (by omega) p.1.1 p.1.2.1 hr1
    subst er
    generalize hF : fO n0 41 (min n0 41) at_ b = F at *
    have hh : pm_run PT n fr lo 188 (68, [some (.ref 162), some (.int (nI n0)), some (.int (cond b 1 0)), some (.int x3), none, none, none], [.int F], hq, 198, sl) = some R := hh
    obtain ⟨n, hh⟩ := rn_i rfl rfl rfl rfl hh
    obtain ⟨n, hh⟩ := rn_i rfl rfl rfl rfl hh
    obtain ⟨n, hh⟩ := rn_if (cc := .ge) (off := 6) (t := 78) rfl rfl hh
    cases hge : pm_cmp .ge F 0 with
    | false =>
      rw [hge] at hh
      obtain ⟨n, hh⟩ := rn_i rfl rfl rfl rfl hh
      obtain ⟨-, rfl⟩ := rn_ret rfl (Or.inl rfl) hh
      exact ⟨rfl, p.2.2.1⟩
    | true =>
      rw [hge] at hh
      obtain ⟨n, hh⟩ := rn_i rfl rfl rfl rfl hh
      obtain ⟨n, hh⟩ := rn_i rfl rfl rfl rfl hh
      exact cm_add (r := rm) (by omega) hc rm 0 n _ [] hq (by omega) rfl rfl p.2.1 p.2.2.1 hh
  by_cases z : n0 = 0
  · subst z
    have hh : pm_run PT n fr lo 188 (27, [some (.ref 162), some (.int (nI 0)), some (.int 1), none, none, none, none], [], mset hb 20 (.int (nI 0)), 198, sl) = some R := hh
    obtain ⟨n, hh⟩ := rn_i rfl rfl rfl rfl hh
    obtain ⟨n, hh⟩ := rn_i rfl rfl rfl rfl hh
    have hh : pm_run PT n fr lo 188 (29, [some (.ref 162), some (.int (nI 0)), some (.int 1), some (.int 0), none, none, none], [], mset hb 20 (.int (nI 0)), 198, sl) = some R := hh
    obtain ⟨n, hh⟩ := rn_i rfl rfl rfl rfl hh
    obtain ⟨n, hh⟩ := rn_if (cc := .eq) (off := 30) (t := 60) rfl rfl hh
    exact sec n _ true 0 0 0 (Nat.zero_le _) (by omega) pp hh
  · have ec : pm_cmp .le (nI n0) 0 = false := by
      have := hI_le (a := n0) (b := 0) (by omega) (by omega)
      rw [decide_eq_false (by omega)] at this
      exact this
    rw [ec] at hh
    have hh : pm_run PT n fr lo 188 (23, [some (.ref 162), some (.int (nI n0)), some (.int 1), none, none, none, none], [], mset hb 20 (.int (nI 0)), 198, sl) = some R := hh
    obtain ⟨n, hh⟩ := rn_i rfl rfl rfl rfl hh
    obtain ⟨n, hh⟩ := rn_i rfl rfl rfl rfl hh
    obtain ⟨n, hh⟩ := rn_i rfl rfl rfl rfl hh
    obtain ⟨m, h', hm, p'⟩ := cm_loop (t := min n0 41) (by omega) (7 - cc) 0 0 n _ (by omega) (by omega) (Nat.zero_le _) pp hh
    have hb0 : Nat.beq n0 0 = false := nb_ne z
    have es : cmS tp n0 cc = spL tp (min n0 41) cc (7 - cc) 0 0 := by
      unfold cmS
      rw [hb0]
      rfl
    obtain ⟨b1, b2, b3⟩ := spL_bd (tp := tp) (cc := cc) (7 - cc) 0 0 (Nat.zero_le (min n0 41))
    unfold cmA cmN cmF
    rw [es]
    exact sec m h' _ _ _ 0 b1 (b3 (by omega)) p' hm
end CMW
end MG95tzx6
section MG95tzx7
/-! the class's reader of COURTS -/
section CXR
variable {n fr lo sl n0 cc k pc p l : Nat} {h h' : pm_H} {R : pm_Rs} {f : Nat → Int32} {L : pm_L} {S : List Value}
/-- what the class's reader looks at -/
def pX (h : pm_H) (n0 cc : Nat) (f : Nat → Int32) : Prop := (∃ fs, h 0 = .inr (10, fs) ∧ fs[0]? = some (.ref 1) ∧ fs[2]? = some (.ref 5)) ∧ (∃ gs, h 1 = .inr (8, gs) ∧ gs[0]? = some (.ref 2) ∧ gs[1]? = some (.int (nI n0))) ∧ h 2 = .inl (1, 80, .inl f) ∧ ∃ rs, h 5 = .inr (3, rs) ∧ rs[0]? = some (.int (nI cc))
theorem rn_gfo {a ci j g t : Nat} {fs : List Value} {v : Value} (hi : pm_ins PT k pc = some (.getfield j, 3)) (hf : pm_fld PT (pm_o PT k) j = some (ci, g, t)) (ha : a < 198) (e : h a = .inr (ci, fs)) (e1 : fs[g]? = some v) (hh : pm_run PT n fr lo k (pc, L, .ref a :: S, h, 198, sl) = some R) : ∃ m, pm_run PT m fr lo k (pc + 3, L, v :: S, h, 198, sl) = some R := rn_i hi rfl rfl (gf_eq hf ha e e1) hh
/-- the sign at p, or none -/
def sgA (f : Nat → Int32) (n0 p l : Nat) : Int32 := cond (decide (p < min n0 l)) (f p) (Int32.ofInt (-1))
theorem sgA_run (hn : n0 ≤ 80) (hl : l ≤ 80) (hp : p < 1000) (q : pX h n0 cc f) (hh : pm_run PT n fr lo 80 (0, pm_l0 [.ref 1, .int (nI p), .int (nI l)] 3, [], h, 198, sl) = some R) : R = (some (.int (sgA f n0 p l)), h, 198, sl) := by
  obtain ⟨-, ⟨gs, g1, g2, g3⟩, c1, -⟩ := q
  have no : ∀ n : Nat, ¬ p < min n0 l → pm_run PT n fr lo 80 (26, [some (.ref 1), some (.int (nI p)), some (.int (nI l))], [], h, 198, sl) = some R → R = (some (.int (sgA f n0 p l)), h, 198, sl) := by
    intro n z hh
    obtain ⟨n, hh⟩ := rn_i rfl rfl rfl rfl hh
    unfold sgA
    rw [decide_eq_false z]
    exact (rn_ret rfl (Or.inl rfl) hh).2
  obtain ⟨n, hh⟩ := rn_i rfl rfl rfl rfl hh
  obtain ⟨n, hh⟩ := rn_if (cc := .lt) (off := 25) (t := 26) rfl rfl hh
  rw [lt0_val (by rw [nI_toInt (by omega)]; omega)] at hh
  obtain ⟨n, hh⟩ := rn_i rfl rfl rfl rfl hh
  obtain ⟨n, hh⟩ := rn_i rfl rfl rfl rfl hh
  obtain ⟨n, hh⟩ := rn_gfo (g := 1) rfl rfl (by decide) g1 g3 hh
  obtain ⟨n, hh⟩ := rn_icmp (cc := .ge) (off := 17) (t := 26) rfl rfl hh
  rw [hI_ge (by omega) (by omega)] at hh
  by_cases z : n0 ≤ p
  · rw [decide_eq_true z] at hh
    exact no n (by omega) hh
  · rw [decide_eq_false z] at hh
    obtain ⟨n, hh⟩ := rn_i rfl rfl rfl rfl hh
    obtain ⟨n, hh⟩ := rn_i rfl rfl rfl rfl hh
    obtain ⟨n, hh⟩ := rn_icmp (cc := .ge) (off := 12) (t := 26) rfl rfl hh
    rw [hI_ge (by omega) (by omega)] at hh
    by_cases y : l ≤ p
    · rw [decide_eq_true y] at hh
      exact no n (by omega) hh
    · rw [decide_eq_false y] at hh
      obtain ⟨n, hh⟩ := rn_i rfl rfl rfl rfl hh
      obtain ⟨n, hh⟩ := rn_gfo (g := 0) rfl rfl (by decide) g1 g2 hh
      obtain ⟨n, hh⟩ := rn_i rfl rfl rfl rfl hh
      obtain ⟨n, hh⟩ := rn_cam rfl c1 (hI_in (by omega) (by decide)) (by decide) hh
      rw [nI_clamp (by omega)] at hh
      obtain ⟨n, hh⟩ := rn_i rfl rfl rfl rfl hh
      unfold sgA
      rw [decide_eq_true (by omega)]
      exact (rn_ret rfl (Or.inl rfl) hh).2
/-- the digit at p, or none -/
def dgA (f : Nat → Int32) (n0 p l : Nat) : Int32 := cond (dg f p (min n0 l)) (f p - nI 48) (Int32.ofInt (-1))
theorem dg_lo {x : Int32} (z : pm_cmp .lt x (nI 48) = true) : in_b x.toInt64 48 57 = false := by
  have z := of_decide_eq_true z
  rw [Int32.lt_iff_toInt_lt, nI_toInt (by decide)] at z
  unfold in_b
  rw [Bool.and_eq_false_iff]
  left
  have : x.toInt64 < 48 := by
    rw [Int64.lt_iff_toInt_lt, Int32.toInt_toInt64, show (48 : Int64).toInt = 48 by decide]
    omega
  simp [this]
theorem dg_hi {x : Int32} (z : pm_cmp .gt x (nI 57) = true) : in_b x.toInt64 48 57 = false := by
  have z := of_decide_eq_true z
  rw [Int32.lt_iff_toInt_lt, nI_toInt (by decide)] at z
  unfold in_b
  rw [Bool.and_eq_false_iff]
  right
  have : (57 : Int64) < x.toInt64 := by
    rw [Int64.lt_iff_toInt_lt, Int32.toInt_toInt64, show (57 : Int64).toInt = 57 by decide]
    omega
  simp [this]
theorem dg_in {x : Int32} (z : pm_cmp .lt x (nI 48) = false) (y : pm_cmp .gt x (nI 57) = false) : in_b x.toInt64 48 57 = true := by
  have z := of_decide_eq_false z
  have y := of_decide_eq_false y
  rw [Int32.lt_iff_toInt_lt, nI_toInt (by decide)] at z y
  unfold in_b
  have a1 : ¬ x.toInt64 < 48 := by
    rw [Int64.lt_iff_toInt_lt, Int32.toInt_toInt64, show (48 : Int64).toInt = 48 by decide]
    omega
  have a2 : ¬ (57 : Int64) < x.toInt64 := by
    rw [Int64.lt_iff_toInt_lt, Int32.toInt_toInt64, show (57 : Int64).toInt = 57 by decide]
    omega
  simp [a1, a2]
theorem dgA_run (hn : n0 ≤ 80) (hl : l ≤ 80) (hp : p < 1000) (q : pX h n0 cc f) (hh : pm_run PT n fr lo 81 (0, pm_l0 [.ref 1, .int (nI p), .int (nI l)] 4, [], h, 198, sl) = some R) : R = (some (.int (dgA f n0 p l)), h, 198, sl) := by
  obtain ⟨n, hh⟩ := rn_i rfl rfl rfl rfl hh
  obtain ⟨n, hh⟩ := rn_i rfl rfl rfl rfl hh
  obtain ⟨n, hh⟩ := rn_i rfl rfl rfl rfl hh
  obtain ⟨n, fr', lo', r1, hr1, hh⟩ := rn_call (w := 0) (t := 80) rfl rfl hh
  have er := sgA_run hn hl hp q hr1
  subst er
  have hh : pm_run PT n fr lo 81 (6, [some (.ref 1), some (.int (nI p)), some (.int (nI l)), none], [.int (sgA f n0 p l)], h, 198, sl) = some R := hh
  have no : ∀ n : Nat, dg f p (min n0 l) = false → pm_run PT n fr lo 81 (26, [some (.ref 1), some (.int (nI p)), some (.int (nI l)), some (.int (sgA f n0 p l))], [], h, 198, sl) = some R → R = (some (.int (dgA f n0 p l)), h, 198, sl) := by
    intro n z hh
    obtain ⟨n, hh⟩ := rn_i rfl rfl rfl rfl hh
    unfold dgA
    rw [z]
    exact (rn_ret rfl (Or.inl rfl) hh).2
  obtain ⟨n, hh⟩ := rn_i rfl rfl rfl rfl hh
  obtain ⟨n, hh⟩ := rn_i rfl rfl rfl rfl hh
  obtain ⟨n, hh⟩ := rn_i rfl rfl rfl rfl hh
  obtain ⟨n, hh⟩ := rn_icmp (cc := .lt) (off := 16) (t := 26) rfl rfl hh
  have hh : pm_run PT n fr lo 81 (cond (pm_cmp .lt (sgA f n0 p l) (nI 48)) 26 13, [some (.ref 1), some (.int (nI p)), some (.int (nI l)), some (.int (sgA f n0 p l))], [], h, 198, sl) = some R := hh
  by_cases x : p < min n0 l
  · have es : sgA f n0 p l = f p := by
      unfold sgA
      rw [decide_eq_true x]
      rfl
    cases z : pm_cmp .lt (sgA f n0 p l) (nI 48) with
    | true =>
      rw [z] at hh
      refine no n ?_ hh
      rw [es] at z
      unfold dg
      rw [dg_lo z, Bool.and_false]
    | false =>
      rw [z] at hh
      obtain ⟨n, hh⟩ := rn_i rfl rfl rfl rfl hh
      obtain ⟨n, hh⟩ := rn_i rfl rfl rfl rfl hh
      obtain ⟨n, hh⟩ := rn_icmp (cc := .gt) (off := 10) (t := 26) rfl rfl hh
      have hh : pm_run PT n fr lo 81 (cond (pm_cmp .gt (sgA f n0 p l) (nI 57)) 26 19, [some (.ref 1), some (.int (nI p)), some (.int (nI l)), some (.int (sgA f n0 p l))], [], h, 198, sl) = some R := hh
      cases y : pm_cmp .gt (sgA f n0 p l) (nI 57) with
      | true =>
        rw [y] at hh
        refine no n ?_ hh
        rw [es] at y
        unfold dg
        rw [dg_hi y, Bool.and_false]
      | false =>
        rw [y] at hh
        have ed : dg f p (min n0 l) = true := by
          rw [es] at z y
          unfold dg
          rw [dg_in z y, decide_eq_true x]
          rfl
        obtain ⟨n, hh⟩ := rn_i rfl rfl rfl rfl hh
        obtain ⟨n, hh⟩ := rn_i rfl rfl rfl rfl hh
        obtain ⟨n, hh⟩ := rn_i rfl rfl rfl rfl hh
        obtain ⟨n, hh⟩ := rn_i rfl rfl rfl rfl hh
        unfold dgA
        rw [ed]
        rw [es] at hh
        exact (rn_ret rfl (Or.inl rfl) hh).2
  · have es : sgA f n0 p l = Int32.ofInt (-1) := by
      unfold sgA
      rw [decide_eq_false x]
      rfl
    rw [es] at hh
    have ed : dg f p (min n0 l) = false := by
      unfold dg
      rw [decide_eq_false x]
      rfl
    rw [es] at no
    exact no n ed hh
end CXR
end MG95tzx7
