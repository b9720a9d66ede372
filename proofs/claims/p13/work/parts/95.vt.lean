/-! THE TEXT's length: end, and what the types tell -/
section TXP
variable {P : pm_St → Prop} {sl bS Ln i pc : Nat} {xs : Nat → Int32} {L : pm_L} {h h1 : pm_H}
/-! end, by hand -/
theorem in_bc (x : Int32) {c : Nat} (hc : c ≤ 80) : in_b x.toInt64 0 (nI c).toInt64 = decide (0 ≤ x.toInt ∧ x.toInt ≤ (c : Int)) := by
  unfold in_b
  have n1 : (0 : Int64).toInt = 0 := by decide
  have n2 : (nI c).toInt64.toInt = (c : Int) := by rw [Int32.toInt_toInt64, nI_toInt (by omega)]
  have e1 : decide (x.toInt64 < 0) = decide (x.toInt < 0) := by
    rw [Bool.eq_iff_iff, decide_eq_true_iff, decide_eq_true_iff, Int64.lt_iff_toInt_lt, Int32.toInt_toInt64, n1]
  have e2 : decide ((nI c).toInt64 < x.toInt64) = decide ((c : Int) < x.toInt) := by
    rw [Bool.eq_iff_iff, decide_eq_true_iff, decide_eq_true_iff, Int64.lt_iff_toInt_lt, n2, Int32.toInt_toInt64]
  rw [e1, e2, Bool.eq_iff_iff, Bool.and_eq_true, decide_eq_true_iff, Bool.not_eq_true', Bool.not_eq_true', decide_eq_false_iff_not, decide_eq_false_iff_not]
  omega
/-- the class's end: what it answers, what the length is then -/
theorem en_x {fr lo : Nat} {fs : List Value} {c : Nat} (hc : c ≤ 80) (h0 : x0 h) (r1 : cT h (.int (nI c))) (y : Int32) : pm_WP PT fr lo 87 (0, pm_l0 [.ref 0, .int y] 2, [], h, 198, sl) (fun q => q.1 = some (.int (cond (decide (0 ≤ y.toInt ∧ y.toInt ≤ (c : Int))) 1 0)) ∧ cT q.2.1 (.int (cond (decide (0 ≤ y.toInt ∧ y.toInt ≤ (c : Int))) y (nI c)))) := by
  have cI : (nI c).toInt = (c : Int) := nI_toInt (by omega)
  have z0 : (0 : Int32).toInt = 0 := by decide
  obtain ⟨f0, e0, e0'⟩ := h0
  obtain ⟨gs, g1, g2, g3⟩ := cT_up (v := .int y) r1
  refine wp_i rfl rfl rfl rfl ?_
  refine wp_if (c := .lt) (off := 14) (t := 15) rfl rfl (fun q => ?_) (fun q => ?_)
  · have q := of_decide_eq_true q
    rw [Int32.lt_iff_toInt_lt, z0] at q
    rw [decide_eq_false (by omega)]
    refine wp_i rfl rfl rfl rfl ?_
    exact wp_zret rfl rfl (Or.inl rfl) ⟨rfl, gs, g1, g2⟩
  · have q := of_decide_eq_false q
    rw [Int32.lt_iff_toInt_lt, z0] at q
    refine wp_i rfl rfl rfl rfl ?_
    refine wp_i rfl rfl rfl rfl ?_
    refine wp_i rfl rfl rfl (gf_eq (f := 0) rfl (by decide) e0 e0') ?_
    refine wp_i rfl rfl rfl (gf_eq (f := 1) rfl (by decide) g1 g2) ?_
    refine wp_icmp (c := .le) (off := 5) (t := 17) rfl rfl (fun q2 => ?_) (fun q2 => ?_)
    · have q2 := of_decide_eq_true q2
      rw [Int32.le_iff_toInt_le, cI] at q2
      rw [decide_eq_true (by omega)]
      refine wp_i rfl rfl rfl rfl ?_
      refine wp_i rfl rfl rfl (gf_eq (f := 0) rfl (by decide) e0 e0') ?_
      refine wp_i rfl rfl rfl rfl ?_
      refine wp_i rfl rfl rfl (pf_eq (f := 1) rfl rfl (by decide) (by decide) g1 g2) ?_
      refine wp_i rfl rfl rfl rfl ?_
      exact wp_zret rfl rfl (Or.inr rfl) ⟨rfl, g3⟩
    · have q2 := of_decide_eq_false q2
      rw [Int32.le_iff_toInt_le, cI] at q2
      rw [decide_eq_false (by omega)]
      refine wp_i rfl rfl rfl rfl ?_
      exact wp_zret rfl rfl (Or.inl rfl) ⟨rfl, gs, g1, g2⟩
theorem en_m {fr lo : Nat} {c : Nat} {w : Int32} (hc : c ≤ 80) (h0 : mF h 0 (.int w)) (r2 : mF h 15 (.int (nI c))) (y : Int32) (hf : 1 ≤ fr) (hl : 100 ≤ lo) : pm_WP PT fr lo 179 (0, pm_l0 [.ref 162, .int y] 2, [], h, 198, sl) (fun q => q.1 = some (.int (cond (decide (0 ≤ y.toInt ∧ y.toInt ≤ (c : Int))) 1 0)) ∧ mF q.2.1 15 (.int (cond (decide (0 ≤ y.toInt ∧ y.toInt ≤ (c : Int))) y (nI c)))) := by
  have r3 : mF (mset h 0 (.int (Int32.ofInt 0))) 15 (.int (nI c)) := mF_ne (by decide) r2
  refine wp_i rfl rfl rfl rfl ?_
  refine wp_i rfl rfl rfl rfl ?_
  refine wp_pfm (w := .int w) rfl rfl rfl (by decide) h0 ?_
  refine wp_i rfl rfl rfl rfl ?_
  refine wp_i rfl rfl rfl rfl ?_
  refine wp_i rfl rfl rfl rfl ?_
  refine wp_i rfl rfl rfl rfl ?_
  refine wp_gfm rfl rfl r3 ?_
  refine wp_i rfl rfl rfl rfl ?_
  refine wp_callS (t := 163) (As := [.long (y).toInt64, .long 0, .long ((nI c)).toInt64]) (rest := []) (mx := 6) rfl rfl rfl rfl (Nat.le_of_ble_eq_true rfl) (Nat.le_of_ble_eq_true rfl) hf (by omega) (wp_mono (hd_in y.toInt64 0 (nI c).toInt64) ?_)
  rintro _ rfl
  rw [in_bc y hc]
  show pm_WP PT fr lo 179 (16, [some (.ref 162), some (.int y)], [.int (cond (decide (0 ≤ y.toInt ∧ y.toInt ≤ (c : Int))) 1 0)], mset h 0 (.int (Int32.ofInt 0)), 198, sl) _
  cases decide (0 ≤ y.toInt ∧ y.toInt ≤ (c : Int)) with
  | true =>
    refine wp_if (c := .ne) (off := 5) (t := 21) rfl rfl (fun q => ?_) (fun q => by cases q)
    refine wp_i rfl rfl rfl rfl ?_
    refine wp_i rfl rfl rfl rfl ?_
    refine wp_pfm (w := .int (nI c)) rfl rfl rfl (by decide) r3 ?_
    refine wp_i rfl rfl rfl rfl ?_
    exact wp_zret rfl rfl (Or.inr rfl) ⟨rfl, mF_self r3⟩
  | false =>
    refine wp_if (c := .ne) (off := 5) (t := 21) rfl rfl (fun q => by cases q) (fun q => ?_)
    refine wp_i rfl rfl rfl rfl ?_
    exact wp_zret rfl rfl (Or.inl rfl) ⟨rfl, r3⟩
def asX0 : List av := match bB 0 with
  | .inr (_, as) => as
  | _ => []
def asM0 : av := asM.getD 0 (0, 0, 0)
theorem ty_x0 (hh : ah_ok bB 198 [] h) : x0 h := by
  have h0 := hh 0 (by decide)
  obtain ⟨fs, ef, hl, hg⟩ := aE_obj (ci := 10) (as := asX0) h0 (by decide)
  have hlf : 0 < fs.length := by rw [hl]; exact Nat.le_of_ble_eq_true rfl
  have ev : fs[0]? = some fs[0] := List.getElem?_eq_getElem hlf
  have hv := hg 0 _ (2, 1, 1) ev rfl
  have hr : fs[0] = .ref 1 := by
    cases e : fs[0] with
    | ref p =>
      rw [e] at hv
      have := hv.2
      rw [show p = 1 from List.mem_singleton.mp this]
    | null => rw [e] at hv; exact absurd (show (2 : Nat) = 3 from hv) (by decide)
    | _ => rw [e] at hv; first | exact hv.elim | (cases hv.1)
  exact ⟨fs, ef, by rw [ev, hr]⟩
theorem ty_x9 (hh : ah_ok bB 198 [] h) : ∃ q fs, h 0 = .inr (10, fs) ∧ fs[9]? = some q := by
  have h0 := hh 0 (by decide)
  obtain ⟨fs, ef, hl, hg⟩ := aE_obj (ci := 10) (as := asX0) h0 (by decide)
  have hlf : 9 < fs.length := by rw [hl]; exact Nat.le_of_ble_eq_true rfl
  exact ⟨fs[9], fs, ef, List.getElem?_eq_getElem hlf⟩
theorem ty_m0 (hh : ah_ok bB 198 [] h) : ∃ w : Int32, mF h 0 (.int w) := by
  obtain ⟨v, m, a⟩ := ob_fld (o := []) hh asM_eq (g := 0) (a := asM0) rfl
  obtain ⟨x, rfl, -⟩ := av_int rfl a
  exact ⟨x, m⟩
theorem ty_m15 (hh : ah_ok bB 198 [] h) : ∃ w : Int32, mF h 15 (.int w) := by
  obtain ⟨v, m, a⟩ := ob_fld (o := []) hh asM_eq (g := 15) (a := (0, 0, 80)) asM_15
  obtain ⟨x, rfl, -⟩ := av_int rfl a
  exact ⟨x, m⟩
theorem zx_year {n : Nat} {R : pm_Rs} (hI : mInv h) (hh : pm_run PT n 2047 (84000 - (19 + pm_max PT 100)) 100 (0, pm_l0 [.ref 0] (pm_max PT 100), [], h, 198, sl) = some R) : cT R.2.1 (.int 0) := by
  obtain ⟨-, -, -, q⟩ := rn_det (zw_year [.ref 0] h 2047 (84000 - (19 + pm_max PT 100)) sl ⟨⟨rfl, List.mem_singleton_self _⟩, trivial⟩ hI.1 trivial (Nat.le_of_ble_eq_true rfl) (Nat.le_of_ble_eq_true rfl)) hh
  obtain ⟨-, fs, v, k1, k2, k3⟩ := ovf_out q (by decide) (by decide) asT_eq asT_1 (by decide)
  obtain ⟨u, rfl, u1, u2⟩ := av_int rfl k3
  have u1 : (0 : Int) ≤ u.toInt := u1
  have u2 : u.toInt ≤ 0 := u2
  have : u = 0 := Int32.toInt_inj.1 (by rw [show (0 : Int32).toInt = 0 by decide]; omega)
  subst this
  exact ⟨fs, k1, k2⟩
end TXP
