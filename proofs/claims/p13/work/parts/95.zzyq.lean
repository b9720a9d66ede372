/-! the reference's LINES of GIFTS, with their values -/
section GWM
variable {n fr lo sl t cc gc a rm j0 j1 : Nat} {h g0 : pm_H} {tp Rd Rd1 : Nat → Int32} {R : pm_Rs} {V : (Nat → Int32) → Prop} {s : Bool × Nat}
def pW (g0 h : pm_H) (tp : Nat → Int32) (t cc gc a rm : Nat) (Rd : Nat → Int32) : Prop := pG h tp t cc gc a rm ∧ h 173 = .inl (0, 36, .inl Rd) ∧ WT h ∧ (∀ i, i ≠ 162 → i ≠ 173 → h i = g0 i) ∧ ∀ g, g ≠ 16 → g ≠ 20 → Fi h 162 g = Fi g0 162 g
theorem pW_16 {b : Nat} (p : pW g0 h tp t cc gc a rm Rd) : pW g0 (mset h 16 (.int (nI b))) tp t cc gc b rm Rd := by
  obtain ⟨p1, p2, p3, p4, p5⟩ := p
  have e := mset_fs (v := .int (nI b)) p1.1.1.1
  refine ⟨pG_16 p1, mset_arr (by decide) p2, ?_, fun i h1 h2 => (mset_ne h1).trans (p4 i h1 h2), fun g h1 h2 => ?_⟩
  · rw [e]
    exact wt_fs rfl (by decide) rfl p3
  · rw [e]
    exact (Fi_n (Or.inr h1)).trans (p5 g h1 h2)
theorem pW_20 {b : Nat} (p : pW g0 h tp t cc gc a rm Rd) : pW g0 (mset h 20 (.int (nI b))) tp t cc gc a b Rd := by
  obtain ⟨p1, p2, p3, p4, p5⟩ := p
  have e := mset_fs (v := .int (nI b)) p1.1.2.1
  refine ⟨pG_20 p1, mset_arr (by decide) p2, ?_, fun i h1 h2 => (mset_ne h1).trans (p4 i h1 h2), fun g h1 h2 => ?_⟩
  · rw [e]
    exact wt_fs rfl (by decide) rfl p3
  · rw [e]
    exact (Fi_n (Or.inr h2)).trans (p5 g h1 h2)
theorem pW_rd {Rd' : Nat → Int32} (p : pW g0 h tp t cc gc a rm Rd) : pW g0 (aset h 173 36 Rd') tp t cc gc a rm Rd' := by
  obtain ⟨p1, p2, p3, p4, p5⟩ := p
  exact ⟨pG_rd p1, asR_self, wt_as rfl p3, fun i h1 h2 => (asR_ne h2).trans (p4 i h1 h2), fun g h1 h2 => (Fi_a (by decide)).trans (p5 g h1 h2)⟩
def gwR (g0 : pm_H) (R : pm_Rs) (tp : Nat → Int32) (t cc gc rm : Nat) (Rd : Nat → Int32) (j0 : Nat) (s : Bool × Nat) (V : (Nat → Int32) → Prop) (sl : Nat) : Prop := R.1 = some (.int (cond s.1 1 0)) ∧ R.2.2 = (198, sl) ∧ ∃ rm' Rd', pW g0 R.2.1 tp t cc gc s.2 rm' Rd' ∧ (∀ j, j < 4 * rm + j0 → Rd' j = Rd j) ∧ (s.1 = true → rm' = rm + 1 ∧ V Rd')
theorem gwR_mono (h : gwR g0 R tp t cc gc rm Rd1 j1 s V sl) (hj : j0 ≤ j1) (he : ∀ j, j < 4 * rm + j0 → Rd1 j = Rd j) : gwR g0 R tp t cc gc rm Rd j0 s V sl := by
  obtain ⟨h1, h2, rm', Rd', h3, h4, h5⟩ := h
  exact ⟨h1, h2, rm', Rd', h3, fun j hj' => (h4 j (by omega)).trans (he j hj'), h5⟩
/-- LINE r as it was read -/
def gvM (tp : Nat → Int32) (t cc r : Nat) (Rd : Nat → Int32) : Prop := Rd (4 * r) = tp (gps tp t cc r) - 48 ∧ Rd (4 * r + 1) = (nbr tp t 2 (gps tp t cc r + 1) 0).2 ∧ Rd (4 * r + 2) = tp ((nbr tp t 2 (gps tp t cc r + 1) 0).1 + 1) - 48 ∧ Rd (4 * r + 3) = tp ((nbr tp t 2 (gps tp t cc r + 1) 0).1 + 2) - 48
theorem rv_0 (p : pW g0 h tp t cc gc a rm Rd) {k1 : Int32} {j0 : Nat} (hh : pm_run PT n fr lo 191 (44, [some (.ref 162), some (.int k1)], [], h, 198, sl) = some R) : gwR g0 R tp t cc gc rm Rd j0 ((false, a)) V sl := by
  obtain ⟨n, hh⟩ := rn_i rfl rfl rfl rfl hh
  have e := (rn_ret rfl (Or.inr rfl) hh).2
  subst e
  exact ⟨rfl, rfl, rm, Rd, p, fun _ _ => rfl, fun q => by cases q⟩
theorem rv_102 (p : pW g0 h tp t cc gc a rm Rd) {k1 : Int32} {j0 : Nat} (hh : pm_run PT n fr lo 191 (102, [some (.ref 162), some (.int k1)], [], h, 198, sl) = some R) : gwR g0 R tp t cc gc rm Rd j0 ((false, a)) V sl := by
  obtain ⟨n, hh⟩ := rn_i rfl rfl rfl rfl hh
  have e := (rn_ret rfl (Or.inr rfl) hh).2
  subst e
  exact ⟨rfl, rfl, rm, Rd, p, fun _ _ => rfl, fun q => by cases q⟩
/-- from 151 on: the LINE is counted; does its court stand -/
theorem rv_151 {v : Int32} {b : Bool} (hb : pm_cmp .lt v 0 = !b) (hrm : rm < 8) (p : pW g0 h tp t cc gc a rm Rd) {j0 : Nat} (ev : Rd (4 * rm + 3) = v) (hV : b = true → V Rd) (hh : pm_run PT n fr lo 191 (151, [some (.ref 162), some (.int (nI (4 * rm)))], [], h, 198, sl) = some R) : gwR g0 R tp t cc gc rm Rd j0 ((b, a)) V sl := by
  obtain ⟨n, hh⟩ := rn_i rfl rfl rfl rfl hh
  obtain ⟨n, hh⟩ := rn_i rfl rfl rfl rfl hh
  obtain ⟨n, hh⟩ := rn_gfm rfl rfl p.1.1.2.1 hh
  obtain ⟨n, hh⟩ := rn_i rfl rfl rfl rfl hh
  obtain ⟨n, hh⟩ := rn_i rfl rfl rfl rfl hh
  obtain ⟨n, hh⟩ := rn_pfm (w := .int (nI rm)) rfl rfl rfl (by decide) p.1.1.2.1 hh
  have e1 : nI rm + Int32.ofInt 1 = nI (rm + 1) := (Int32.ofNat_add rm 1).symm
  have hh : pm_run PT n fr lo 191 (161, [some (.ref 162), some (.int (nI (4 * rm)))], [], mset h 20 (.int (nI rm + Int32.ofInt 1)), 198, sl) = some R := hh
  rw [e1] at hh
  have p' := pW_20 (b := rm + 1) p
  obtain ⟨n, hh⟩ := rn_i rfl rfl rfl rfl hh
  obtain ⟨n, hh⟩ := rn_gfm rfl rfl p'.1.1.2.2.2.1 hh
  obtain ⟨n, hh⟩ := rn_i rfl rfl rfl rfl hh
  obtain ⟨n, hh⟩ := rn_i rfl rfl rfl rfl hh
  obtain ⟨n, hh⟩ := rn_i rfl rfl rfl rfl hh
  have e3 : nI (4 * rm) + Int32.ofInt 3 = nI (4 * rm + 3) := (Int32.ofNat_add (4 * rm) 3).symm
  have hh : pm_run PT n fr lo 191 (168, [some (.ref 162), some (.int (nI (4 * rm)))], [.int (nI (4 * rm) + Int32.ofInt 3), .ref 173], mset h 20 (.int (nI (rm + 1))), 198, sl) = some R := hh
  rw [e3] at hh
  obtain ⟨n, hh⟩ := rn_iam rfl (mset_arr (by decide) p.2.1) (hI_in (by omega) (by decide)) (by decide) hh
  rw [nI_clamp (by omega), ev] at hh
  obtain ⟨n, hh⟩ := rn_if (cc := .lt) (off := 7) (t := 176) rfl rfl hh
  rw [hb] at hh
  cases b with
  | true =>
    obtain ⟨n, hh⟩ := rn_i rfl rfl rfl rfl hh
    obtain ⟨n, hh⟩ := rn_i rfl rfl rfl rfl hh
    have e := (rn_ret rfl (Or.inr rfl) hh).2
    subst e
    exact ⟨rfl, rfl, rm + 1, Rd, p', fun _ _ => rfl, fun q => ⟨rfl, hV q⟩⟩
  | false =>
    obtain ⟨n, hh⟩ := rn_i rfl rfl rfl rfl hh
    have e := (rn_ret rfl (Or.inr rfl) hh).2
    subst e
    exact ⟨rfl, rfl, rm + 1, Rd, p', fun _ _ => rfl, fun q => ⟨rfl, hV q⟩⟩
theorem rv_150 {v : Int32} {b : Bool} (hb : pm_cmp .lt v 0 = !b) (hrm : rm < 8) (p : pW g0 h tp t cc gc a rm Rd) (hV : b = true → V (upd Rd (4 * rm + 3) v)) (hh : pm_run PT n fr lo 191 (150, [some (.ref 162), some (.int (nI (4 * rm)))], [.int v, .int (nI (4 * rm + 3)), .ref 173], h, 198, sl) = some R) : gwR g0 R tp t cc gc rm Rd 3 ((b, a)) V sl := by
  have hA := p.2.1
  obtain ⟨n, hh⟩ := rn_ism rfl hA (hI_in (by omega) (by decide)) (by decide) hh
  rw [nI_clamp (by omega)] at hh
  exact gwR_mono (j1 := 3) (rv_151 hb hrm (pW_rd p) (by simp [upd]) hV hh) (Nat.le_refl _) (fun j hj => if_neg (by omega))
/-- from 104 on: what it eats, and its court -/
theorem rv_104 (ht : t ≤ 80) (ha : a < 98) (hrm : rm < 8) (p : pW g0 h tp t cc gc a rm Rd) (hV : ∀ Rd', (∀ j, j < 4 * rm + 2 → Rd' j = Rd j) → Rd' (4 * rm + 2) = tp a - 48 → Rd' (4 * rm + 3) = tp (a + 1) - 48 → V Rd') (hh : pm_run PT n fr lo 191 (104, [some (.ref 162), some (.int (nI (4 * rm)))], [], h, 198, sl) = some R) : gwR g0 R tp t cc gc rm Rd 2 (rgE tp t cc a) V sl := by
  obtain ⟨⟨⟨⟨q1, q2, q3, q4⟩, q5, q6, q7, -⟩, q9⟩, q8, -⟩ := id p
  obtain ⟨n, hh⟩ := rn_i rfl rfl rfl rfl hh
  obtain ⟨n, hh⟩ := rn_gfm rfl rfl q7 hh
  obtain ⟨n, hh⟩ := rn_i rfl rfl rfl rfl hh
  obtain ⟨n, hh⟩ := rn_i rfl rfl rfl rfl hh
  obtain ⟨n, hh⟩ := rn_i rfl rfl rfl rfl hh
  obtain ⟨n, hh⟩ := rn_i rfl rfl rfl rfl hh
  obtain ⟨n, hh⟩ := rn_i rfl rfl rfl rfl hh
  obtain ⟨n, fr', lo', r1, hr1, hh⟩ := rn_call (w := 0) (t := 184) rfl rfl hh
  have er := rn_dt (F := 10) (Lo := 1000) (hd_number (fr := 10) (lo := 1000) (sl := sl) q1 q2 q3 q4 ht (by omega) (by decide) (by decide) (d := 1) (by decide)) hr1
  have e2 : nI (4 * rm) + Int32.ofInt 2 = nI (4 * rm + 2) := (Int32.ofNat_add (4 * rm) 2).symm
  have e3 : nI (4 * rm) + Int32.ofInt 3 = nI (4 * rm + 3) := (Int32.ofNat_add (4 * rm) 3).symm
  have hin : pm_in (nI (4 * rm + 2)) 36 = true := hI_in (by omega) (by decide)
  unfold rgE
  cases hd : dg tp a t with
  | false =>
    rw [hd] at er
    dsimp only [cond] at er
    subst er
    have hh : pm_run PT n fr lo 191 (116, [some (.ref 162), some (.int (nI (4 * rm)))], [.int (-1), .int (nI (4 * rm) + Int32.ofInt 2), .ref 173], h, 198, sl) = some R := hh
    rw [e2] at hh
    obtain ⟨n, hh⟩ := rn_ism rfl q8 hin (by decide) hh
    have p' := pW_rd (Rd' := upd Rd (nI (4 * rm + 2)).toNatClampNeg (-1)) p
    obtain ⟨n, hh⟩ := rn_i rfl rfl rfl rfl hh
    obtain ⟨n, hh⟩ := rn_gfm rfl rfl p'.1.1.2.2.2.1 hh
    obtain ⟨n, hh⟩ := rn_i rfl rfl rfl rfl hh
    obtain ⟨n, hh⟩ := rn_i rfl rfl rfl rfl hh
    obtain ⟨n, hh⟩ := rn_i rfl rfl rfl rfl hh
    obtain ⟨n, hh⟩ := rn_i rfl rfl rfl rfl hh
    obtain ⟨n, hh⟩ := rn_gfm rfl rfl p'.1.1.2.2.2.1 hh
    obtain ⟨n, hh⟩ := rn_i rfl rfl rfl rfl hh
    obtain ⟨n, hh⟩ := rn_i rfl rfl rfl rfl hh
    obtain ⟨n, hh⟩ := rn_i rfl rfl rfl rfl hh
    have hh : pm_run PT n fr lo 191 (131, [some (.ref 162), some (.int (nI (4 * rm)))], [.int (nI (4 * rm) + Int32.ofInt 2), .ref 173, .int (nI (4 * rm) + Int32.ofInt 3), .ref 173], _, 198, sl) = some R := hh
    rw [e2, e3] at hh
    obtain ⟨n, hh⟩ := rn_iam rfl asR_self hin (by decide) hh
    have eu : upd Rd (nI (4 * rm + 2)).toNatClampNeg (-1) (nI (4 * rm + 2)).toNatClampNeg = (-1 : Int32) := by simp [upd]
    rw [eu] at hh
    obtain ⟨n, hh⟩ := rn_if (cc := .ge) (off := 7) (t := 139) rfl rfl hh
    rw [show pm_cmp .ge (-1 : Int32) 0 = false by decide] at hh
    obtain ⟨n, hh⟩ := rn_i rfl rfl rfl rfl hh
    obtain ⟨n, hh⟩ := rn_i rfl rfl rfl rfl hh
    exact gwR_mono (rv_150 (v := Int32.ofInt (-1)) (b := false) (by decide) hrm p' (fun q => by cases q) hh) (by omega) (fun j hj => by rw [nI_clamp (by omega)]; exact if_neg (by omega))
  | true =>
    rw [hd] at er
    dsimp only [cond] at er
    subst er
    have en : nbr tp t 1 a 0 = (a + 1, 10 * 0 + tp a - 48) := by
      show nbr tp t (0 + 1) a 0 = _
      rw [nbr_gt t hd]
      rfl
    have ev : (10 * 0 + tp a - 48 : Int32) = tp a - 48 := by simp
    rw [en, ev] at hh
    obtain ⟨v1, v2⟩ := dg_val hd
    have hat := dg_lt hd
    have p0 : pW g0 (mset h 16 (.int (nI (a + 1)))) tp t cc gc (a + 1) rm Rd := pW_16 p
    have hh : pm_run PT n fr lo 191 (116, [some (.ref 162), some (.int (nI (4 * rm)))], [.int (tp a - 48), .int (nI (4 * rm) + Int32.ofInt 2), .ref 173], mset h 16 (.int (nI (a + 1))), 198, sl) = some R := hh
    rw [e2] at hh
    have q80 := p0.2.1
    obtain ⟨n, hh⟩ := rn_ism rfl q80 hin (by decide) hh
    have p' := pW_rd (Rd' := upd Rd (nI (4 * rm + 2)).toNatClampNeg (tp a - 48)) p0
    obtain ⟨n, hh⟩ := rn_i rfl rfl rfl rfl hh
    obtain ⟨n, hh⟩ := rn_gfm rfl rfl p'.1.1.2.2.2.1 hh
    obtain ⟨n, hh⟩ := rn_i rfl rfl rfl rfl hh
    obtain ⟨n, hh⟩ := rn_i rfl rfl rfl rfl hh
    obtain ⟨n, hh⟩ := rn_i rfl rfl rfl rfl hh
    obtain ⟨n, hh⟩ := rn_i rfl rfl rfl rfl hh
    obtain ⟨n, hh⟩ := rn_gfm rfl rfl p'.1.1.2.2.2.1 hh
    obtain ⟨n, hh⟩ := rn_i rfl rfl rfl rfl hh
    obtain ⟨n, hh⟩ := rn_i rfl rfl rfl rfl hh
    obtain ⟨n, hh⟩ := rn_i rfl rfl rfl rfl hh
    have hh : pm_run PT n fr lo 191 (131, [some (.ref 162), some (.int (nI (4 * rm)))], [.int (nI (4 * rm) + Int32.ofInt 2), .ref 173, .int (nI (4 * rm) + Int32.ofInt 3), .ref 173], _, 198, sl) = some R := hh
    rw [e2, e3] at hh
    obtain ⟨n, hh⟩ := rn_iam rfl asR_self hin (by decide) hh
    have eu : upd Rd (nI (4 * rm + 2)).toNatClampNeg (tp a - 48) (nI (4 * rm + 2)).toNatClampNeg = tp a - 48 := by simp [upd]
    rw [eu] at hh
    obtain ⟨n, hh⟩ := rn_if (cc := .ge) (off := 7) (t := 139) rfl rfl hh
    rw [ge0_val v1] at hh
    obtain ⟨⟨⟨⟨u1, u2, u3, u4⟩, u5, u6, -⟩, -⟩, -⟩ := id p'
    have hh : pm_run PT n fr lo 191 (139, [some (.ref 162), some (.int (nI (4 * rm)))], [.int (nI (4 * rm + 3)), .ref 173], aset (mset h 16 (.int (nI (a + 1)))) 173 36 (upd Rd (nI (4 * rm + 2)).toNatClampNeg (tp a - 48)), 198, sl) = some R := hh
    generalize aset (mset h 16 (.int (nI (a + 1)))) 173 36 (upd Rd (nI (4 * rm + 2)).toNatClampNeg (tp a - 48)) = hq at *
    obtain ⟨n, hh⟩ := rn_i rfl rfl rfl rfl hh
    obtain ⟨n, hh⟩ := rn_i rfl rfl rfl rfl hh
    obtain ⟨n, hh⟩ := rn_i rfl rfl rfl rfl hh
    obtain ⟨n, hh⟩ := rn_gfm rfl rfl u6 hh
    obtain ⟨n, hh⟩ := rn_i rfl rfl rfl rfl hh
    obtain ⟨n, hh⟩ := rn_i rfl rfl rfl rfl hh
    obtain ⟨n, fr', lo', r1, hr1, hh⟩ := rn_call (w := 0) (t := 185) rfl rfl hh
    have er := rn_dt (F := 10) (Lo := 1000) (hd_digitIn (fr := 10) (lo := 1000) (sl := sl) u1 u2 u3 u4 ht (by omega) (by decide) (by decide) (Int32.ofInt 0) (nI cc - Int32.ofInt 1)) hr1
    dsimp only [cond]
    cases hi : dgi tp (a + 1) t (Int32.ofInt 0) (nI cc - Int32.ofInt 1) with
    | false =>
      rw [hi] at er
      dsimp only [cond] at er
      subst er
      exact gwR_mono (rv_150 (v := -1) (b := false) (by decide) hrm p' (fun q => by cases q) hh) (by omega) (fun j hj => by rw [nI_clamp (by omega)]; exact if_neg (by omega))
    | true =>
      rw [hi] at er
      dsimp only [cond] at er
      subst er
      obtain ⟨w0, w1⟩ := dgi_g0 hi
      refine gwR_mono (rv_150 (v := tp (a + 1) - 48) (b := true) (lt0_val w1) hrm (pW_16 p') (fun _ => ?_) hh) (by omega) (fun j hj => by rw [nI_clamp (by omega)]; exact if_neg (by omega))
      refine hV _ (fun j hj => ?_) ?_ ?_
      · rw [nI_clamp (by omega)]
        exact (if_neg (by omega)).trans (if_neg (by omega))
      · rw [nI_clamp (by omega)]
        exact (if_neg (by omega)).trans (if_pos rfl)
      · exact if_pos rfl
theorem rv_82 {w : Int32} (ht : t ≤ 80) (ha : a < 97) (hrm : rm < 8) (p : pW g0 h tp t cc gc a rm Rd) (ev : Rd (4 * rm + 1) = w) (hV : ∀ Rd', (∀ j, j < 4 * rm + 2 → Rd' j = Rd j) → Rd' (4 * rm + 2) = tp (a + 1) - 48 → Rd' (4 * rm + 3) = tp (a + 2) - 48 → V Rd') (hw : 0 ≤ w.toInt) (hh : pm_run PT n fr lo 191 (82, [some (.ref 162), some (.int (nI (4 * rm)))], [], h, 198, sl) = some R) : gwR g0 R tp t cc gc rm Rd 2 (rgC tp t cc a) V sl := by
  obtain ⟨⟨⟨⟨q1, q2, q3, q4⟩, q5, q6, q7, -⟩, q9⟩, q8, -⟩ := id p
  obtain ⟨n, hh⟩ := rn_i rfl rfl rfl rfl hh
  obtain ⟨n, hh⟩ := rn_gfm rfl rfl q7 hh
  obtain ⟨n, hh⟩ := rn_i rfl rfl rfl rfl hh
  obtain ⟨n, hh⟩ := rn_i rfl rfl rfl rfl hh
  obtain ⟨n, hh⟩ := rn_i rfl rfl rfl rfl hh
  have e1 : nI (4 * rm) + Int32.ofInt 1 = nI (4 * rm + 1) := (Int32.ofNat_add (4 * rm) 1).symm
  have hh : pm_run PT n fr lo 191 (89, [some (.ref 162), some (.int (nI (4 * rm)))], [.int (nI (4 * rm) + Int32.ofInt 1), .ref 173], h, 198, sl) = some R := hh
  rw [e1] at hh
  obtain ⟨n, hh⟩ := rn_iam rfl q8 (hI_in (by omega) (by decide)) (by decide) hh
  rw [nI_clamp (by omega), ev] at hh
  obtain ⟨n, hh⟩ := rn_if (cc := .lt) (off := 12) (t := 102) rfl rfl hh
  rw [lt0_val hw] at hh
  obtain ⟨n, hh⟩ := rn_i rfl rfl rfl rfl hh
  obtain ⟨n, hh⟩ := rn_i rfl rfl rfl rfl hh
  obtain ⟨n, fr', lo', r1, hr1, hh⟩ := rn_call (w := 0) (t := 181) rfl rfl hh
  have er := rn_dt (F := 10) (Lo := 1000) (hd_takes (fr := 10) (lo := 1000) (sl := sl) q1 q2 q3 q4 ht (by omega) (by decide) (by decide) 44) hr1
  unfold rgC
  cases x : decide (a < t ∧ tp a = 44) with
  | false =>
    rw [x] at er
    dsimp only [cond] at er
    subst er
    have hh : pm_run PT n fr lo 191 (99, [some (.ref 162), some (.int (nI (4 * rm)))], [.int 0], mset h 16 (.int (nI (a + 0))), 198, sl) = some R := hh
    obtain ⟨n, hh⟩ := rn_if (cc := .ne) (off := 5) (t := 104) rfl rfl hh
    have hh : pm_run PT n fr lo 191 (102, [some (.ref 162), some (.int (nI (4 * rm)))], [], mset h 16 (.int (nI (a + 0))), 198, sl) = some R := hh
    exact rv_102 (pW_16 p) hh
  | true =>
    rw [x] at er
    dsimp only [cond] at er
    subst er
    have xx := of_decide_eq_true x
    have hh : pm_run PT n fr lo 191 (99, [some (.ref 162), some (.int (nI (4 * rm)))], [.int 1], mset h 16 (.int (nI (a + 1))), 198, sl) = some R := hh
    obtain ⟨n, hh⟩ := rn_if (cc := .ne) (off := 5) (t := 104) rfl rfl hh
    have hh : pm_run PT n fr lo 191 (104, [some (.ref 162), some (.int (nI (4 * rm)))], [], mset h 16 (.int (nI (a + 1))), 198, sl) = some R := hh
    exact rv_104 ht (by omega) hrm (pW_16 p) hV hh
theorem rv_46 (ht : t ≤ 80) (ha : a < 90) (hrm : rm < 8) (p : pW g0 h tp t cc gc a rm Rd) (hV : ∀ Rd', (∀ j, j < 4 * rm + 1 → Rd' j = Rd j) → Rd' (4 * rm + 1) = (nbr tp t 2 a 0).2 → Rd' (4 * rm + 2) = tp ((nbr tp t 2 a 0).1 + 1) - 48 → Rd' (4 * rm + 3) = tp ((nbr tp t 2 a 0).1 + 2) - 48 → V Rd') (hh : pm_run PT n fr lo 191 (46, [some (.ref 162), some (.int (nI (4 * rm)))], [], h, 198, sl) = some R) : gwR g0 R tp t cc gc rm Rd 1 (cond (dg tp a t) (rgW tp t cc (nbr tp t 2 a 0)) (false, a)) V sl := by
  obtain ⟨⟨⟨⟨q1, q2, q3, q4⟩, q5, q6, q7, -⟩, q9⟩, q8, -⟩ := id p
  obtain ⟨n, hh⟩ := rn_i rfl rfl rfl rfl hh
  obtain ⟨n, hh⟩ := rn_gfm rfl rfl q7 hh
  obtain ⟨n, hh⟩ := rn_i rfl rfl rfl rfl hh
  obtain ⟨n, hh⟩ := rn_i rfl rfl rfl rfl hh
  obtain ⟨n, hh⟩ := rn_i rfl rfl rfl rfl hh
  obtain ⟨n, hh⟩ := rn_i rfl rfl rfl rfl hh
  obtain ⟨n, hh⟩ := rn_i rfl rfl rfl rfl hh
  obtain ⟨n, fr', lo', r1, hr1, hh⟩ := rn_call (w := 0) (t := 184) rfl rfl hh
  have er := rn_dt (F := 10) (Lo := 1000) (hd_number (fr := 10) (lo := 1000) (sl := sl) q1 q2 q3 q4 ht (by omega) (by decide) (by decide) (d := 2) (by decide)) hr1
  have e1 : nI (4 * rm) + Int32.ofInt 1 = nI (4 * rm + 1) := (Int32.ofNat_add (4 * rm) 1).symm
  have hin : pm_in (nI (4 * rm + 1)) 36 = true := hI_in (by omega) (by decide)
  cases hd : dg tp a t with
  | false =>
    rw [hd] at er
    dsimp only [cond] at er
    subst er
    have hh : pm_run PT n fr lo 191 (58, [some (.ref 162), some (.int (nI (4 * rm)))], [.int (-1), .int (nI (4 * rm) + Int32.ofInt 1), .ref 173], h, 198, sl) = some R := hh
    rw [e1] at hh
    obtain ⟨n, hh⟩ := rn_ism rfl q8 hin (by decide) hh
    have p' := pW_rd (Rd' := upd Rd (nI (4 * rm + 1)).toNatClampNeg (-1)) p
    have eu : upd Rd (nI (4 * rm + 1)).toNatClampNeg (-1) (nI (4 * rm + 1)).toNatClampNeg = (-1 : Int32) := by simp [upd]
    obtain ⟨n, hh⟩ := rn_i rfl rfl rfl rfl hh
    obtain ⟨n, hh⟩ := rn_gfm rfl rfl p'.1.1.2.2.2.1 hh
    obtain ⟨n, hh⟩ := rn_i rfl rfl rfl rfl hh
    obtain ⟨n, hh⟩ := rn_i rfl rfl rfl rfl hh
    obtain ⟨n, hh⟩ := rn_i rfl rfl rfl rfl hh
    have hh : pm_run PT n fr lo 191 (66, [some (.ref 162), some (.int (nI (4 * rm)))], [.int (nI (4 * rm) + Int32.ofInt 1), .ref 173], _, 198, sl) = some R := hh
    rw [e1] at hh
    obtain ⟨n, hh⟩ := rn_iam rfl asR_self hin (by decide) hh
    rw [eu] at hh
    obtain ⟨n, hh⟩ := rn_if (cc := .ne) (off := 15) (t := 82) rfl rfl hh
    rw [show pm_cmp .ne (-1 : Int32) 0 = true by decide] at hh
    have hh : pm_run PT n fr lo 191 (82, [some (.ref 162), some (.int (nI (4 * rm)))], [], aset h 173 36 (upd Rd (nI (4 * rm + 1)).toNatClampNeg (-1)), 198, sl) = some R := hh
    obtain ⟨n, hh⟩ := rn_i rfl rfl rfl rfl hh
    obtain ⟨n, hh⟩ := rn_gfm rfl rfl p'.1.1.2.2.2.1 hh
    obtain ⟨n, hh⟩ := rn_i rfl rfl rfl rfl hh
    obtain ⟨n, hh⟩ := rn_i rfl rfl rfl rfl hh
    obtain ⟨n, hh⟩ := rn_i rfl rfl rfl rfl hh
    have hh : pm_run PT n fr lo 191 (89, [some (.ref 162), some (.int (nI (4 * rm)))], [.int (nI (4 * rm) + Int32.ofInt 1), .ref 173], aset h 173 36 (upd Rd (nI (4 * rm + 1)).toNatClampNeg (-1)), 198, sl) = some R := hh
    rw [e1] at hh
    obtain ⟨n, hh⟩ := rn_iam rfl asR_self hin (by decide) hh
    rw [eu] at hh
    obtain ⟨n, hh⟩ := rn_if (cc := .lt) (off := 12) (t := 102) rfl rfl hh
    rw [lt0_m1] at hh
    exact gwR_mono (j1 := 1) (rv_102 p' hh) (Nat.le_refl _) (fun j hj => by rw [nI_clamp (by omega)]; exact if_neg (by omega))
  | true =>
    rw [hd] at er
    dsimp only [cond] at er
    subst er
    obtain ⟨b1, b2, b3, b4, -⟩ := nbr_bd (tp := tp) t 2 a 0 0 (by decide) (by decide) (by decide) (by decide)
    have b0 : a + 1 ≤ (nbr tp t 2 a 0).1 := by
      rw [show nbr tp t 2 a 0 = nbr tp t (1 + 1) a 0 from rfl, nbr_gt t hd]
      have hv := dg_val hd
      have ez : (10 * 0 + tp a - 48 : Int32) = tp a - 48 := by simp
      rw [ez]
      exact (nbr_bd (tp := tp) t 1 (a + 1) (tp a - 48) 9 hv.1 hv.2 (by decide) (by decide)).1
    have p0 : pW g0 (mset h 16 (.int (nI (nbr tp t 2 a 0).1))) tp t cc gc (nbr tp t 2 a 0).1 rm Rd := pW_16 p
    have hh : pm_run PT n fr lo 191 (58, [some (.ref 162), some (.int (nI (4 * rm)))], [.int (nbr tp t 2 a 0).2, .int (nI (4 * rm) + Int32.ofInt 1), .ref 173], mset h 16 (.int (nI (nbr tp t 2 a 0).1)), 198, sl) = some R := hh
    rw [e1] at hh
    show gwR g0 R tp t cc gc rm Rd 1 (rgW tp t cc (nbr tp t 2 a 0)) V sl
    generalize nbr tp t 2 a 0 = w at *
    have q80 := p0.2.1
    obtain ⟨n, hh⟩ := rn_ism rfl q80 hin (by decide) hh
    have p' := pW_rd (Rd' := upd Rd (nI (4 * rm + 1)).toNatClampNeg w.2) p0
    have eu : upd Rd (nI (4 * rm + 1)).toNatClampNeg w.2 (nI (4 * rm + 1)).toNatClampNeg = w.2 := by simp [upd]
    obtain ⟨n, hh⟩ := rn_i rfl rfl rfl rfl hh
    obtain ⟨n, hh⟩ := rn_gfm rfl rfl p'.1.1.2.2.2.1 hh
    obtain ⟨n, hh⟩ := rn_i rfl rfl rfl rfl hh
    obtain ⟨n, hh⟩ := rn_i rfl rfl rfl rfl hh
    obtain ⟨n, hh⟩ := rn_i rfl rfl rfl rfl hh
    have hh : pm_run PT n fr lo 191 (66, [some (.ref 162), some (.int (nI (4 * rm)))], [.int (nI (4 * rm) + Int32.ofInt 1), .ref 173], _, 198, sl) = some R := hh
    rw [e1] at hh
    obtain ⟨n, hh⟩ := rn_iam rfl asR_self hin (by decide) hh
    rw [eu] at hh
    obtain ⟨n, hh⟩ := rn_if (cc := .ne) (off := 15) (t := 82) rfl rfl hh
    unfold rgW
    by_cases z : w.2 = 0
    · rw [show pm_cmp .ne w.2 0 = false from decide_eq_false (fun q => q z)] at hh
      rw [decide_eq_true z]
      have hh : pm_run PT n fr lo 191 (70, [some (.ref 162), some (.int (nI (4 * rm)))], [], aset (mset h 16 (.int (nI w.1))) 173 36 (upd Rd (nI (4 * rm + 1)).toNatClampNeg w.2), 198, sl) = some R := hh
      generalize aset (mset h 16 (.int (nI w.1))) 173 36 (upd Rd (nI (4 * rm + 1)).toNatClampNeg w.2) = hq at *
      obtain ⟨n, hh⟩ := rn_i rfl rfl rfl rfl hh
      obtain ⟨n, hh⟩ := rn_i rfl rfl rfl rfl hh
      obtain ⟨n, hh⟩ := rn_gfm rfl rfl p'.1.1.1.1 hh
      obtain ⟨n, hh⟩ := rn_i rfl rfl rfl rfl hh
      obtain ⟨n, hh⟩ := rn_i rfl rfl rfl rfl hh
      obtain ⟨n, hh⟩ := rn_pfm (w := .int (nI w.1)) rfl rfl rfl (by decide) p'.1.1.1.1 hh
      have em : nI w.1 - Int32.ofInt 1 = nI (w.1 - 1) := by
        have e : nI w.1 = nI (w.1 - 1) + Int32.ofInt 1 := by
          rw [show nI (w.1 - 1) + Int32.ofInt 1 = nI (w.1 - 1 + 1) from (Int32.ofNat_add (w.1 - 1) 1).symm, Nat.sub_add_cancel (by omega)]
        rw [e]
        simp
      have hh : pm_run PT n fr lo 191 (80, [some (.ref 162), some (.int (nI (4 * rm)))], [], mset hq 16 (.int (nI w.1 - Int32.ofInt 1)), 198, sl) = some R := hh
      rw [em] at hh
      obtain ⟨n, hh⟩ := rn_i rfl rfl rfl rfl hh
      have e := (rn_ret rfl (Or.inr rfl) hh).2
      subst e
      exact ⟨rfl, rfl, rm, _, pW_16 p', fun j hj => by rw [nI_clamp (by omega)]; exact if_neg (by omega), fun q => by cases q⟩
    · rw [show pm_cmp .ne w.2 0 = true from decide_eq_true z] at hh
      rw [decide_eq_false z]
      refine gwR_mono (rv_82 (w := w.2) ht (by omega) hrm p' (by rw [nI_clamp (by omega)]; simp [upd]) (fun Rd' r1 r2 r3 => ?_) b4 hh) (by omega) (fun j hj => by rw [nI_clamp (by omega)]; exact if_neg (by omega))
      refine hV Rd' (fun j hj => ?_) ?_ r2 r3
      · rw [r1 j (by omega), nI_clamp (by omega)]
        exact if_neg (by omega)
      · rw [r1 _ (by omega), nI_clamp (by omega)]
        exact if_pos rfl
theorem rv_reads (ht : t ≤ 80) (ha : a < 89) (hgr : gc + rm ≤ 8) (p : pW g0 h tp t cc gc a rm Rd) (hV : ∀ Rd', Rd' (4 * rm) = tp a - 48 → Rd' (4 * rm + 1) = (nbr tp t 2 (a + 1) 0).2 → Rd' (4 * rm + 2) = tp ((nbr tp t 2 (a + 1) 0).1 + 1) - 48 → Rd' (4 * rm + 3) = tp ((nbr tp t 2 (a + 1) 0).1 + 2) - 48 → V Rd') (hh : pm_run PT n fr lo 191 (0, pm_l0 [.ref 162] 2, [], h, 198, sl) = some R) : gwR g0 R tp t cc gc rm Rd 0 (cond (decide (gc + rm = 8)) (false, a) (rgL tp t cc a)) V sl := by
  obtain ⟨⟨⟨⟨q1, q2, q3, q4⟩, q5, q6, q7, -⟩, q9⟩, q8, -⟩ := id p
  obtain ⟨n, hh⟩ := rn_i rfl rfl rfl rfl hh
  obtain ⟨n, hh⟩ := rn_gfm rfl rfl q9 hh
  obtain ⟨n, hh⟩ := rn_i rfl rfl rfl rfl hh
  obtain ⟨n, hh⟩ := rn_gfm rfl rfl q5 hh
  obtain ⟨n, hh⟩ := rn_i rfl rfl rfl rfl hh
  obtain ⟨n, hh⟩ := rn_i rfl rfl rfl rfl hh
  obtain ⟨n, hh⟩ := rn_icmp (cc := .ne) (off := 5) (t := 16) rfl rfl hh
  have ec : pm_cmp .ne ((fun x y => x + y) (nI gc) (nI rm)) (Int8.ofInt 8).toInt32 = decide (¬ (gc + rm = 8)) := by
    show pm_cmp .ne (nI gc + nI rm) (nI 8) = _
    rw [nI_add]
    exact hI_ne (by omega) (by omega)
  rw [ec] at hh
  by_cases z : gc + rm = 8
  · rw [decide_eq_false (fun q => q z)] at hh
    rw [decide_eq_true z]
    obtain ⟨n, hh⟩ := rn_i rfl rfl rfl rfl hh
    have e := (rn_ret rfl (Or.inr rfl) hh).2
    subst e
    exact ⟨rfl, rfl, rm, Rd, p, fun _ _ => rfl, fun q => by cases q⟩
  · rw [decide_eq_true z] at hh
    rw [decide_eq_false z]
    have hh : pm_run PT n fr lo 191 (16, [some (.ref 162), none], [], h, 198, sl) = some R := hh
    obtain ⟨n, hh⟩ := rn_i rfl rfl rfl rfl hh
    obtain ⟨n, hh⟩ := rn_i rfl rfl rfl rfl hh
    obtain ⟨n, hh⟩ := rn_gfm rfl rfl q5 hh
    obtain ⟨n, hh⟩ := rn_i rfl rfl rfl rfl hh
    obtain ⟨n, hh⟩ := rn_i rfl rfl rfl rfl hh
    have e6 : Int32.ofInt 4 * nI rm = nI (4 * rm) := hI_mul 4 rm
    have hh : pm_run PT n fr lo 191 (23, [some (.ref 162), some (.int (Int32.ofInt 4 * nI rm))], [], h, 198, sl) = some R := hh
    rw [e6] at hh
    obtain ⟨n, hh⟩ := rn_i rfl rfl rfl rfl hh
    obtain ⟨n, hh⟩ := rn_gfm rfl rfl q7 hh
    obtain ⟨n, hh⟩ := rn_i rfl rfl rfl rfl hh
    obtain ⟨n, hh⟩ := rn_i rfl rfl rfl rfl hh
    obtain ⟨n, hh⟩ := rn_i rfl rfl rfl rfl hh
    obtain ⟨n, hh⟩ := rn_i rfl rfl rfl rfl hh
    obtain ⟨n, fr', lo', r1, hr1, hh⟩ := rn_call (w := 0) (t := 185) rfl rfl hh
    have er := rn_dt (F := 10) (Lo := 1000) (hd_digitIn (fr := 10) (lo := 1000) (sl := sl) q1 q2 q3 q4 ht (by omega) (by decide) (by decide) (Int32.ofInt 0) (Int32.ofInt 4)) hr1
    have hin : pm_in (nI (4 * rm)) 36 = true := hI_in (by omega) (by decide)
    dsimp only [cond]
    unfold rgL
    cases hd : dgi tp a t (Int32.ofInt 0) (Int32.ofInt 4) with
    | false =>
      rw [hd] at er
      dsimp only [cond] at er
      subst er
      have hh : pm_run PT n fr lo 191 (34, [some (.ref 162), some (.int (nI (4 * rm)))], [.int (-1), .int (nI (4 * rm)), .ref 173], h, 198, sl) = some R := hh
      obtain ⟨n, hh⟩ := rn_ism rfl q8 hin (by decide) hh
      have p' := pW_rd (Rd' := upd Rd (nI (4 * rm)).toNatClampNeg (-1)) p
      obtain ⟨n, hh⟩ := rn_i rfl rfl rfl rfl hh
      obtain ⟨n, hh⟩ := rn_gfm rfl rfl p'.1.1.2.2.2.1 hh
      obtain ⟨n, hh⟩ := rn_i rfl rfl rfl rfl hh
      obtain ⟨n, hh⟩ := rn_iam rfl asR_self hin (by decide) hh
      have eu : upd Rd (nI (4 * rm)).toNatClampNeg (-1) (nI (4 * rm)).toNatClampNeg = (-1 : Int32) := by simp [upd]
      rw [eu] at hh
      obtain ⟨n, hh⟩ := rn_if (cc := .ge) (off := 5) (t := 46) rfl rfl hh
      rw [show pm_cmp .ge (-1 : Int32) 0 = false by decide] at hh
      exact gwR_mono (j1 := 0) (rv_0 p' hh) (Nat.le_refl _) (fun j hj => by rw [nI_clamp (by omega)]; exact if_neg (by omega))
    | true =>
      rw [hd] at er
      dsimp only [cond] at er
      subst er
      obtain ⟨v0, v1⟩ := dgi_g0 hd
      have p0 : pW g0 (mset h 16 (.int (nI (a + 1)))) tp t cc gc (a + 1) rm Rd := pW_16 p
      have hh : pm_run PT n fr lo 191 (34, [some (.ref 162), some (.int (nI (4 * rm)))], [.int (tp a - 48), .int (nI (4 * rm)), .ref 173], mset h 16 (.int (nI (a + 1))), 198, sl) = some R := hh
      have q80 := p0.2.1
      obtain ⟨n, hh⟩ := rn_ism rfl q80 hin (by decide) hh
      have p' := pW_rd (Rd' := upd Rd (nI (4 * rm)).toNatClampNeg (tp a - 48)) p0
      obtain ⟨n, hh⟩ := rn_i rfl rfl rfl rfl hh
      obtain ⟨n, hh⟩ := rn_gfm rfl rfl p'.1.1.2.2.2.1 hh
      obtain ⟨n, hh⟩ := rn_i rfl rfl rfl rfl hh
      obtain ⟨n, hh⟩ := rn_iam rfl asR_self hin (by decide) hh
      have eu : upd Rd (nI (4 * rm)).toNatClampNeg (tp a - 48) (nI (4 * rm)).toNatClampNeg = tp a - 48 := by simp [upd]
      rw [eu] at hh
      obtain ⟨n, hh⟩ := rn_if (cc := .ge) (off := 5) (t := 46) rfl rfl hh
      rw [ge0_val v1] at hh
      refine gwR_mono (rv_46 ht (by omega) (by omega) p' (fun Rd' r1 r2 r3 r4 => ?_) hh) (by omega) (fun j hj => by rw [nI_clamp (by omega)]; exact if_neg (by omega))
      refine hV Rd' ?_ r2 r3 r4
      rw [r1 _ (by omega), nI_clamp (by omega)]
      exact if_pos rfl
theorem gmv_loop (ht : t ≤ 80) {n0 : Int32} : ∀ (k rm a n : Nat) (h : pm_H) (Rd : Nat → Int32), gc + rm + k = 9 → 0 < k → a ≤ t → a = gps tp t cc rm → pW g0 h tp t cc gc a rm Rd → (∀ r, r < rm → gvM tp t cc r Rd) → pm_run PT n fr lo 192 (29, [some (.ref 162), some (.int n0), some (.int 1), some (.int 1), none, none], [], h, 198, sl) = some R → ∃ m h' rm' Rd', pm_run PT m fr lo 192 (60, [some (.ref 162), some (.int n0), some (.int (cond (sgL tp t cc gc k rm a).1 1 0)), some (.int 0), none, none], [], h', 198, sl) = some R ∧ pW g0 h' tp t cc gc (sgL tp t cc gc k rm a).2.1 rm' Rd' ∧ ((sgL tp t cc gc k rm a).1 = true → rm' = (sgL tp t cc gc k rm a).2.2 ∧ ∀ r, r < rm' → gvM tp t cc r Rd') := by
  have out : ∀ (n : Nat) (b : Int32) (h : pm_H), pm_run PT n fr lo 192 (29, [some (.ref 162), some (.int n0), some (.int b), some (.int 0), none, none], [], h, 198, sl) = some R → ∃ m, pm_run PT m fr lo 192 (60, [some (.ref 162), some (.int n0), some (.int b), some (.int 0), none, none], [], h, 198, sl) = some R := by
    intro n b h hh
    obtain ⟨n, hh⟩ := rn_i rfl rfl rfl rfl hh
    obtain ⟨n, hh⟩ := rn_if (cc := .eq) (off := 30) (t := 60) rfl rfl hh
    exact ⟨n, hh⟩
  have bad : ∀ (n : Nat) (h1 : pm_H), pm_run PT n fr lo 192 (37, [some (.ref 162), some (.int n0), some (.int 1), some (.int 1), none, none], [.int 0], h1, 198, sl) = some R → ∃ m, pm_run PT m fr lo 192 (60, [some (.ref 162), some (.int n0), some (.int 0), some (.int 0), none, none], [], h1, 198, sl) = some R := by
    intro n h1 hh
    obtain ⟨n, hh⟩ := rn_i rfl rfl rfl rfl hh
    obtain ⟨n, hh⟩ := rn_i rfl rfl rfl rfl hh
    obtain ⟨n, hh⟩ := rn_if (cc := .eq) (off := 16) (t := 55) rfl rfl hh
    have hh : pm_run PT n fr lo 192 (55, [some (.ref 162), some (.int n0), some (.int 0), some (.int 1), none, none], [], h1, 198, sl) = some R := hh
    obtain ⟨n, hh⟩ := rn_i rfl rfl rfl rfl hh
    obtain ⟨n, hh⟩ := rn_i rfl rfl rfl rfl hh
    obtain ⟨n, hh⟩ := rn_i rfl rfl rfl rfl hh
    exact out n 0 h1 hh
  intro k
  induction k with
  | zero => intro rm a n h Rd hk h0; exact absurd h0 (by omega)
  | succ k ih =>
    intro rm a n h Rd hk h0 ha hs p hl hh
    obtain ⟨n, hh⟩ := rn_i rfl rfl rfl rfl hh
    obtain ⟨n, hh⟩ := rn_if (cc := .eq) (off := 30) (t := 60) rfl rfl hh
    have hh : pm_run PT n fr lo 192 (33, [some (.ref 162), some (.int n0), some (.int 1), some (.int 1), none, none], [], h, 198, sl) = some R := hh
    obtain ⟨n, hh⟩ := rn_i rfl rfl rfl rfl hh
    obtain ⟨n, fr', lo', r1, hr1, hh⟩ := rn_call (w := 0) (t := 191) rfl rfl hh
    obtain ⟨e1, e3, rm', Rd', e2, e5, e4⟩ := rv_reads (V := gvM tp t cc rm) ht (by omega) (by omega) p (fun Rd' r1 r2 r3 r4 => (by unfold gvM; rw [← hs]; exact ⟨r1, r2, r3, r4⟩)) hr1
    obtain ⟨rv, h1, s1⟩ := r1
    dsimp only at e1 e2 e3 e4 e5
    subst e1
    subst e3
    show ∃ m h' rm' Rd', pm_run PT m fr lo 192 (60, [some (.ref 162), some (.int n0), some (.int (cond (sgL tp t cc gc (k + 1) rm a).1 1 0)), some (.int 0), none, none], [], h', 198, sl) = some R ∧ pW g0 h' tp t cc gc (sgL tp t cc gc (k + 1) rm a).2.1 rm' Rd' ∧ ((sgL tp t cc gc (k + 1) rm a).1 = true → rm' = (sgL tp t cc gc (k + 1) rm a).2.2 ∧ ∀ r, r < rm' → gvM tp t cc r Rd')
    unfold sgL
    cases z : decide (gc + rm = 8) with
    | true =>
      rw [z] at e2 e4 hh
      obtain ⟨m, hm⟩ := bad n h1 hh
      exact ⟨m, h1, rm', Rd', hm, e2, fun q => by cases q⟩
    | false =>
      rw [z] at e2 e4 hh
      dsimp only [cond] at e2 e4 ⊢
      cases y : (rgL tp t cc a).1 with
      | false =>
        have hh : pm_run PT n fr lo 192 (37, [some (.ref 162), some (.int n0), some (.int 1), some (.int 1), none, none], [.int 0], h1, 198, sl) = some R := by rw [← hh]; dsimp only [cond]; rw [y]; rfl
        obtain ⟨m, hm⟩ := bad n h1 hh
        exact ⟨m, h1, rm', Rd', hm, e2, fun q => by cases q⟩
      | true =>
        have hh : pm_run PT n fr lo 192 (37, [some (.ref 162), some (.int n0), some (.int 1), some (.int 1), none, none], [.int 1], h1, 198, sl) = some R := by rw [← hh]; dsimp only [cond]; rw [y]; rfl
        have hle : (rgL tp t cc a).2 ≤ t := rgL_le ha
        obtain ⟨e4, e6⟩ := e4 y
        subst e4
        have hs2 : gps tp t cc (rm + 1) = (rgL tp t cc a).2 + 1 := by
          rw [hs]
          rfl
        have hl2 : ∀ r, r < rm + 1 → gvM tp t cc r Rd' := by
          intro r hr
          by_cases z2 : r = rm
          · rw [z2]
            exact e6
          · have h2 := hl r (by omega)
            unfold gvM at h2 ⊢
            rw [e5 _ (by omega), e5 _ (by omega), e5 _ (by omega), e5 _ (by omega)]
            exact h2
        generalize (rgL tp t cc a).2 = b at *
        obtain ⟨n, hh⟩ := rn_i rfl rfl rfl rfl hh
        obtain ⟨n, hh⟩ := rn_i rfl rfl rfl rfl hh
        obtain ⟨n, hh⟩ := rn_if (cc := .eq) (off := 16) (t := 55) rfl rfl hh
        have hh : pm_run PT n fr lo 192 (42, [some (.ref 162), some (.int n0), some (.int 1), some (.int 1), none, none], [], h1, 198, sl) = some R := hh
        obtain ⟨n, hh⟩ := rn_i rfl rfl rfl rfl hh
        obtain ⟨n, hh⟩ := rn_i rfl rfl rfl rfl hh
        obtain ⟨n, fr', lo', r1, hr1, hh⟩ := rn_call (w := 0) (t := 181) rfl rfl hh
        obtain ⟨⟨⟨⟨q1, q2, q3, q4⟩, -⟩, -⟩, -⟩ := id e2
        have er := rn_dt (F := 10) (Lo := 1000) (hd_takes (fr := 10) (lo := 1000) (sl := sl) q1 q2 q3 q4 ht (by omega) (by decide) (by decide) 59) hr1
        cases x : decide (b < t ∧ tp b = 59) with
        | false =>
          rw [x] at er
          dsimp only [cond] at er
          subst er
          have hh : pm_run PT n fr lo 192 (48, [some (.ref 162), some (.int n0), some (.int 1), some (.int 1), none, none], [.int 0], mset h1 16 (.int (nI (b + 0))), 198, sl) = some R := hh
          obtain ⟨n, hh⟩ := rn_if (cc := .eq) (off := 7) (t := 55) rfl rfl hh
          have hh : pm_run PT n fr lo 192 (55, [some (.ref 162), some (.int n0), some (.int 1), some (.int 1), none, none], [], mset h1 16 (.int (nI (b + 0))), 198, sl) = some R := hh
          obtain ⟨n, hh⟩ := rn_i rfl rfl rfl rfl hh
          obtain ⟨n, hh⟩ := rn_i rfl rfl rfl rfl hh
          obtain ⟨n, hh⟩ := rn_i rfl rfl rfl rfl hh
          obtain ⟨m, hm⟩ := out n 1 _ hh
          exact ⟨m, _, rm + 1, Rd', hm, pW_16 e2, fun _ => ⟨rfl, hl2⟩⟩
        | true =>
          rw [x] at er
          dsimp only [cond] at er
          subst er
          have xx := of_decide_eq_true x
          have hh : pm_run PT n fr lo 192 (48, [some (.ref 162), some (.int n0), some (.int 1), some (.int 1), none, none], [.int 1], mset h1 16 (.int (nI (b + 1))), 198, sl) = some R := hh
          obtain ⟨n, hh⟩ := rn_if (cc := .eq) (off := 7) (t := 55) rfl rfl hh
          have hh : pm_run PT n fr lo 192 (51, [some (.ref 162), some (.int n0), some (.int 1), some (.int 1), none, none], [], mset h1 16 (.int (nI (b + 1))), 198, sl) = some R := hh
          obtain ⟨n, hh⟩ := rn_i rfl rfl rfl rfl hh
          obtain ⟨n, hh⟩ := rn_i rfl rfl rfl rfl hh
          obtain ⟨n, hh⟩ := rn_i rfl rfl rfl rfl hh
          obtain ⟨n, hh⟩ := rn_i rfl rfl rfl rfl hh
          have zz := of_decide_eq_false z
          exact ih (rm + 1) (b + 1) n _ Rd' (by omega) (by omega) (by omega) hs2.symm (pW_16 e2) hl2 hh
end GWM
