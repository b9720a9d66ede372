section MG95zgx0
/-! the reference's readsGift -/
section GMM
variable {n fr lo sl t cc gc a rm : Nat} {h : pm_H} {tp : Nat → Int32} {R : pm_Rs}
def pG (h : pm_H) (tp : Nat → Int32) (t cc gc a rm : Nat) : Prop := pR h tp t cc a rm ∧ mF h 4 (.int (nI gc))
theorem pG_16 {b : Nat} (p : pG h tp t cc gc a rm) : pG (mset h 16 (.int (nI b))) tp t cc gc b rm := ⟨pR_16 p.1, mF_ne (by decide) p.2⟩
theorem pG_20 {b : Nat} (p : pG h tp t cc gc a rm) : pG (mset h 20 (.int (nI b))) tp t cc gc a b := ⟨pR_20 p.1, mF_ne (by decide) p.2⟩
theorem pG_rd {e : Nat → Int32} (p : pG h tp t cc gc a rm) : pG (aset h 173 36 e) tp t cc gc a rm := ⟨pR_rd p.1, aset_mF (by decide) p.2⟩
/-- the last digit of a LINE: a court that is there -/
def rgE (tp : Nat → Int32) (t cc a : Nat) : Bool × Nat := cond (dg tp a t) (cond (dgi tp (a + 1) t (Int32.ofInt 0) (nI cc - Int32.ofInt 1)) (true, a + 2) (false, a + 1)) (false, a)
def rgC (tp : Nat → Int32) (t cc a : Nat) : Bool × Nat := cond (decide (a < t ∧ tp a = 44)) (rgE tp t cc (a + 1)) (false, a)
/-- a LINE of GIFTS: does it stand, where it ends -/
def rgW (tp : Nat → Int32) (t cc : Nat) (w : Nat × Int32) : Bool × Nat := cond (decide (w.2 = 0)) (false, w.1 - 1) (rgC tp t cc w.1)
def rgL (tp : Nat → Int32) (t cc a : Nat) : Bool × Nat := cond (dgi tp a t (Int32.ofInt 0) (Int32.ofInt 4)) (cond (dg tp (a + 1) t) (rgW tp t cc (nbr tp t 2 (a + 1) 0)) (false, a + 1)) (false, a)
theorem rg_0 (p : pG h tp t cc gc a rm) {k1 : Int32} (hh : pm_run PT n fr lo 191 (44, [some (.ref 162), some (.int k1)], [], h, 198, sl) = some R) : R.1 = some (.int 0) ∧ pG R.2.1 tp t cc gc a rm ∧ R.2.2 = (198, sl) := by
  obtain ⟨n, hh⟩ := rn_i rfl rfl rfl rfl hh
  have e := (rn_ret rfl (Or.inr rfl) hh).2
  subst e
  exact ⟨rfl, p, rfl⟩
theorem rg_102 (p : pG h tp t cc gc a rm) {k1 : Int32} (hh : pm_run PT n fr lo 191 (102, [some (.ref 162), some (.int k1)], [], h, 198, sl) = some R) : R.1 = some (.int 0) ∧ pG R.2.1 tp t cc gc a rm ∧ R.2.2 = (198, sl) := by
  obtain ⟨n, hh⟩ := rn_i rfl rfl rfl rfl hh
  have e := (rn_ret rfl (Or.inr rfl) hh).2
  subst e
  exact ⟨rfl, p, rfl⟩
/-- from 151 on: the LINE is counted; does its court stand -/
theorem rg_151 {v : Int32} {b : Bool} (hb : pm_cmp .lt v 0 = !b) (hrm : rm < 8) (p : pG h tp t cc gc a rm) {e : Nat → Int32} (hA : h 173 = .inl (0, 36, .inl e)) (ev : e (4 * rm + 3) = v) (hh : pm_run PT n fr lo 191 (151, [some (.ref 162), some (.int (nI (4 * rm)))], [], h, 198, sl) = some R) : R.1 = some (.int (cond b 1 0)) ∧ pG R.2.1 tp t cc gc a (rm + 1) ∧ R.2.2 = (198, sl) := by
  obtain ⟨n, hh⟩ := rn_i rfl rfl rfl rfl hh
  obtain ⟨n, hh⟩ := rn_i rfl rfl rfl rfl hh
  obtain ⟨n, hh⟩ := rn_gfm rfl rfl p.1.2.1 hh
  obtain ⟨n, hh⟩ := rn_i rfl rfl rfl rfl hh
  obtain ⟨n, hh⟩ := rn_i rfl rfl rfl rfl hh
  obtain ⟨n, hh⟩ := rn_pfm (w := .int (nI rm)) rfl rfl rfl (by decide) p.1.2.1 hh
  have e1 : nI rm + Int32.ofInt 1 = nI (rm + 1) := (Int32.ofNat_add rm 1).symm
  have hh : pm_run PT n fr lo 191 (161, [some (.ref 162), some (.int (nI (4 * rm)))], [], mset h 20 (.int (nI rm + Int32.ofInt 1)), 198, sl) = some R := hh
  rw [e1] at hh
  have p' := pG_20 (b := rm + 1) p
  obtain ⟨n, hh⟩ := rn_i rfl rfl rfl rfl hh
  obtain ⟨n, hh⟩ := rn_gfm rfl rfl p'.1.2.2.2.1 hh
  obtain ⟨n, hh⟩ := rn_i rfl rfl rfl rfl hh
  obtain ⟨n, hh⟩ := rn_i rfl rfl rfl rfl hh
  obtain ⟨n, hh⟩ := rn_i rfl rfl rfl rfl hh
  have e3 : nI (4 * rm) + Int32.ofInt 3 = nI (4 * rm + 3) := (Int32.ofNat_add (4 * rm) 3).symm
  have hh : pm_run PT n fr lo 191 (168, [some (.ref 162), some (.int (nI (4 * rm)))], [.int (nI (4 * rm) + Int32.ofInt 3), .ref 173], mset h 20 (.int (nI (rm + 1))), 198, sl) = some R := hh
  rw [e3] at hh
  obtain ⟨n, hh⟩ := rn_iam rfl (mset_arr (by decide) hA) (hI_in (by omega) (by decide)) (by decide) hh
  rw [nI_clamp (by omega), ev] at hh
  obtain ⟨n, hh⟩ := rn_if (cc := .lt) (off := 7) (t := 176) rfl rfl hh
  rw [hb] at hh
  cases b with
  | true =>
    obtain ⟨n, hh⟩ := rn_i rfl rfl rfl rfl hh
    obtain ⟨n, hh⟩ := rn_i rfl rfl rfl rfl hh
    have e := (rn_ret rfl (Or.inr rfl) hh).2
    subst e
    exact ⟨rfl, p', rfl⟩
  | false =>
    obtain ⟨n, hh⟩ := rn_i rfl rfl rfl rfl hh
    have e := (rn_ret rfl (Or.inr rfl) hh).2
    subst e
    exact ⟨rfl, p', rfl⟩
theorem dgi_g0 {u : Int32} (q : dgi tp a t (Int32.ofInt 0) u = true) : a < t ∧ 0 ≤ (tp a - 48).toInt := by
  unfold dgi in_b at q
  rw [Bool.and_eq_true, Bool.and_eq_true] at q
  refine ⟨of_decide_eq_true q.1, ?_⟩
  have e1 : ¬ (tp a - 48).toInt64 < (Int32.ofInt 0).toInt64 := by simpa using q.2.1
  rw [Int64.lt_iff_toInt_lt, Int32.toInt_toInt64, Int32.toInt_toInt64, show (Int32.ofInt 0).toInt = 0 by decide] at e1
  omega
theorem ge0_val {x : Int32} (q : 0 ≤ x.toInt) : pm_cmp .ge x 0 = true := by
  simp only [pm_cmp]
  rw [decide_eq_true_iff, Int32.le_iff_toInt_le, show (0 : Int32).toInt = 0 by decide]
  exact q
theorem rg_150 {v : Int32} {b : Bool} (hb : pm_cmp .lt v 0 = !b) (hrm : rm < 8) (p : pG h tp t cc gc a rm) (hh : pm_run PT n fr lo 191 (150, [some (.ref 162), some (.int (nI (4 * rm)))], [.int v, .int (nI (4 * rm + 3)), .ref 173], h, 198, sl) = some R) : R.1 = some (.int (cond b 1 0)) ∧ pG R.2.1 tp t cc gc a (rm + 1) ∧ R.2.2 = (198, sl) := by
  obtain ⟨e, hA⟩ := p.1.2.2.2.2
  obtain ⟨n, hh⟩ := rn_ism rfl hA (hI_in (by omega) (by decide)) (by decide) hh
  rw [nI_clamp (by omega)] at hh
  exact rg_151 hb hrm (pG_rd p) asR_self (by simp [upd]) hh
/-- from 104 on: what it eats, and its court -/
theorem rg_104 (ht : t ≤ 80) (ha : a < 98) (hrm : rm < 8) (p : pG h tp t cc gc a rm) (hh : pm_run PT n fr lo 191 (104, [some (.ref 162), some (.int (nI (4 * rm)))], [], h, 198, sl) = some R) : R.1 = some (.int (cond (rgE tp t cc a).1 1 0)) ∧ pG R.2.1 tp t cc gc (rgE tp t cc a).2 (rm + 1) ∧ R.2.2 = (198, sl) := by
  obtain ⟨⟨⟨q1, q2, q3, q4⟩, q5, q6, q7, f, q8⟩, q9⟩ := id p
  obtain ⟨n, hh⟩ := rn_i rfl rfl rfl rfl hh
  obtain ⟨n, hh⟩ := rn_gfm rfl rfl q7 hh
  obtain ⟨n, hh⟩ := rn_i rfl rfl rfl rfl hh
  obtain ⟨n, hh⟩ := rn_i rfl rfl rfl rfl hh
  obtain ⟨n, hh⟩ := rn_i rfl rfl rfl rfl hh
  obtain ⟨n, hh⟩ := rn_i rfl rfl rfl rfl hh
  obtain ⟨n, hh⟩ := rn_i rfl rfl rfl rfl hh
  obtain ⟨n, fr', lo', r1, hr1, hh⟩ := rn_call (w := 0) (t := 184) rfl rfl hh
  have er := rn_dt (F := 10) (Lo := 1000) (hd_number (fr := 10) (lo := 1000) (sl := sl) q1 q2 q3 q4 ht (by omega) (by decide) (by decide) (d := 1) (by decide)) hr1
  have e2 : nI (4 * rm) + Int32.ofInt 2 = nI (4 * rm + 2) := (Int32.ofNat_add (4 * rm) 2).symm
  have e3 : nI (4 * rm) + Int32.ofInt 3 = nI (4 * rm + 3) := (Int32.ofNat_add (4 * rm) 3).symm
  have hin : pm_in (nI (4 * rm + 2)) 36 = true := hI_in (by omega) (by decide)
  unfold rgE
  cases hd : dg tp a t with
  | false =>
    rw [hd] at er
    dsimp only [cond] at er
    subst er
    have hh : pm_run PT n fr lo 191 (116, [some (.ref 162), some (.int (nI (4 * rm)))], [.int (-1), .int (nI (4 * rm) + Int32.ofInt 2), .ref 173], h, 198, sl) = some R := hh
    rw [e2] at hh
    obtain ⟨n, hh⟩ := rn_ism rfl q8 hin (by decide) hh
    have p' := pG_rd (e := upd f (nI (4 * rm + 2)).toNatClampNeg (-1)) p
    obtain ⟨n, hh⟩ := rn_i rfl rfl rfl rfl hh
    obtain ⟨n, hh⟩ := rn_gfm rfl rfl p'.1.2.2.2.1 hh
    obtain ⟨n, hh⟩ := rn_i rfl rfl rfl rfl hh
    obtain ⟨n, hh⟩ := rn_i rfl rfl rfl rfl hh
    obtain ⟨n, hh⟩ := rn_i rfl rfl rfl rfl hh
    obtain ⟨n, hh⟩ := rn_i rfl rfl rfl rfl hh
    obtain ⟨n, hh⟩ := rn_gfm rfl rfl p'.1.2.2.2.1 hh
    obtain ⟨n, hh⟩ := rn_i rfl rfl rfl rfl hh
    obtain ⟨n, hh⟩ := rn_i rfl rfl rfl rfl hh
    obtain ⟨n, hh⟩ := rn_i rfl rfl rfl rfl hh
    have hh : pm_run PT n fr lo 191 (131, [some (.ref 162), some (.int (nI (4 * rm)))], [.int (nI (4 * rm) + Int32.ofInt 2), .ref 173, .int (nI (4 * rm) + Int32.ofInt 3), .ref 173], _, 198, sl) = some R := hh
    rw [e2, e3] at hh
    obtain ⟨n, hh⟩ := rn_iam rfl asR_self hin (by decide) hh
    have eu : upd f (nI (4 * rm + 2)).toNatClampNeg (-1) (nI (4 * rm + 2)).toNatClampNeg = (-1 : Int32) := by simp [upd]
    rw [eu] at hh
    obtain ⟨n, hh⟩ := rn_if (cc := .ge) (off := 7) (t := 139) rfl rfl hh
    rw [show pm_cmp .ge (-1 : Int32) 0 = false by decide] at hh
    obtain ⟨n, hh⟩ := rn_i rfl rfl rfl rfl hh
    obtain ⟨n, hh⟩ := rn_i rfl rfl rfl rfl hh
    exact rg_150 (v := Int32.ofInt (-1)) (b := false) (by decide) hrm p' hh
  | true =>
    rw [hd] at er
    dsimp only [cond] at er
    subst er
    have en : nbr tp t 1 a 0 = (a + 1, 10 * 0 + tp a - 48) := by
      show nbr tp t (0 + 1) a 0 = _
      rw [nbr_gt t hd]
      rfl
    have ev : (10 * 0 + tp a - 48 : Int32) = tp a - 48 := by simp
    rw [en, ev] at hh
    obtain ⟨v1, v2⟩ := dg_val hd
    have hat := dg_lt hd
    have p0 : pG (mset h 16 (.int (nI (a + 1)))) tp t cc gc (a + 1) rm := pG_16 p
    have hh : pm_run PT n fr lo 191 (116, [some (.ref 162), some (.int (nI (4 * rm)))], [.int (tp a - 48), .int (nI (4 * rm) + Int32.ofInt 2), .ref 173], mset h 16 (.int (nI (a + 1))), 198, sl) = some R := hh
    rw [e2] at hh
    obtain ⟨f0, q80⟩ := p0.1.2.2.2.2
    obtain ⟨n, hh⟩ := rn_ism rfl q80 hin (by decide) hh
    have p' := pG_rd (e := upd f0 (nI (4 * rm + 2)).toNatClampNeg (tp a - 48)) p0
    obtain ⟨n, hh⟩ := rn_i rfl rfl rfl rfl hh
    obtain ⟨n, hh⟩ := rn_gfm rfl rfl p'.1.2.2.2.1 hh
    obtain ⟨n, hh⟩ := rn_i rfl rfl rfl rfl hh
    obtain ⟨n, hh⟩ := rn_i rfl rfl rfl rfl hh
    obtain ⟨n, hh⟩ := rn_i rfl rfl rfl rfl hh
    obtain ⟨n, hh⟩ := rn_i rfl rfl rfl rfl hh
    obtain ⟨n, hh⟩ := rn_gfm rfl rfl p'.1.2.2.2.1 hh
    obtain ⟨n, hh⟩ := rn_i rfl rfl rfl rfl hh
    obtain ⟨n, hh⟩ := rn_i rfl rfl rfl rfl hh
    obtain ⟨n, hh⟩ := rn_i rfl rfl rfl rfl hh
    have hh : pm_run PT n fr lo 191 (131, [some (.ref 162), some (.int (nI (4 * rm)))], [.int (nI (4 * rm) + Int32.ofInt 2), .ref 173, .int (nI (4 * rm) + Int32.ofInt 3), .ref 173], _, 198, sl) = some R := hh
    rw [e2, e3] at hh
    obtain ⟨n, hh⟩ := rn_iam rfl asR_self hin (by decide) hh
    have eu : upd f0 (nI (4 * rm + 2)).toNatClampNeg (tp a - 48) (nI (4 * rm + 2)).toNatClampNeg = tp a - 48 := by simp [upd]
    rw [eu] at hh
    obtain ⟨n, hh⟩ := rn_if (cc := .ge) (off := 7) (t := 139) rfl rfl hh
    rw [ge0_val v1] at hh
    obtain ⟨⟨⟨u1, u2, u3, u4⟩, u5, u6, -⟩, -⟩ := id p'
    have hh : pm_run PT n fr lo 191 (139, [some (.ref 162), some (.int (nI (4 * rm)))], [.int (nI (4 * rm + 3)), .ref 173], aset (mset h 16 (.int (nI (a + 1)))) 173 36 (upd f0 (nI (4 * rm + 2)).toNatClampNeg (tp a - 48)), 198, sl) = some R := hh
    generalize aset (mset h 16 (.int (nI (a + 1)))) 173 36 (upd f0 (nI (4 * rm + 2)).toNatClampNeg (tp a - 48)) = hq at *
    obtain ⟨n, hh⟩ := rn_i rfl rfl rfl rfl hh
    obtain ⟨n, hh⟩ := rn_i rfl rfl rfl rfl hh
    obtain ⟨n, hh⟩ := rn_i rfl rfl rfl rfl hh
    obtain ⟨n, hh⟩ := rn_gfm rfl rfl u6 hh
    obtain ⟨n, hh⟩ := rn_i rfl rfl rfl rfl hh
    obtain ⟨n, hh⟩ := rn_i rfl rfl rfl rfl hh
    obtain ⟨n, fr', lo', r1, hr1, hh⟩ := rn_call (w := 0) (t := 185) rfl rfl hh
    have er := rn_dt (F := 10) (Lo := 1000) (hd_digitIn (fr := 10) (lo := 1000) (sl := sl) u1 u2 u3 u4 ht (by omega) (by decide) (by decide) (Int32.ofInt 0) (nI cc - Int32.ofInt 1)) hr1
    dsimp only [cond]
    cases hi : dgi tp (a + 1) t (Int32.ofInt 0) (nI cc - Int32.ofInt 1) with
    | false =>
      rw [hi] at er
      dsimp only [cond] at er
      subst er
      exact rg_150 (v := -1) (b := false) (by decide) hrm p' hh
    | true =>
      rw [hi] at er
      dsimp only [cond] at er
      subst er
      obtain ⟨w0, w1⟩ := dgi_g0 hi
      exact rg_150 (v := tp (a + 1) - 48) (b := true) (lt0_val w1) hrm (pG_16 p') hh
theorem rg_82 {w : Int32} (ht : t ≤ 80) (ha : a < 97) (hrm : rm < 8) (p : pG h tp t cc gc a rm) {e : Nat → Int32} (hA : h 173 = .inl (0, 36, .inl e)) (ev : e (4 * rm + 1) = w) (hw : 0 ≤ w.toInt) (hh : pm_run PT n fr lo 191 (82, [some (.ref 162), some (.int (nI (4 * rm)))], [], h, 198, sl) = some R) : R.1 = some (.int (cond (rgC tp t cc a).1 1 0)) ∧ (∃ rm', pG R.2.1 tp t cc gc (rgC tp t cc a).2 rm' ∧ ((rgC tp t cc a).1 = true → rm' = rm + 1)) ∧ R.2.2 = (198, sl) := by
  obtain ⟨⟨⟨q1, q2, q3, q4⟩, q5, q6, q7, f, q8⟩, q9⟩ := id p
  obtain ⟨n, hh⟩ := rn_i rfl rfl rfl rfl hh
  obtain ⟨n, hh⟩ := rn_gfm rfl rfl q7 hh
  obtain ⟨n, hh⟩ := rn_i rfl rfl rfl rfl hh
  obtain ⟨n, hh⟩ := rn_i rfl rfl rfl rfl hh
  obtain ⟨n, hh⟩ := rn_i rfl rfl rfl rfl hh
  have e1 : nI (4 * rm) + Int32.ofInt 1 = nI (4 * rm + 1) := (Int32.ofNat_add (4 * rm) 1).symm
  have hh : pm_run PT n fr lo 191 (89, [some (.ref 162), some (.int (nI (4 * rm)))], [.int (nI (4 * rm) + Int32.ofInt 1), .ref 173], h, 198, sl) = some R := hh
  rw [e1] at hh
  obtain ⟨n, hh⟩ := rn_iam rfl hA (hI_in (by omega) (by decide)) (by decide) hh
  rw [nI_clamp (by omega), ev] at hh
  obtain ⟨n, hh⟩ := rn_if (cc := .lt) (off := 12) (t := 102) rfl rfl hh
  rw [lt0_val hw] at hh
  obtain ⟨n, hh⟩ := rn_i rfl rfl rfl rfl hh
  obtain ⟨n, hh⟩ := rn_i rfl rfl rfl rfl hh
  obtain ⟨n, fr', lo', r1, hr1, hh⟩ := rn_call (w := 0) (t := 181) rfl rfl hh
  have er := rn_dt (F := 10) (Lo := 1000) (hd_takes (fr := 10) (lo := 1000) (sl := sl) q1 q2 q3 q4 ht (by omega) (by decide) (by decide) 44) hr1
  unfold rgC
  cases x : decide (a < t ∧ tp a = 44) with
  | false =>
    rw [x] at er
    dsimp only [cond] at er
    subst er
    have hh : pm_run PT n fr lo 191 (99, [some (.ref 162), some (.int (nI (4 * rm)))], [.int 0], mset h 16 (.int (nI (a + 0))), 198, sl) = some R := hh
    obtain ⟨n, hh⟩ := rn_if (cc := .ne) (off := 5) (t := 104) rfl rfl hh
    have hh : pm_run PT n fr lo 191 (102, [some (.ref 162), some (.int (nI (4 * rm)))], [], mset h 16 (.int (nI (a + 0))), 198, sl) = some R := hh
    obtain ⟨r1, r2, r3⟩ := rg_102 (pG_16 p) hh
    exact ⟨r1, ⟨rm, r2, fun q => by cases q⟩, r3⟩
  | true =>
    rw [x] at er
    dsimp only [cond] at er
    subst er
    have xx := of_decide_eq_true x
    have hh : pm_run PT n fr lo 191 (99, [some (.ref 162), some (.int (nI (4 * rm)))], [.int 1], mset h 16 (.int (nI (a + 1))), 198, sl) = some R := hh
    obtain ⟨n, hh⟩ := rn_if (cc := .ne) (off := 5) (t := 104) rfl rfl hh
    have hh : pm_run PT n fr lo 191 (104, [some (.ref 162), some (.int (nI (4 * rm)))], [], mset h 16 (.int (nI (a + 1))), 198, sl) = some R := hh
    obtain ⟨r1, r2, r3⟩ := rg_104 ht (by omega) hrm (pG_16 p) hh
    exact ⟨r1, ⟨rm + 1, r2, fun _ => rfl⟩, r3⟩
theorem rg_46 (ht : t ≤ 80) (ha : a < 90) (hrm : rm < 8) (p : pG h tp t cc gc a rm) (hh : pm_run PT n fr lo 191 (46, [some (.ref 162), some (.int (nI (4 * rm)))], [], h, 198, sl) = some R) : R.1 = some (.int (cond (cond (dg tp a t) (rgW tp t cc (nbr tp t 2 a 0)) (false, a)).1 1 0)) ∧ (∃ rm', pG R.2.1 tp t cc gc (cond (dg tp a t) (rgW tp t cc (nbr tp t 2 a 0)) (false, a)).2 rm' ∧ ((cond (dg tp a t) (rgW tp t cc (nbr tp t 2 a 0)) (false, a)).1 = true → rm' = rm + 1)) ∧ R.2.2 = (198, sl) := by
  obtain ⟨⟨⟨q1, q2, q3, q4⟩, q5, q6, q7, f, q8⟩, q9⟩ := id p
  obtain ⟨n, hh⟩ := rn_i rfl rfl rfl rfl hh
  obtain ⟨n, hh⟩ := rn_gfm rfl rfl q7 hh
  obtain ⟨n, hh⟩ := rn_i rfl rfl rfl rfl hh
  obtain ⟨n, hh⟩ := rn_i rfl rfl rfl rfl hh
  obtain ⟨n, hh⟩ := rn_i rfl rfl rfl rfl hh
  obtain ⟨n, hh⟩ := rn_i rfl rfl rfl rfl hh
  obtain ⟨n, hh⟩ := rn_i rfl rfl rfl rfl hh
  obtain ⟨n, fr', lo', r1, hr1, hh⟩ := rn_call (w := 0) (t := 184) rfl rfl hh
  have er := rn_dt (F := 10) (Lo := 1000) (hd_number (fr := 10) (lo := 1000) (sl := sl) q1 q2 q3 q4 ht (by omega) (by decide) (by decide) (d := 2) (by decide)) hr1
  have e1 : nI (4 * rm) + Int32.ofInt 1 = nI (4 * rm + 1) := (Int32.ofNat_add (4 * rm) 1).symm
  have hin : pm_in (nI (4 * rm + 1)) 36 = true := hI_in (by omega) (by decide)
  cases hd : dg tp a t with
  | false =>
    rw [hd] at er
    dsimp only [cond] at er
    subst er
    have hh : pm_run PT n fr lo 191 (58, [some (.ref 162), some (.int (nI (4 * rm)))], [.int (-1), .int (nI (4 * rm) + Int32.ofInt 1), .ref 173], h, 198, sl) = some R := hh
    rw [e1] at hh
    obtain ⟨n, hh⟩ := rn_ism rfl q8 hin (by decide) hh
    have p' := pG_rd (e := upd f (nI (4 * rm + 1)).toNatClampNeg (-1)) p
    have eu : upd f (nI (4 * rm + 1)).toNatClampNeg (-1) (nI (4 * rm + 1)).toNatClampNeg = (-1 : Int32) := by simp [upd]
    obtain ⟨n, hh⟩ := rn_i rfl rfl rfl rfl hh
    obtain ⟨n, hh⟩ := rn_gfm rfl rfl p'.1.2.2.2.1 hh
    obtain ⟨n, hh⟩ := rn_i rfl rfl rfl rfl hh
    obtain ⟨n, hh⟩ := rn_i rfl rfl rfl rfl hh
    obtain ⟨n, hh⟩ := rn_i rfl rfl rfl rfl hh
    have hh : pm_run PT n fr lo 191 (66, [some (.ref 162), some (.int (nI (4 * rm)))], [.int (nI (4 * rm) + Int32.ofInt 1), .ref 173], _, 198, sl) = some R := hh
    rw [e1] at hh
    obtain ⟨n, hh⟩ := rn_iam rfl asR_self hin (by decide) hh
    rw [eu] at hh
    obtain ⟨n, hh⟩ := rn_if (cc := .ne) (off := 15) (t := 82) rfl rfl hh
    rw [show pm_cmp .ne (-1 : Int32) 0 = true by decide] at hh
    have hh : pm_run PT n fr lo 191 (82, [some (.ref 162), some (.int (nI (4 * rm)))], [], aset h 173 36 (upd f (nI (4 * rm + 1)).toNatClampNeg (-1)), 198, sl) = some R := hh
    obtain ⟨n, hh⟩ := rn_i rfl rfl rfl rfl hh
    obtain ⟨n, hh⟩ := rn_gfm rfl rfl p'.1.2.2.2.1 hh
    obtain ⟨n, hh⟩ := rn_i rfl rfl rfl rfl hh
    obtain ⟨n, hh⟩ := rn_i rfl rfl rfl rfl hh
    obtain ⟨n, hh⟩ := rn_i rfl rfl rfl rfl hh
    have hh : pm_run PT n fr lo 191 (89, [some (.ref 162), some (.int (nI (4 * rm)))], [.int (nI (4 * rm) + Int32.ofInt 1), .ref 173], aset h 173 36 (upd f (nI (4 * rm + 1)).toNatClampNeg (-1)), 198, sl) = some R := hh
    rw [e1] at hh
    obtain ⟨n, hh⟩ := rn_iam rfl asR_self hin (by decide) hh
    rw [eu] at hh
    obtain ⟨n, hh⟩ := rn_if (cc := .lt) (off := 12) (t := 102) rfl rfl hh
    rw [lt0_m1] at hh
    obtain ⟨r1, r2, r3⟩ := rg_102 p' hh
    exact ⟨r1, ⟨rm, r2, fun q => by cases q⟩, r3⟩
  | true =>
    rw [hd] at er
    dsimp only [cond] at er
    subst er
    obtain ⟨b1, b2, b3, b4, -⟩ := nbr_bd (tp := tp) t 2 a 0 0 (by decide) (by decide) (by decide) (by decide)
    have b0 : a + 1 ≤ (nbr tp t 2 a 0).1 := by
      rw [show nbr tp t 2 a 0 = nbr tp t (1 + 1) a 0 from rfl, nbr_gt t hd]
      have hv := dg_val hd
      have ez : (10 * 0 + tp a - 48 : Int32) = tp a - 48 := by simp
      rw [ez]
      exact (nbr_bd (tp := tp) t 1 (a + 1) (tp a - 48) 9 hv.1 hv.2 (by decide) (by decide)).1
    have p0 : pG (mset h 16 (.int (nI (nbr tp t 2 a 0).1))) tp t cc gc (nbr tp t 2 a 0).1 rm := pG_16 p
    have hh : pm_run PT n fr lo 191 (58, [some (.ref 162), some (.int (nI (4 * rm)))], [.int (nbr tp t 2 a 0).2, .int (nI (4 * rm) + Int32.ofInt 1), .ref 173], mset h 16 (.int (nI (nbr tp t 2 a 0).1)), 198, sl) = some R := hh
    rw [e1] at hh
    show R.1 = some (.int (cond (rgW tp t cc (nbr tp t 2 a 0)).1 1 0)) ∧ (∃ rm', pG R.2.1 tp t cc gc (rgW tp t cc (nbr tp t 2 a 0)).2 rm' ∧ ((rgW tp t cc (nbr tp t 2 a 0)).1 = true → rm' = rm + 1)) ∧ R.2.2 = (198, sl)
    generalize nbr tp t 2 a 0 = w at *
    obtain ⟨f0, q80⟩ := p0.1.2.2.2.2
    obtain ⟨n, hh⟩ := rn_ism rfl q80 hin (by decide) hh
    have p' := pG_rd (e := upd f0 (nI (4 * rm + 1)).toNatClampNeg w.2) p0
    have eu : upd f0 (nI (4 * rm + 1)).toNatClampNeg w.2 (nI (4 * rm + 1)).toNatClampNeg = w.2 := by simp [upd]
    obtain ⟨n, hh⟩ := rn_i rfl rfl rfl rfl hh
    obtain ⟨n, hh⟩ := rn_gfm rfl rfl p'.1.2.2.2.1 hh
    obtain ⟨n, hh⟩ := rn_i rfl rfl rfl rfl hh
    obtain ⟨n, hh⟩ := rn_i rfl rfl rfl rfl hh
    obtain ⟨n, hh⟩ := rn_i rfl rfl rfl rfl hh
    have hh : pm_run PT n fr lo 191 (66, [some (.ref 162), some (.int (nI (4 * rm)))], [.int (nI (4 * rm) + Int32.ofInt 1), .ref 173], _, 198, sl) = some R := hh
    rw [e1] at hh
    obtain ⟨n, hh⟩ := rn_iam rfl asR_self hin (by decide) hh
    rw [eu] at hh
    obtain ⟨n, hh⟩ := rn_if (cc := .ne) (off := 15) (t := 82) rfl rfl hh
    unfold rgW
    by_cases z : w.2 = 0
    · rw [show pm_cmp .ne w.2 0 = false from decide_eq_false (fun q => q z)] at hh
      rw [decide_eq_true z]
      have hh : pm_run PT n fr lo 191 (70, [some (.ref 162), some (.int (nI (4 * rm)))], [], aset (mset h 16 (.int (nI w.1))) 173 36 (upd f0 (nI (4 * rm + 1)).toNatClampNeg w.2), 198, sl) = some R := hh
      generalize aset (mset h 16 (.int (nI w.1))) 173 36 (upd f0 (nI (4 * rm + 1)).toNatClampNeg w.2) = hq at *
      obtain ⟨n, hh⟩ := rn_i rfl rfl rfl rfl hh
      obtain ⟨n, hh⟩ := rn_i rfl rfl rfl rfl hh
      obtain ⟨n, hh⟩ := rn_gfm rfl rfl p'.1.1.1 hh
      obtain ⟨n, hh⟩ := rn_i rfl rfl rfl rfl hh
      obtain ⟨n, hh⟩ := rn_i rfl rfl rfl rfl hh
      obtain ⟨n, hh⟩ := rn_pfm (w := .int (nI w.1)) rfl rfl rfl (by decide) p'.1.1.1 hh
      have em : nI w.1 - Int32.ofInt 1 = nI (w.1 - 1) := by
        have e : nI w.1 = nI (w.1 - 1) + Int32.ofInt 1 := by
          rw [show nI (w.1 - 1) + Int32.ofInt 1 = nI (w.1 - 1 + 1) from (Int32.ofNat_add (w.1 - 1) 1).symm, Nat.sub_add_cancel (by omega)]
        rw [e]
        simp
      have hh : pm_run PT n fr lo 191 (80, [some (.ref 162), some (.int (nI (4 * rm)))], [], mset hq 16 (.int (nI w.1 - Int32.ofInt 1)), 198, sl) = some R := hh
      rw [em] at hh
      obtain ⟨n, hh⟩ := rn_i rfl rfl rfl rfl hh
      have e := (rn_ret rfl (Or.inr rfl) hh).2
      subst e
      exact ⟨rfl, ⟨rm, pG_16 p', fun q => by cases q⟩, rfl⟩
    · rw [show pm_cmp .ne w.2 0 = true from decide_eq_true z] at hh
      rw [decide_eq_false z]
      exact rg_82 (w := w.2) ht (by omega) hrm p' asR_self (by rw [nI_clamp (by omega)]; simp [upd]) b4 hh
end GMM
end MG95zgx0
section MG95zgx1
/-! the reference's gifts: all LINES -/
section GML
variable {n fr lo sl t cc gc a rm : Nat} {h : pm_H} {tp : Nat → Int32} {R : pm_Rs}
theorem rg_reads (ht : t ≤ 80) (ha : a < 89) (hgr : gc + rm ≤ 8) (p : pG h tp t cc gc a rm) (hh : pm_run PT n fr lo 191 (0, pm_l0 [.ref 162] 2, [], h, 198, sl) = some R) : R.1 = some (.int (cond (cond (decide (gc + rm = 8)) (false, a) (rgL tp t cc a)).1 1 0)) ∧ (∃ rm', pG R.2.1 tp t cc gc (cond (decide (gc + rm = 8)) (false, a) (rgL tp t cc a)).2 rm' ∧ ((cond (decide (gc + rm = 8)) (false, a) (rgL tp t cc a)).1 = true → rm' = rm + 1)) ∧ R.2.2 = (198, sl) := by
  obtain ⟨⟨⟨q1, q2, q3, q4⟩, q5, q6, q7, f, q8⟩, q9⟩ := id p
  obtain ⟨n, hh⟩ := rn_i rfl rfl rfl rfl hh
  obtain ⟨n, hh⟩ := rn_gfm rfl rfl q9 hh
  obtain ⟨n, hh⟩ := rn_i rfl rfl rfl rfl hh
  obtain ⟨n, hh⟩ := rn_gfm rfl rfl q5 hh
  obtain ⟨n, hh⟩ := rn_i rfl rfl rfl rfl hh
  obtain ⟨n, hh⟩ := rn_i rfl rfl rfl rfl hh
  obtain ⟨n, hh⟩ := rn_icmp (cc := .ne) (off := 5) (t := 16) rfl rfl hh
  have ec : pm_cmp .ne ((fun x y => x + y) (nI gc) (nI rm)) (Int8.ofInt 8).toInt32 = decide (¬ (gc + rm = 8)) := by
    show pm_cmp .ne (nI gc + nI rm) (nI 8) = _
    rw [nI_add]
    exact hI_ne (by omega) (by omega)
  rw [ec] at hh
  by_cases z : gc + rm = 8
  · rw [decide_eq_false (fun q => q z)] at hh
    rw [decide_eq_true z]
    obtain ⟨n, hh⟩ := rn_i rfl rfl rfl rfl hh
    have e := (rn_ret rfl (Or.inr rfl) hh).2
    subst e
    exact ⟨rfl, ⟨rm, p, fun q => by cases q⟩, rfl⟩
  · rw [decide_eq_true z] at hh
    rw [decide_eq_false z]
    have hh : pm_run PT n fr lo 191 (16, [some (.ref 162), none], [], h, 198, sl) = some R := hh
    obtain ⟨n, hh⟩ := rn_i rfl rfl rfl rfl hh
    obtain ⟨n, hh⟩ := rn_i rfl rfl rfl rfl hh
    obtain ⟨n, hh⟩ := rn_gfm rfl rfl q5 hh
    obtain ⟨n, hh⟩ := rn_i rfl rfl rfl rfl hh
    obtain ⟨n, hh⟩ := rn_i rfl rfl rfl rfl hh
    have e6 : Int32.ofInt 4 * nI rm = nI (4 * rm) := hI_mul 4 rm
    have hh : pm_run PT n fr lo 191 (23, [some (.ref 162), some (.int (Int32.ofInt 4 * nI rm))], [], h, 198, sl) = some R := hh
    rw [e6] at hh
    obtain ⟨n, hh⟩ := rn_i rfl rfl rfl rfl hh
    obtain ⟨n, hh⟩ := rn_gfm rfl rfl q7 hh
    obtain ⟨n, hh⟩ := rn_i rfl rfl rfl rfl hh
    obtain ⟨n, hh⟩ := rn_i rfl rfl rfl rfl hh
    obtain ⟨n, hh⟩ := rn_i rfl rfl rfl rfl hh
    obtain ⟨n, hh⟩ := rn_i rfl rfl rfl rfl hh
    obtain ⟨n, fr', lo', r1, hr1, hh⟩ := rn_call (w := 0) (t := 185) rfl rfl hh
    have er := rn_dt (F := 10) (Lo := 1000) (hd_digitIn (fr := 10) (lo := 1000) (sl := sl) q1 q2 q3 q4 ht (by omega) (by decide) (by decide) (Int32.ofInt 0) (Int32.ofInt 4)) hr1
    have hin : pm_in (nI (4 * rm)) 36 = true := hI_in (by omega) (by decide)
    dsimp only [cond]
    unfold rgL
    cases hd : dgi tp a t (Int32.ofInt 0) (Int32.ofInt 4) with
    | false =>
      rw [hd] at er
      dsimp only [cond] at er
      subst er
      have hh : pm_run PT n fr lo 191 (34, [some (.ref 162), some (.int (nI (4 * rm)))], [.int (-1), .int (nI (4 * rm)), .ref 173], h, 198, sl) = some R := hh
      obtain ⟨n, hh⟩ := rn_ism rfl q8 hin (by decide) hh
      have p' := pG_rd (e := upd f (nI (4 * rm)).toNatClampNeg (-1)) p
      obtain ⟨n, hh⟩ := rn_i rfl rfl rfl rfl hh
      obtain ⟨n, hh⟩ := rn_gfm rfl rfl p'.1.2.2.2.1 hh
      obtain ⟨n, hh⟩ := rn_i rfl rfl rfl rfl hh
      obtain ⟨n, hh⟩ := rn_iam rfl asR_self hin (by decide) hh
      have eu : upd f (nI (4 * rm)).toNatClampNeg (-1) (nI (4 * rm)).toNatClampNeg = (-1 : Int32) := by simp [upd]
      rw [eu] at hh
      obtain ⟨n, hh⟩ := rn_if (cc := .ge) (off := 5) (t := 46) rfl rfl hh
      rw [show pm_cmp .ge (-1 : Int32) 0 = false by decide] at hh
      obtain ⟨r1, r2, r3⟩ := rg_0 p' hh
      exact ⟨r1, ⟨rm, r2, fun q => by cases q⟩, r3⟩
    | true =>
      rw [hd] at er
      dsimp only [cond] at er
      subst er
      obtain ⟨v0, v1⟩ := dgi_g0 hd
      have p0 : pG (mset h 16 (.int (nI (a + 1)))) tp t cc gc (a + 1) rm := pG_16 p
      have hh : pm_run PT n fr lo 191 (34, [some (.ref 162), some (.int (nI (4 * rm)))], [.int (tp a - 48), .int (nI (4 * rm)), .ref 173], mset h 16 (.int (nI (a + 1))), 198, sl) = some R := hh
      obtain ⟨f0, q80⟩ := p0.1.2.2.2.2
      obtain ⟨n, hh⟩ := rn_ism rfl q80 hin (by decide) hh
      have p' := pG_rd (e := upd f0 (nI (4 * rm)).toNatClampNeg (tp a - 48)) p0
      obtain ⟨n, hh⟩ := rn_i rfl rfl rfl rfl hh
      obtain ⟨n, hh⟩ := rn_gfm rfl rfl p'.1.2.2.2.1 hh
      obtain ⟨n, hh⟩ := rn_i rfl rfl rfl rfl hh
      obtain ⟨n, hh⟩ := rn_iam rfl asR_self hin (by decide) hh
      have eu : upd f0 (nI (4 * rm)).toNatClampNeg (tp a - 48) (nI (4 * rm)).toNatClampNeg = tp a - 48 := by simp [upd]
      rw [eu] at hh
      obtain ⟨n, hh⟩ := rn_if (cc := .ge) (off := 5) (t := 46) rfl rfl hh
      rw [ge0_val v1] at hh
      exact rg_46 ht (by omega) (by omega) p' hh
theorem rgL_le (ha : a ≤ t) : (rgL tp t cc a).2 ≤ t := by
  unfold rgL
  cases hd : dgi tp a t (Int32.ofInt 0) (Int32.ofInt 4) with
  | false => exact ha
  | true =>
    have h1 := (dgi_g0 hd).1
    dsimp only [cond]
    cases hb : dg tp (a + 1) t with
    | false => exact h1
    | true =>
      have h2 := dg_lt hb
      obtain ⟨b1, b2, b3, -⟩ := nbr_bd (tp := tp) t 2 (a + 1) 0 0 (by decide) (by decide) (by decide) (by decide)
      have b3 := b3 (by omega)
      dsimp only
      generalize nbr tp t 2 (a + 1) 0 = w at *
      unfold rgW
      by_cases z : w.2 = 0
      · rw [decide_eq_true z]
        show w.1 - 1 ≤ t
        omega
      · rw [decide_eq_false z]
        show (rgC tp t cc w.1).2 ≤ t
        unfold rgC
        cases x : decide (w.1 < t ∧ tp w.1 = 44) with
        | false => exact b3
        | true =>
          have xx := of_decide_eq_true x
          show (rgE tp t cc (w.1 + 1)).2 ≤ t
          unfold rgE
          cases y : dg tp (w.1 + 1) t with
          | false => exact (by show w.1 + 1 ≤ t; omega)
          | true =>
            have yy := dg_lt y
            cases u : dgi tp (w.1 + 1 + 1) t (Int32.ofInt 0) (nI cc - Int32.ofInt 1) with
            | false => exact (by show w.1 + 1 + 1 ≤ t; omega)
            | true =>
              have := (dgi_g0 u).1
              exact (by show w.1 + 1 + 2 ≤ t; omega)
/-- all LINES of GIFTS -/
def sgL (tp : Nat → Int32) (t cc gc : Nat) : Nat → Nat → Nat → Bool × Nat × Nat
  | 0, rm, a => (false, a, rm)
  | k + 1, rm, a => cond (decide (gc + rm = 8)) (false, a, rm) (cond (rgL tp t cc a).1 (cond (decide ((rgL tp t cc a).2 < t ∧ tp (rgL tp t cc a).2 = 59)) (sgL tp t cc gc k (rm + 1) ((rgL tp t cc a).2 + 1)) (true, (rgL tp t cc a).2, rm + 1)) (false, (rgL tp t cc a).2, rm))
theorem gm_loop (ht : t ≤ 80) {n0 : Int32} : ∀ (k rm a n : Nat) (h : pm_H), gc + rm + k = 9 → 0 < k → a ≤ t → pG h tp t cc gc a rm → pm_run PT n fr lo 192 (29, [some (.ref 162), some (.int n0), some (.int 1), some (.int 1), none, none], [], h, 198, sl) = some R → ∃ m h' rm', pm_run PT m fr lo 192 (60, [some (.ref 162), some (.int n0), some (.int (cond (sgL tp t cc gc k rm a).1 1 0)), some (.int 0), none, none], [], h', 198, sl) = some R ∧ pG h' tp t cc gc (sgL tp t cc gc k rm a).2.1 rm' ∧ ((sgL tp t cc gc k rm a).1 = true → rm' = (sgL tp t cc gc k rm a).2.2) := by
  have out : ∀ (n : Nat) (b : Int32) (h : pm_H), pm_run PT n fr lo 192 (29, [some (.ref 162), some (.int n0), some (.int b), some (.int 0), none, none], [], h, 198, sl) = some R → ∃ m, pm_run PT m fr lo 192 (60, [some (.ref 162), some (.int n0), some (.int b), some (.int 0), none, none], [], h, 198, sl) = some R := by
    intro n b h hh
    obtain ⟨n, hh⟩ := rn_i rfl rfl rfl rfl hh
    obtain ⟨n, hh⟩ := rn_if (cc := .eq) (off := 30) (t := 60) rfl rfl hh
    exact ⟨n, hh⟩
  have bad : ∀ (n : Nat) (h1 : pm_H), pm_run PT n fr lo 192 (37, [some (.ref 162), some (.int n0), some (.int 1), some (.int 1), none, none], [.int 0], h1, 198, sl) = some R → ∃ m, pm_run PT m fr lo 192 (60, [some (.ref 162), some (.int n0), some (.int 0), some (.int 0), none, none], [], h1, 198, sl) = some R := by
    intro n h1 hh
    obtain ⟨n, hh⟩ := rn_i rfl rfl rfl rfl hh
    obtain ⟨n, hh⟩ := rn_i rfl rfl rfl rfl hh
    obtain ⟨n, hh⟩ := rn_if (cc := .eq) (off := 16) (t := 55) rfl rfl hh
    have hh : pm_run PT n fr lo 192 (55, [some (.ref 162), some (.int n0), some (.int 0), some (.int 1), none, none], [], h1, 198, sl) = some R := hh
    obtain ⟨n, hh⟩ := rn_i rfl rfl rfl rfl hh
    obtain ⟨n, hh⟩ := rn_i rfl rfl rfl rfl hh
    obtain ⟨n, hh⟩ := rn_i rfl rfl rfl rfl hh
    exact out n 0 h1 hh
  intro k
  induction k with
  | zero => intro rm a n h hk h0; exact absurd h0 (by omega)
  | succ k ih =>
    intro rm a n h hk h0 ha p hh
    obtain ⟨n, hh⟩ := rn_i rfl rfl rfl rfl hh
    obtain ⟨n, hh⟩ := rn_if (cc := .eq) (off := 30) (t := 60) rfl rfl hh
    have hh : pm_run PT n fr lo 192 (33, [some (.ref 162), some (.int n0), some (.int 1), some (.int 1), none, none], [], h, 198, sl) = some R := hh
    obtain ⟨n, hh⟩ := rn_i rfl rfl rfl rfl hh
    obtain ⟨n, fr', lo', r1, hr1, hh⟩ := rn_call (w := 0) (t := 191) rfl rfl hh
    obtain ⟨e1, ⟨rm', e2, e4⟩, e3⟩ := rg_reads ht (by omega) (by omega) p hr1
    obtain ⟨rv, h1, s1⟩ := r1
    dsimp only at e1 e2 e3 e4
    subst e1
    subst e3
    show ∃ m h' rm', pm_run PT m fr lo 192 (60, [some (.ref 162), some (.int n0), some (.int (cond (sgL tp t cc gc (k + 1) rm a).1 1 0)), some (.int 0), none, none], [], h', 198, sl) = some R ∧ pG h' tp t cc gc (sgL tp t cc gc (k + 1) rm a).2.1 rm' ∧ ((sgL tp t cc gc (k + 1) rm a).1 = true → rm' = (sgL tp t cc gc (k + 1) rm a).2.2)
    unfold sgL
    cases z : decide (gc + rm = 8) with
    | true =>
      rw [z] at e2 e4 hh
      obtain ⟨m, hm⟩ := bad n h1 hh
      exact ⟨m, h1, rm', hm, e2, fun q => by cases q⟩
    | false =>
      rw [z] at e2 e4 hh
      dsimp only [cond] at e2 e4 ⊢
      cases y : (rgL tp t cc a).1 with
      | false =>
        have hh : pm_run PT n fr lo 192 (37, [some (.ref 162), some (.int n0), some (.int 1), some (.int 1), none, none], [.int 0], h1, 198, sl) = some R := by rw [← hh]; dsimp only [cond]; rw [y]; rfl
        obtain ⟨m, hm⟩ := bad n h1 hh
        exact ⟨m, h1, rm', hm, e2, fun q => by cases q⟩
      | true =>
        have hh : pm_run PT n fr lo 192 (37, [some (.ref 162), some (.int n0), some (.int 1), some (.int 1), none, none], [.int 1], h1, 198, sl) = some R := by rw [← hh]; dsimp only [cond]; rw [y]; rfl
        have hle : (rgL tp t cc a).2 ≤ t := rgL_le ha
        have e4 := e4 y
        subst e4
        generalize (rgL tp t cc a).2 = b at *
        obtain ⟨n, hh⟩ := rn_i rfl rfl rfl rfl hh
        obtain ⟨n, hh⟩ := rn_i rfl rfl rfl rfl hh
        obtain ⟨n, hh⟩ := rn_if (cc := .eq) (off := 16) (t := 55) rfl rfl hh
        have hh : pm_run PT n fr lo 192 (42, [some (.ref 162), some (.int n0), some (.int 1), some (.int 1), none, none], [], h1, 198, sl) = some R := hh
        obtain ⟨n, hh⟩ := rn_i rfl rfl rfl rfl hh
        obtain ⟨n, hh⟩ := rn_i rfl rfl rfl rfl hh
        obtain ⟨n, fr', lo', r1, hr1, hh⟩ := rn_call (w := 0) (t := 181) rfl rfl hh
        obtain ⟨⟨⟨q1, q2, q3, q4⟩, -⟩, -⟩ := id e2
        have er := rn_dt (F := 10) (Lo := 1000) (hd_takes (fr := 10) (lo := 1000) (sl := sl) q1 q2 q3 q4 ht (by omega) (by decide) (by decide) 59) hr1
        cases x : decide (b < t ∧ tp b = 59) with
        | false =>
          rw [x] at er
          dsimp only [cond] at er
          subst er
          have hh : pm_run PT n fr lo 192 (48, [some (.ref 162), some (.int n0), some (.int 1), some (.int 1), none, none], [.int 0], mset h1 16 (.int (nI (b + 0))), 198, sl) = some R := hh
          obtain ⟨n, hh⟩ := rn_if (cc := .eq) (off := 7) (t := 55) rfl rfl hh
          have hh : pm_run PT n fr lo 192 (55, [some (.ref 162), some (.int n0), some (.int 1), some (.int 1), none, none], [], mset h1 16 (.int (nI (b + 0))), 198, sl) = some R := hh
          obtain ⟨n, hh⟩ := rn_i rfl rfl rfl rfl hh
          obtain ⟨n, hh⟩ := rn_i rfl rfl rfl rfl hh
          obtain ⟨n, hh⟩ := rn_i rfl rfl rfl rfl hh
          obtain ⟨m, hm⟩ := out n 1 _ hh
          exact ⟨m, _, rm + 1, hm, pG_16 e2, fun _ => rfl⟩
        | true =>
          rw [x] at er
          dsimp only [cond] at er
          subst er
          have xx := of_decide_eq_true x
          have hh : pm_run PT n fr lo 192 (48, [some (.ref 162), some (.int n0), some (.int 1), some (.int 1), none, none], [.int 1], mset h1 16 (.int (nI (b + 1))), 198, sl) = some R := hh
          obtain ⟨n, hh⟩ := rn_if (cc := .eq) (off := 7) (t := 55) rfl rfl hh
          have hh : pm_run PT n fr lo 192 (51, [some (.ref 162), some (.int n0), some (.int 1), some (.int 1), none, none], [], mset h1 16 (.int (nI (b + 1))), 198, sl) = some R := hh
          obtain ⟨n, hh⟩ := rn_i rfl rfl rfl rfl hh
          obtain ⟨n, hh⟩ := rn_i rfl rfl rfl rfl hh
          obtain ⟨n, hh⟩ := rn_i rfl rfl rfl rfl hh
          obtain ⟨n, hh⟩ := rn_i rfl rfl rfl rfl hh
          have zz := of_decide_eq_false z
          exact ih (rm + 1) (b + 1) n _ (by omega) (by omega) (by omega) (pG_16 e2) hh
end GML
end MG95zgx1
section MG95zgx2
/-! the reference's gifts, whole -/
section GMN
variable {n fr lo sl k pc sz j cc gc r n0 : Nat} {h : pm_H} {L : pm_L} {S : List Value} {R : pm_Rs} {tp : Nat → Int32}
def gmP (ci f : Nat) : Bool := Nat.beq ci 11 && (Nat.beq f 4 || Nat.beq f 20)
theorem gm_ok : sf_ok gmP cmK := sf_of cmK_in (by decide +kernel)
theorem gm_blk : blk_ok gmP cmK cmJ 192 90 214 := blk_of (by decide +kernel)
theorem gm_add (hr : r ≤ 8) (hc : gc ≤ 8) : ∀ (d k n : Nat) (L : pm_L) (S : List Value) (h : pm_H), k + d = r → pm_get L 0 = some (.ref 162) → pm_get L 5 = some (.int (nI k)) → mF h 20 (.int (nI r)) → mF h 4 (.int (nI (gc + k))) → pm_run PT n fr lo 192 (81, L, S, h, 198, sl) = some R → R.1 = some (.int (nI r)) ∧ mF R.2.1 4 (.int (nI (gc + r))) := by
  intro d
  induction d with
  | zero =>
    intro k n L S h hk h0 h5 q20 q3 hh
    have hk : k = r := by omega
    subst hk
    obtain ⟨n, hh⟩ := rn_il rfl h5 rfl hh
    obtain ⟨n, hh⟩ := rn_aln rfl h0 rfl hh
    obtain ⟨n, hh⟩ := rn_gfm rfl rfl q20 hh
    obtain ⟨n, hh⟩ := rn_icmp (cc := .ge) (off := 143) (t := 230) rfl rfl hh
    rw [hI_ge (by omega) (by omega), decide_eq_true (Nat.le_refl _)] at hh
    have hh : pm_run PT n fr lo 192 (230, L, S, h, 198, sl) = some R := hh
    obtain ⟨n, hh⟩ := rn_aln rfl h0 rfl hh
    obtain ⟨n, fr', lo', r1, hr1, hh⟩ := rn_call (w := 0) (t := 190) rfl rfl hh
    have hf := sf_run gm_ok _ _ _ 190 _ r1 rfl hr1
    have hz := sz_run gm_ok _ _ _ 190 _ r1 rfl hr1
    have hv := vd_run rfl hr1
    obtain ⟨rv, h1, s1⟩ := r1
    dsimp only at hf hz hv
    subst hz
    subst hv
    have hh : pm_run PT n fr lo 192 (234, L, S, h1, 198, sl) = some R := hh
    obtain ⟨n, hh⟩ := rn_aln rfl h0 rfl hh
    obtain ⟨n, hh⟩ := rn_gfm rfl rfl (fm_mF hf rfl q20) hh
    obtain ⟨-, rfl⟩ := rn_ret rfl (Or.inl rfl) hh
    exact ⟨rfl, fm_mF hf rfl q3⟩
  | succ d ih =>
    intro k n L S h hk h0 h5 q20 q3 hh
    obtain ⟨n, hh⟩ := rn_il rfl h5 rfl hh
    obtain ⟨n, hh⟩ := rn_aln rfl h0 rfl hh
    obtain ⟨n, hh⟩ := rn_gfm rfl rfl q20 hh
    obtain ⟨n, hh⟩ := rn_icmp (cc := .ge) (off := 143) (t := 230) rfl rfl hh
    rw [hI_ge (by omega) (by omega), decide_eq_false (by omega)] at hh
    have hh : pm_run PT n fr lo 192 (90, L, S, h, 198, sl) = some R := hh
    obtain ⟨n, L', S', h', hh, hl, hf⟩ := blk_run gm_ok gm_blk n fr lo _ R (Nat.le_of_ble_eq_true rfl) (Nat.le_of_ble_eq_true rfl) hh
    dsimp only at hl hf hh
    have g0 := hl 0 _ rfl h0 rfl
    have g5 := hl 5 _ rfl h5 rfl
    have q3' := fm_mF hf rfl q3
    have q20' := fm_mF hf rfl q20
    have hh : pm_run PT n fr lo 192 (214, L', S', h', 198, sl) = some R := hh
    obtain ⟨n, hh⟩ := rn_aln rfl g0 rfl hh
    obtain ⟨n, hh⟩ := rn_i rfl rfl rfl rfl hh
    obtain ⟨n, hh⟩ := rn_gfm rfl rfl q3' hh
    obtain ⟨n, hh⟩ := rn_i rfl rfl rfl rfl hh
    obtain ⟨n, hh⟩ := rn_i rfl rfl rfl rfl hh
    obtain ⟨n, hh⟩ := rn_pfm (w := .int (nI (gc + k))) rfl rfl rfl (by decide) q3' hh
    obtain ⟨n, hh⟩ := rn_i rfl rfl rfl (iinc_eq g5 (Nat.le_of_ble_eq_true rfl)) hh
    obtain ⟨n, hh⟩ := rn_i rfl rfl rfl rfl hh
    have e1 : nI (gc + k) + Int32.ofInt 1 = nI (gc + (k + 1)) := (Int32.ofNat_add (gc + k) 1).symm
    have e2 : nI k + Int32.ofInt 1 = nI (k + 1) := (Int32.ofNat_add k 1).symm
    have hh : pm_run PT n fr lo 192 (81, pm_st1 L' 5 (.int (nI k + Int32.ofInt 1)), S', mset h' 4 (.int (nI (gc + k) + Int32.ofInt 1)), 198, sl) = some R := hh
    rw [e1, e2] at hh
    exact ih (k + 1) n _ S' _ (by omega) (lkp_st1 (J := fun j => Nat.beq j 0) rfl 0 _ rfl g0 rfl) (get_st1 g5) (mF_ne (by decide) q20') (mF_self q3') hh
def gmS (tp : Nat → Int32) (n0 cc gc : Nat) : Bool × Nat × Nat := cond (Nat.beq n0 0) (true, 0, 0) (sgL tp (min n0 55) cc gc (9 - gc) 0 0)
def gmF (tp : Nat → Int32) (n0 cc gc : Nat) : Int32 := fO n0 55 (min n0 55) (gmS tp n0 cc gc).2.1 (gmS tp n0 cc gc).1
def gmA (tp : Nat → Int32) (n0 cc gc : Nat) : Int32 := cond (pm_cmp .ge (gmF tp n0 cc gc) 0) (nI (gmS tp n0 cc gc).2.2) (gmF tp n0 cc gc)
def gmN (tp : Nat → Int32) (n0 cc gc : Nat) : Nat := cond (pm_cmp .ge (gmF tp n0 cc gc) 0) (gmS tp n0 cc gc).2.2 0
theorem sgL_bd {t : Nat} : ∀ (k rm a : Nat), a ≤ t → (sgL tp t cc gc k rm a).2.1 ≤ t ∧ (gc + rm ≤ 8 → gc + (sgL tp t cc gc k rm a).2.2 ≤ 8)
  | 0, rm, a, ha => ⟨ha, fun q => q⟩
  | k + 1, rm, a, ha => by
    unfold sgL
    cases z : decide (gc + rm = 8) with
    | true => exact ⟨ha, fun q => q⟩
    | false =>
      have zz := of_decide_eq_false z
      have hle := rgL_le (tp := tp) (cc := cc) ha
      dsimp only [cond]
      cases (rgL tp t cc a).1 with
      | false => exact ⟨hle, fun q => q⟩
      | true =>
        dsimp only
        cases x : decide ((rgL tp t cc a).2 < t ∧ tp (rgL tp t cc a).2 = 59) with
        | false => exact ⟨hle, fun q => by show gc + (rm + 1) ≤ 8; omega⟩
        | true =>
          have xx := of_decide_eq_true x
          obtain ⟨a1, a3⟩ := sgL_bd (t := t) k (rm + 1) ((rgL tp t cc a).2 + 1) (by omega)
          exact ⟨a1, fun q => a3 (by omega)⟩
/-- a fault is below 0 unless the LINES stand -/
theorem fO_ge {m t at_ : Nat} {is : Bool} (hm : m ≤ 80) (ha : at_ ≤ 80) (q : pm_cmp .ge (fO n0 m t at_ is) 0 = true) : is = true := by
  cases is with
  | true => rfl
  | false =>
    exfalso
    unfold fO fO2 at q
    rw [Bool.false_and] at q
    split at q
    · rw [neg_ge hm] at q
      cases q
    · rw [cond_false, neg_ge ha] at q
      cases q
theorem gm_run {w x16 x17 x18 x20 : Int32} {f : Nat → Int32} (hn : n0 ≤ 80) (hc : gc ≤ 8) (h0 : mF h 0 (.int w)) (h15 : mF h 15 (.int (nI n0))) (h16 : mF h 16 (.int x16)) (h17 : mF h 17 (.int x17)) (h18 : mF h 18 (.int x18)) (h20 : mF h 20 (.int x20)) (h3 : mF h 3 (.int (nI cc))) (h4 : mF h 4 (.int (nI gc))) (h14 : mF h 14 (.ref 172)) (hA : h 172 = .inl (0, 80, .inl tp)) (h19 : mF h 19 (.ref 173)) (hB : h 173 = .inl (0, 36, .inl f)) (hh : pm_run PT n fr lo 192 (0, pm_l0 [.ref 162] 6, [], h, 198, sl) = some R) : R.1 = some (.int (gmA tp n0 cc gc)) ∧ mF R.2.1 4 (.int (nI (gc + gmN tp n0 cc gc))) := by
  obtain ⟨n, hh⟩ := rn_i rfl rfl rfl rfl hh
  obtain ⟨n, hh⟩ := rn_i rfl rfl rfl rfl hh
  obtain ⟨n, hh⟩ := rn_pfm (w := .int w) rfl rfl rfl (by decide) h0 hh
  obtain ⟨n, hh⟩ := rn_i rfl rfl rfl rfl hh
  obtain ⟨n, hh⟩ := rn_i rfl rfl rfl rfl hh
  obtain ⟨n, fr', lo', r1, hr1, hh⟩ := rn_call (w := 0) (t := 180) rfl rfl hh
  have g15 : mF (mset h 0 (.int (Int32.ofInt 0))) 15 (.int (nI n0)) := mF_ne (by decide) h15
  have er := rn_dt (F := 10) (Lo := 1000) (hd_begins (fr := 10) (lo := 1000) (sl := sl) (m := 55) g15 (mF_ne (by decide) h16) (mF_ne (by decide) h17) (mF_ne (by decide) h18) hn (by decide) (by decide) (by decide)) hr1
  subst er
  have mm : ∀ (g : Nat) (v : Value), g ≠ 0 → g ≠ 15 → g ≠ 16 → g ≠ 18 → g ≠ 17 → mF h g v → mF (hbeg (mset h 0 (.int (Int32.ofInt 0))) n0 55) g v := fun g v a0 a1 a2 a3 a4 q => mF_ne (Ne.symm a4) (mF_ne (Ne.symm a3) (mF_ne (Ne.symm a2) (mF_ne (Ne.symm a1) (mF_ne (Ne.symm a0) q))))
  have p20 : mF (hbeg (mset h 0 (.int (Int32.ofInt 0))) n0 55) 20 (.int x20) := mm 20 _ (by decide) (by decide) (by decide) (by decide) (by decide) h20
  have pp : pG (mset (hbeg (mset h 0 (.int (Int32.ofInt 0))) n0 55) 20 (.int (nI 0))) tp (min n0 55) cc gc 0 0 := by
    refine ⟨⟨⟨mF_ne (by decide) ?_, mF_ne (by decide) ?_, mF_ne (by decide) (mm 14 _ (by decide) (by decide) (by decide) (by decide) (by decide) h14), ?_⟩, mF_self p20, mF_ne (by decide) (mm 3 _ (by decide) (by decide) (by decide) (by decide) (by decide) h3), mF_ne (by decide) (mm 19 _ (by decide) (by decide) (by decide) (by decide) (by decide) h19), f, ?_⟩, mF_ne (by decide) (mm 4 _ (by decide) (by decide) (by decide) (by decide) (by decide) h4)⟩
    · exact mF_ne (by decide) (mF_ne (by decide) (mF_self (w := .int x16) (mF_ne (by decide) (mF_ne (by decide) h16))))
    · exact mF_self (w := .int x17) (mF_ne (by decide) (mF_ne (by decide) (mF_ne (by decide) (mF_ne (by decide) h17))))
    · exact mset_arr (by decide) (mset_arr (by decide) (mset_arr (by decide) (mset_arr (by decide) (mset_arr (by decide) (mset_arr (by decide) hA)))))
    · exact mset_arr (by decide) (mset_arr (by decide) (mset_arr (by decide) (mset_arr (by decide) (mset_arr (by decide) (mset_arr (by decide) hB)))))
  have hh : pm_run PT n fr lo 192 (11, [some (.ref 162), none, none, none, none, none], [.int (nI n0)], hbeg (mset h 0 (.int (Int32.ofInt 0))) n0 55, 198, sl) = some R := hh
  generalize hbeg (mset h 0 (.int (Int32.ofInt 0))) n0 55 = hb at *
  obtain ⟨n, hh⟩ := rn_i rfl rfl rfl rfl hh
  obtain ⟨n, hh⟩ := rn_i rfl rfl rfl rfl hh
  obtain ⟨n, hh⟩ := rn_i rfl rfl rfl rfl hh
  obtain ⟨n, hh⟩ := rn_pfm (w := .int x20) rfl rfl rfl (by decide) p20 hh
  obtain ⟨n, hh⟩ := rn_i rfl rfl rfl rfl hh
  obtain ⟨n, hh⟩ := rn_i rfl rfl rfl rfl hh
  obtain ⟨n, hh⟩ := rn_i rfl rfl rfl rfl hh
  obtain ⟨n, hh⟩ := rn_if (cc := .le) (off := 7) (t := 27) rfl rfl hh
  have sec : ∀ (n : Nat) (hq : pm_H) (b : Bool) (at_ rm rm' : Nat) (x3 : Int32), at_ ≤ min n0 55 → gc + rm ≤ 8 → pG hq tp (min n0 55) cc gc at_ rm' → (b = true → rm' = rm) → pm_run PT n fr lo 192 (60, [some (.ref 162), some (.int (nI n0)), some (.int (cond b 1 0)), some (.int x3), none, none], [], hq, 198, sl) = some R → R.1 = some (.int (cond (pm_cmp .ge (fO n0 55 (min n0 55) at_ b) 0) (nI rm) (fO n0 55 (min n0 55) at_ b))) ∧ mF R.2.1 4 (.int (nI (gc + cond (pm_cmp .ge (fO n0 55 (min n0 55) at_ b) 0) rm 0))) := by
    intro n hq b at_ rm rm' x3 hat hrm p hbr hh
    obtain ⟨n, hh⟩ := rn_i rfl rfl rfl rfl hh
    obtain ⟨n, hh⟩ := rn_i rfl rfl rfl rfl hh
    obtain ⟨n, hh⟩ := rn_i rfl rfl rfl rfl hh
    obtain ⟨n, hh⟩ := rn_i rfl rfl rfl rfl hh
    obtain ⟨n, fr', lo', r1, hr1, hh⟩ := rn_call (w := 0) (t := 186) rfl rfl hh
    have er := fo_run (m := 55) hn (by decide) (by omega) (by omega) p.1.1.1 p.1.1.2.1 hr1
    subst er
    have hfg := fO_ge (n0 := n0) (m := 55) (t := min n0 55) (at_ := at_) (is := b) (by decide) (by omega)
    generalize hF : fO n0 55 (min n0 55) at_ b = F at *
    have hh : pm_run PT n fr lo 192 (68, [some (.ref 162), some (.int (nI n0)), some (.int (cond b 1 0)), some (.int x3), none, none], [.int F], hq, 198, sl) = some R := hh
    obtain ⟨n, hh⟩ := rn_i rfl rfl rfl rfl hh
    obtain ⟨n, hh⟩ := rn_i rfl rfl rfl rfl hh
    obtain ⟨n, hh⟩ := rn_if (cc := .ge) (off := 6) (t := 78) rfl rfl hh
    cases hge : pm_cmp .ge F 0 with
    | false =>
      rw [hge] at hh
      obtain ⟨n, hh⟩ := rn_i rfl rfl rfl rfl hh
      obtain ⟨-, rfl⟩ := rn_ret rfl (Or.inl rfl) hh
      exact ⟨rfl, p.2⟩
    | true =>
      rw [hge] at hh
      have er := hbr (hfg hge)
      subst er
      obtain ⟨n, hh⟩ := rn_i rfl rfl rfl rfl hh
      obtain ⟨n, hh⟩ := rn_i rfl rfl rfl rfl hh
      exact gm_add (r := rm') (by omega) hc rm' 0 n _ [] hq (by omega) rfl rfl p.1.2.1 p.2 hh
  by_cases z : n0 = 0
  · have es : gmS tp n0 cc gc = (true, 0, 0) := by
      unfold gmS
      rw [z]
      rfl
    unfold gmA gmN gmF
    rw [es]
    rw [show pm_cmp .le (nI n0) 0 = true by rw [z]; decide] at hh
    have hh : pm_run PT n fr lo 192 (27, [some (.ref 162), some (.int (nI n0)), some (.int 1), none, none, none], [], mset hb 20 (.int (nI 0)), 198, sl) = some R := hh
    obtain ⟨n, hh⟩ := rn_i rfl rfl rfl rfl hh
    obtain ⟨n, hh⟩ := rn_i rfl rfl rfl rfl hh
    have hh : pm_run PT n fr lo 192 (29, [some (.ref 162), some (.int (nI n0)), some (.int 1), some (.int 0), none, none], [], mset hb 20 (.int (nI 0)), 198, sl) = some R := hh
    obtain ⟨n, hh⟩ := rn_i rfl rfl rfl rfl hh
    obtain ⟨n, hh⟩ := rn_if (cc := .eq) (off := 30) (t := 60) rfl rfl hh
    exact sec n _ true 0 0 0 0 (Nat.zero_le _) (by omega) pp (fun _ => rfl) hh
  · have ec : pm_cmp .le (nI n0) 0 = false := by
      have := hI_le (a := n0) (b := 0) (by omega) (by omega)
      rw [decide_eq_false (by omega)] at this
      exact this
    rw [ec] at hh
    have hh : pm_run PT n fr lo 192 (23, [some (.ref 162), some (.int (nI n0)), some (.int 1), none, none, none], [], mset hb 20 (.int (nI 0)), 198, sl) = some R := hh
    obtain ⟨n, hh⟩ := rn_i rfl rfl rfl rfl hh
    obtain ⟨n, hh⟩ := rn_i rfl rfl rfl rfl hh
    obtain ⟨n, hh⟩ := rn_i rfl rfl rfl rfl hh
    obtain ⟨m, h', rm', hm, p', hrm'⟩ := gm_loop (t := min n0 55) (by omega) (9 - gc) 0 0 n _ (by omega) (by omega) (Nat.zero_le _) pp hh
    have hb0 : Nat.beq n0 0 = false := nb_ne z
    have es : gmS tp n0 cc gc = sgL tp (min n0 55) cc gc (9 - gc) 0 0 := by
      unfold gmS
      rw [hb0]
      rfl
    obtain ⟨b1, b3⟩ := sgL_bd (tp := tp) (cc := cc) (gc := gc) (9 - gc) 0 0 (Nat.zero_le (min n0 55))
    unfold gmA gmN gmF
    rw [es]
    exact sec m h' _ _ _ rm' 0 b1 (b3 (by omega)) p' hrm' hm
end GMN
end MG95zgx2
section MG95zgx3
/-! the class's readGift -/
section GXR
variable {n fr lo sl n0 cc p t : Nat} {h : pm_H} {R : pm_Rs} {f : Nat → Int32}
theorem dgi_rng {u : Int32} {c : Nat} (hc : c ≤ 10) (hu : u.toInt = (c : Int) - 1) : dgi f p t (Int32.ofInt 0) u = (dg f p t && decide ((f p - 48).toInt < (c : Int))) := by
  have n0' : ((Int32.ofInt 0).toInt64).toInt = 0 := by decide
  have nu : (u.toInt64).toInt = (c : Int) - 1 := by rw [Int32.toInt_toInt64]; exact hu
  cases hd : dg f p t with
  | true =>
    obtain ⟨v1, v2⟩ := dg_val hd
    unfold dgi in_b
    rw [decide_eq_true (dg_lt hd)]
    have a1 : ¬ (f p - 48).toInt64 < (Int32.ofInt 0).toInt64 := by
      rw [Int64.lt_iff_toInt_lt, n0', Int32.toInt_toInt64]
      omega
    rw [decide_eq_false a1]
    by_cases z : (f p - 48).toInt < (c : Int)
    · have a2 : ¬ u.toInt64 < (f p - 48).toInt64 := by
        rw [Int64.lt_iff_toInt_lt, nu, Int32.toInt_toInt64]
        omega
      rw [decide_eq_false a2, decide_eq_true z]
      rfl
    · have a2 : u.toInt64 < (f p - 48).toInt64 := by
        rw [Int64.lt_iff_toInt_lt, nu, Int32.toInt_toInt64]
        omega
      rw [decide_eq_true a2, decide_eq_false z]
      rfl
  | false =>
    rw [Bool.false_and]
    cases hi : dgi f p t (Int32.ofInt 0) u with
    | false => rfl
    | true =>
      exfalso
      unfold dgi in_b at hi
      rw [Bool.and_eq_true, Bool.and_eq_true] at hi
      have hlt := of_decide_eq_true hi.1
      have e1 : ¬ (f p - 48).toInt64 < (Int32.ofInt 0).toInt64 := by simpa using hi.2.1
      have e2 : ¬ u.toInt64 < (f p - 48).toInt64 := by simpa using hi.2.2
      rw [Int64.lt_iff_toInt_lt, n0', Int32.toInt_toInt64] at e1
      rw [Int64.lt_iff_toInt_lt, nu, Int32.toInt_toInt64] at e2
      have ef : f p = (f p - 48) + 48 := by simp
      have ei : (f p).toInt = (f p - 48).toInt + 48 := by
        have q := congrArg Int32.toInt ef
        rw [Int32.toInt_add, show (48 : Int32).toInt = 48 by decide, Int.bmod_eq_of_le (by omega) (by omega)] at q
        exact q
      have : dg f p t = true := by
        unfold dg
        rw [decide_eq_true hlt]
        refine (Bool.true_and _).trans (dg_in ?_ ?_)
        · refine decide_eq_false (fun q => ?_)
          rw [Int32.lt_iff_toInt_lt, nI_toInt (by decide)] at q
          omega
        · refine decide_eq_false (fun q => ?_)
          rw [Int32.lt_iff_toInt_lt, nI_toInt (by decide)] at q
          omega
      rw [this] at hd
      cases hd
theorem cc_m1 (hc : cc ≤ 6) : (nI cc - Int32.ofInt 1).toInt = (cc : Int) - 1 := by
  have : ∀ c : Nat, c ≤ 6 → (nI c - Int32.ofInt 1).toInt = (c : Int) - 1 := by decide
  exact this cc hc
/-- the class's isCourt -/
theorem ic_run {v : Int32} {rs : List Value} (hc : cc ≤ 6) (d1 : h 5 = .inr (3, rs)) (d2 : rs[0]? = some (.int (nI cc))) (hh : pm_run PT n fr lo 23 (0, pm_l0 [.ref 5, .int v] 2, [], h, 198, sl) = some R) : R = (some (.int (cond (decide (0 ≤ v.toInt ∧ v.toInt < (cc : Int))) 1 0)), h, 198, sl) := by
  have no : ∀ n : Nat, ¬ (0 ≤ v.toInt ∧ v.toInt < (cc : Int)) → pm_run PT n fr lo 23 (16, [some (.ref 5), some (.int v)], [], h, 198, sl) = some R → R = (some (.int (cond (decide (0 ≤ v.toInt ∧ v.toInt < (cc : Int))) 1 0)), h, 198, sl) := by
    intro n z hh
    obtain ⟨n, hh⟩ := rn_i rfl rfl rfl rfl hh
    rw [decide_eq_false z]
    exact (rn_ret rfl (Or.inr rfl) hh).2
  obtain ⟨n, hh⟩ := rn_i rfl rfl rfl rfl hh
  obtain ⟨n, hh⟩ := rn_if (cc := .lt) (off := 15) (t := 16) rfl rfl hh
  have el : pm_cmp .lt v 0 = decide (v.toInt < 0) := by
    simp only [pm_cmp]
    rw [Bool.eq_iff_iff, decide_eq_true_iff, decide_eq_true_iff, Int32.lt_iff_toInt_lt, show (0 : Int32).toInt = 0 by decide]
  rw [el] at hh
  by_cases z : v.toInt < 0
  · rw [decide_eq_true z] at hh
    exact no n (by omega) hh
  · rw [decide_eq_false z] at hh
    obtain ⟨n, hh⟩ := rn_i rfl rfl rfl rfl hh
    obtain ⟨n, hh⟩ := rn_i rfl rfl rfl rfl hh
    obtain ⟨n, hh⟩ := rn_gfo (g := 0) rfl rfl (by decide) d1 d2 hh
    obtain ⟨n, hh⟩ := rn_icmp (cc := .ge) (off := 7) (t := 16) rfl rfl hh
    have eg : pm_cmp .ge v (nI cc) = decide ((cc : Int) ≤ v.toInt) := by
      simp only [pm_cmp]
      rw [Bool.eq_iff_iff, decide_eq_true_iff, decide_eq_true_iff, Int32.le_iff_toInt_le, nI_toInt (by omega)]
    rw [eg] at hh
    by_cases y : (cc : Int) ≤ v.toInt
    · rw [decide_eq_true y] at hh
      exact no n (by omega) hh
    · rw [decide_eq_false y] at hh
      obtain ⟨n, hh⟩ := rn_i rfl rfl rfl rfl hh
      obtain ⟨n, hh⟩ := rn_i rfl rfl rfl rfl hh
      rw [decide_eq_true (by omega)]
      exact (rn_ret rfl (Or.inr rfl) hh).2
def xgJ (j : Nat) : Bool := Nat.beq j 0 || Nat.beq j 4
theorem xg_blk : blk_ok sQ sQK xgJ 131 178 215 := blk_of (by decide +kernel)
/-- what readGift answers -/
def xgA (s : Bool × Nat) : Int32 := cond s.1 (nI s.2) (Int32.ofInt (-1) - nI s.2)
theorem xg_no {a : Nat} {pc : Nat} {L1 L2 L3 : Int32} {x5 x6 x7 x8 : Option Value} (hi : pm_ins PT 131 pc = some (.iconst (-1), 1)) (hi2 : pm_ins PT 131 (pc + 1) = some (.iload 4, 2)) (hi3 : pm_ins PT 131 (pc + 1 + 2) = some (.isub, 1)) (hi4 : pm_ins PT 131 (pc + 1 + 2 + 1) = some (.ireturn, 1)) (hh : pm_run PT n fr lo 131 (pc, [some (.ref 0), some (.int L1), some (.int L2), some (.int L3), some (.int (nI a)), x5, x6, x7, x8], [], h, 198, sl) = some R) : R.1 = some (.int (Int32.ofInt (-1) - nI a)) := by
  obtain ⟨n, hh⟩ := rn_i hi rfl rfl rfl hh
  obtain ⟨n, hh⟩ := rn_i hi2 rfl rfl rfl hh
  obtain ⟨n, hh⟩ := rn_i hi3 rfl rfl rfl hh
  have e := (rn_ret hi4 (Or.inl rfl) hh).2
  rw [e]
theorem xg_145 {a : Nat} (hn : n0 ≤ 80) (hc : cc ≤ 6) (ha : a < 900) (x : pX h n0 cc f) {L1 L2 L3 L5 L6 L7 : Int32} (hh : pm_run PT n fr lo 131 (145, [some (.ref 0), some (.int L1), some (.int L2), some (.int L3), some (.int (nI a)), some (.int L5), some (.int L6), some (.int L7), none], [], h, 198, sl) = some R) : R.1 = some (.int (xgA (cond (dgi f (a + 1) (min n0 55) (Int32.ofInt 0) (nI cc - Int32.ofInt 1)) (true, a + 2) (false, a + 1)))) := by
  obtain ⟨⟨fs, a1, a2, a3⟩, ⟨gs, g1, g2, g3⟩, c1, rs, d1, d2⟩ := id x
  obtain ⟨n, hh⟩ := rn_i rfl rfl rfl rfl hh
  obtain ⟨n, hh⟩ := rn_i rfl rfl rfl rfl hh
  obtain ⟨n, hh⟩ := rn_gfo (g := 0) rfl rfl (by decide) a1 a2 hh
  obtain ⟨n, hh⟩ := rn_i rfl rfl rfl rfl hh
  obtain ⟨n, hh⟩ := rn_i rfl rfl rfl rfl hh
  have e1 : nI a + Int32.ofInt 1 = nI (a + 1) := (Int32.ofNat_add a 1).symm
  have hh : pm_run PT n fr lo 131 (156, [some (.ref 0), some (.int L1), some (.int L2), some (.int L3), some (.int (nI a + Int32.ofInt 1)), some (.int L5), some (.int L6), some (.int L7), none], [.int (nI 55), .int (nI a + Int32.ofInt 1), .ref 1], h, 198, sl) = some R := hh
  rw [e1] at hh
  obtain ⟨n, fr', lo', r1, hr1, hh⟩ := rn_call (w := 0) (t := 81) rfl rfl hh
  have er := dgA_run (l := 55) hn (by decide) (by omega) x hr1
  subst er
  have hh : pm_run PT n fr lo 131 (159, [some (.ref 0), some (.int L1), some (.int L2), some (.int L3), some (.int (nI (a + 1))), some (.int L5), some (.int L6), some (.int L7), none], [.int (dgA f n0 (a + 1) 55)], h, 198, sl) = some R := hh
  obtain ⟨n, hh⟩ := rn_i rfl rfl rfl rfl hh
  obtain ⟨n, hh⟩ := rn_i rfl rfl rfl rfl hh
  obtain ⟨n, hh⟩ := rn_gfo (g := 2) rfl rfl (by decide) a1 a3 hh
  obtain ⟨n, hh⟩ := rn_i rfl rfl rfl rfl hh
  obtain ⟨n, fr', lo', r1, hr1, hh⟩ := rn_call (w := 0) (t := 23) rfl rfl hh
  have er := ic_run hc d1 d2 hr1
  subst er
  have hh : pm_run PT n fr lo 131 (170, [some (.ref 0), some (.int L1), some (.int L2), some (.int L3), some (.int (nI (a + 1))), some (.int L5), some (.int L6), some (.int L7), some (.int (dgA f n0 (a + 1) 55))], [.int (cond (decide (0 ≤ (dgA f n0 (a + 1) 55).toInt ∧ (dgA f n0 (a + 1) 55).toInt < (cc : Int))) 1 0)], h, 198, sl) = some R := hh
  have ed : decide (0 ≤ (dgA f n0 (a + 1) 55).toInt ∧ (dgA f n0 (a + 1) 55).toInt < (cc : Int)) = dgi f (a + 1) (min n0 55) (Int32.ofInt 0) (nI cc - Int32.ofInt 1) := by
    rw [dgi_rng (by omega) (cc_m1 hc)]
    cases hd : dg f (a + 1) (min n0 55) with
    | false =>
      rw [dgA_no hd, show (Int32.ofInt (-1)).toInt = -1 by decide, decide_eq_false (by omega)]
      rfl
    | true =>
      obtain ⟨v1, v2⟩ := dg_val hd
      rw [dgA_yes hd, Bool.true_and, Bool.eq_iff_iff, decide_eq_true_iff, decide_eq_true_iff]
      omega
  rw [ed] at hh
  obtain ⟨n, hh⟩ := rn_if (cc := .ne) (off := 8) (t := 178) rfl rfl hh
  cases hi : dgi f (a + 1) (min n0 55) (Int32.ofInt 0) (nI cc - Int32.ofInt 1) with
  | false =>
    rw [hi] at hh
    have hh : pm_run PT n fr lo 131 (173, [some (.ref 0), some (.int L1), some (.int L2), some (.int L3), some (.int (nI (a + 1))), some (.int L5), some (.int L6), some (.int L7), some (.int (dgA f n0 (a + 1) 55))], [], h, 198, sl) = some R := hh
    rw [xg_no rfl rfl rfl rfl hh]
    unfold xgA
    simp only [cond_false]
  | true =>
    rw [hi] at hh
    have hh : pm_run PT n fr lo 131 (178, [some (.ref 0), some (.int L1), some (.int L2), some (.int L3), some (.int (nI (a + 1))), some (.int L5), some (.int L6), some (.int L7), some (.int (dgA f n0 (a + 1) 55))], [], h, 198, sl) = some R := hh
    obtain ⟨n, L', S', h', hh, hl, hf⟩ := blk_run sQ_ok xg_blk n fr lo _ R (Nat.le_of_ble_eq_true rfl) (Nat.le_of_ble_eq_true rfl) hh
    dsimp only at hl hf hh
    have g4 := hl 4 (.int (nI (a + 1))) rfl rfl rfl
    have hh : pm_run PT n fr lo 131 (215, L', S', h', 198, sl) = some R := hh
    obtain ⟨n, hh⟩ := rn_il rfl g4 rfl hh
    obtain ⟨n, hh⟩ := rn_i rfl rfl rfl rfl hh
    obtain ⟨n, hh⟩ := rn_i rfl rfl rfl rfl hh
    have e := (rn_ret rfl (Or.inl rfl) hh).2
    rw [e]
    have e2 : nI (a + 1) + Int32.ofInt 1 = nI (a + 2) := (Int32.ofNat_add (a + 1) 1).symm
    exact congrArg (fun q => some (Value.int q)) e2
end GXR
end MG95zgx3
section MG95zgx4
/-! the class's readGift, whole -/
section GXS
variable {n fr lo sl n0 cc p t a : Nat} {h : pm_H} {R : pm_Rs} {f : Nat → Int32} {L1 L2 L3 L5 L6 : Int32}
theorem xg_119 (hn : n0 ≤ 80) (hc : cc ≤ 6) (ha : a < 800) (x : pX h n0 cc f) (hh : pm_run PT n fr lo 131 (119, [some (.ref 0), some (.int L1), some (.int L2), some (.int L3), some (.int (nI a)), some (.int (L5)), some (.int (L6)), none, none], [], h, 198, sl) = some R) : R.1 = some (.int (xgA (rgE f (min n0 55) cc (a + 1)))) := by
  obtain ⟨⟨fs, a1, a2, a3⟩, -⟩ := id x
  obtain ⟨n, hh⟩ := rn_i rfl rfl rfl rfl hh
  obtain ⟨n, hh⟩ := rn_i rfl rfl rfl rfl hh
  obtain ⟨n, hh⟩ := rn_gfo (g := 0) rfl rfl (by decide) a1 a2 hh
  obtain ⟨n, hh⟩ := rn_i rfl rfl rfl rfl hh
  obtain ⟨n, hh⟩ := rn_i rfl rfl rfl rfl hh
  have e1 : nI a + Int32.ofInt 1 = nI (a + 1) := (Int32.ofNat_add a 1).symm
  have hh : pm_run PT n fr lo 131 (130, [some (.ref 0), some (.int L1), some (.int L2), some (.int L3), some (.int (nI a + Int32.ofInt 1)), some (.int (L5)), some (.int (L6)), none, none], [.int (nI 55), .int (nI a + Int32.ofInt 1), .ref 1], h, 198, sl) = some R := hh
  rw [e1] at hh
  obtain ⟨n, fr', lo', r1, hr1, hh⟩ := rn_call (w := 0) (t := 81) rfl rfl hh
  have er := dgA_run (l := 55) hn (by decide) (by omega) x hr1
  subst er
  have hh : pm_run PT n fr lo 131 (133, [some (.ref 0), some (.int L1), some (.int L2), some (.int L3), some (.int (nI (a + 1))), some (.int (L5)), some (.int (L6)), none, none], [.int (dgA f n0 (a + 1) 55)], h, 198, sl) = some R := hh
  obtain ⟨n, hh⟩ := rn_i rfl rfl rfl rfl hh
  obtain ⟨n, hh⟩ := rn_i rfl rfl rfl rfl hh
  obtain ⟨n, hh⟩ := rn_if (cc := .ge) (off := 8) (t := 145) rfl rfl hh
  unfold rgE
  cases hd : dg f (a + 1) (min n0 55) with
  | false =>
    rw [dgA_no hd, show pm_cmp .ge (Int32.ofInt (-1)) 0 = false by decide] at hh
    have hh : pm_run PT n fr lo 131 (140, [some (.ref 0), some (.int L1), some (.int L2), some (.int L3), some (.int (nI (a + 1))), some (.int (L5)), some (.int (L6)), some (.int (Int32.ofInt (-1))), none], [], h, 198, sl) = some R := hh
    rw [xg_no rfl rfl rfl rfl hh]
    unfold xgA
    simp only [cond_false]
  | true =>
    obtain ⟨v1, v2⟩ := dg_val hd
    rw [dgA_yes hd, ge0_val v1] at hh
    simp only [cond_true]
    have hh : pm_run PT n fr lo 131 (145, [some (.ref 0), some (.int L1), some (.int L2), some (.int L3), some (.int (nI (a + 1))), some (.int (L5)), some (.int (L6)), some (.int (f (a + 1) - 48)), none], [], h, 198, sl) = some R := hh
    exact xg_145 hn hc (by omega) x hh
theorem xg_95 (hn : n0 ≤ 80) (hc : cc ≤ 6) (ha : a < 700) (x : pX h n0 cc f) (hh : pm_run PT n fr lo 131 (95, [some (.ref 0), some (.int L1), some (.int L2), some (.int L3), some (.int (nI a)), some (.int (L5)), some (.int (L6)), none, none], [], h, 198, sl) = some R) : R.1 = some (.int (xgA (rgC f (min n0 55) cc (a + 1)))) := by
  obtain ⟨⟨fs, a1, a2, a3⟩, -⟩ := id x
  obtain ⟨n, hh⟩ := rn_i rfl rfl rfl rfl hh
  obtain ⟨n, hh⟩ := rn_i rfl rfl rfl rfl hh
  obtain ⟨n, hh⟩ := rn_gfo (g := 0) rfl rfl (by decide) a1 a2 hh
  obtain ⟨n, hh⟩ := rn_i rfl rfl rfl rfl hh
  obtain ⟨n, hh⟩ := rn_i rfl rfl rfl rfl hh
  have e1 : nI a + Int32.ofInt 1 = nI (a + 1) := (Int32.ofNat_add a 1).symm
  have hh : pm_run PT n fr lo 131 (106, [some (.ref 0), some (.int L1), some (.int L2), some (.int L3), some (.int (nI a + Int32.ofInt 1)), some (.int (L5)), some (.int (L6)), none, none], [.int (nI 55), .int (nI a + Int32.ofInt 1), .ref 1], h, 198, sl) = some R := hh
  rw [e1] at hh
  obtain ⟨n, fr', lo', r1, hr1, hh⟩ := rn_call (w := 0) (t := 80) rfl rfl hh
  have er := sgA_run (l := 55) hn (by decide) (by omega) x hr1
  subst er
  have hh : pm_run PT n fr lo 131 (109, [some (.ref 0), some (.int L1), some (.int L2), some (.int L3), some (.int (nI (a + 1))), some (.int (L5)), some (.int (L6)), none, none], [.int (sgA f n0 (a + 1) 55)], h, 198, sl) = some R := hh
  obtain ⟨n, hh⟩ := rn_i rfl rfl rfl rfl hh
  obtain ⟨n, hh⟩ := rn_icmp (cc := .eq) (off := 8) (t := 119) rfl rfl hh
  have hh : pm_run PT n fr lo 131 (cond (pm_cmp .eq (sgA f n0 (a + 1) 55) 44) 119 114, [some (.ref 0), some (.int L1), some (.int L2), some (.int L3), some (.int (nI (a + 1))), some (.int (L5)), some (.int (L6)), none, none], [], h, 198, sl) = some R := hh
  have es : pm_cmp .eq (sgA f n0 (a + 1) 55) 44 = decide (a + 1 < min n0 55 ∧ f (a + 1) = 44) := by
    unfold sgA
    by_cases q : a + 1 < min n0 55
    · rw [decide_eq_true q]
      show decide (f (a + 1) = 44) = _
      rw [Bool.eq_iff_iff, decide_eq_true_iff, decide_eq_true_iff]
      exact ⟨fun e => ⟨q, e⟩, fun e => e.2⟩
    · rw [decide_eq_false q, decide_eq_false (fun e => q e.1)]
      show pm_cmp .eq (Int32.ofInt (-1)) 44 = false
      decide
  rw [es] at hh
  unfold rgC
  cases v : decide (a + 1 < min n0 55 ∧ f (a + 1) = 44) with
  | false =>
    rw [v] at hh
    rw [xg_no rfl rfl rfl rfl hh]
    unfold xgA
    simp only [cond_false]
  | true =>
    rw [v] at hh
    simp only [cond_true]
    exact xg_119 hn hc (by omega) x hh
theorem xg_85 {v : Int32} (hn : n0 ≤ 80) (hc : cc ≤ 6) (ha : a < 700) (x : pX h n0 cc f) (hh : pm_run PT n fr lo 131 (85, [some (.ref 0), some (.int L1), some (.int L2), some (.int L3), some (.int (nI a)), some (.int (v)), some (.int (L6)), none, none], [], h, 198, sl) = some R) : R.1 = some (.int (xgA (rgW f (min n0 55) cc (a + 1, v)))) := by
  obtain ⟨n, hh⟩ := rn_i rfl rfl rfl rfl hh
  obtain ⟨n, hh⟩ := rn_if (cc := .ne) (off := 8) (t := 95) rfl rfl hh
  unfold rgW
  dsimp only
  by_cases z : v = 0
  · rw [show pm_cmp .ne v 0 = false from decide_eq_false (fun q => q z)] at hh
    rw [decide_eq_true z]
    simp only [cond_true]
    have hh : pm_run PT n fr lo 131 (90, [some (.ref 0), some (.int L1), some (.int L2), some (.int L3), some (.int (nI a)), some (.int (v)), some (.int (L6)), none, none], [], h, 198, sl) = some R := hh
    rw [xg_no rfl rfl rfl rfl hh]
    unfold xgA
    simp only [cond_false, Nat.add_sub_cancel]
  · rw [show pm_cmp .ne v 0 = true from decide_eq_true z] at hh
    rw [decide_eq_false z]
    simp only [cond_false]
    exact xg_95 hn hc ha x hh
theorem xg_24 (hn : n0 ≤ 80) (hc : cc ≤ 6) (hp : p < 600) (x : pX h n0 cc f) (hh : pm_run PT n fr lo 131 (24, [some (.ref 0), some (.int L1), some (.int (nI p)), some (.int L3), none, none, none, none, none], [], h, 198, sl) = some R) : R.1 = some (.int (xgA (cond (dg f (p + 1) (min n0 55)) (rgW f (min n0 55) cc (nbr f (min n0 55) 2 (p + 1) 0)) (false, p + 1)))) := by
  obtain ⟨⟨fs, a1, a2, a3⟩, -⟩ := id x
  obtain ⟨n, hh⟩ := rn_i rfl rfl rfl rfl hh
  obtain ⟨n, hh⟩ := rn_i rfl rfl rfl rfl hh
  obtain ⟨n, hh⟩ := rn_i rfl rfl rfl rfl hh
  obtain ⟨n, hh⟩ := rn_i rfl rfl rfl rfl hh
  obtain ⟨n, hh⟩ := rn_i rfl rfl rfl rfl hh
  obtain ⟨n, hh⟩ := rn_gfo (g := 0) rfl rfl (by decide) a1 a2 hh
  obtain ⟨n, hh⟩ := rn_i rfl rfl rfl rfl hh
  obtain ⟨n, hh⟩ := rn_i rfl rfl rfl rfl hh
  have e1 : nI p + Int32.ofInt 1 = nI (p + 1) := (Int32.ofNat_add p 1).symm
  have hh : pm_run PT n fr lo 131 (37, [some (.ref 0), some (.int L1), some (.int (nI p)), some (.int L3), some (.int (nI p + Int32.ofInt 1)), none, none, none, none], [.int (nI 55), .int (nI p + Int32.ofInt 1), .ref 1], h, 198, sl) = some R := hh
  rw [e1] at hh
  obtain ⟨n, fr', lo', r1, hr1, hh⟩ := rn_call (w := 0) (t := 81) rfl rfl hh
  have er := dgA_run (l := 55) hn (by decide) (by omega) x hr1
  subst er
  have hh : pm_run PT n fr lo 131 (40, [some (.ref 0), some (.int L1), some (.int (nI p)), some (.int L3), some (.int (nI (p + 1))), none, none, none, none], [.int (dgA f n0 (p + 1) 55)], h, 198, sl) = some R := hh
  obtain ⟨n, hh⟩ := rn_i rfl rfl rfl rfl hh
  obtain ⟨n, hh⟩ := rn_i rfl rfl rfl rfl hh
  obtain ⟨n, hh⟩ := rn_if (cc := .ge) (off := 8) (t := 52) rfl rfl hh
  cases hd : dg f (p + 1) (min n0 55) with
  | false =>
    rw [dgA_no hd, show pm_cmp .ge (Int32.ofInt (-1)) 0 = false by decide] at hh
    have hh : pm_run PT n fr lo 131 (47, [some (.ref 0), some (.int L1), some (.int (nI p)), some (.int L3), some (.int (nI (p + 1))), some (.int (Int32.ofInt (-1))), none, none, none], [], h, 198, sl) = some R := hh
    rw [xg_no rfl rfl rfl rfl hh]
    unfold xgA
    simp only [cond_false]
  | true =>
    obtain ⟨v1, v2⟩ := dg_val hd
    rw [dgA_yes hd, ge0_val v1] at hh
    simp only [cond_true]
    have en : nbr f (min n0 55) 2 (p + 1) 0 = nbr f (min n0 55) 1 (p + 2) (f (p + 1) - 48) := by
      rw [show nbr f (min n0 55) 2 (p + 1) 0 = nbr f (min n0 55) (1 + 1) (p + 1) 0 from rfl, nbr_gt _ hd]
      have ez : (10 * 0 + f (p + 1) - 48 : Int32) = f (p + 1) - 48 := by simp
      rw [ez]
    rw [en]
    have hh : pm_run PT n fr lo 131 (52, [some (.ref 0), some (.int L1), some (.int (nI p)), some (.int L3), some (.int (nI (p + 1))), some (.int (f (p + 1) - 48)), none, none, none], [], h, 198, sl) = some R := hh
    obtain ⟨n, hh⟩ := rn_i rfl rfl rfl rfl hh
    obtain ⟨n, hh⟩ := rn_gfo (g := 0) rfl rfl (by decide) a1 a2 hh
    obtain ⟨n, hh⟩ := rn_i rfl rfl rfl rfl hh
    obtain ⟨n, hh⟩ := rn_i rfl rfl rfl rfl hh
    obtain ⟨n, hh⟩ := rn_i rfl rfl rfl rfl hh
    obtain ⟨n, hh⟩ := rn_i rfl rfl rfl rfl hh
    have e2 : nI (p + 1) + Int32.ofInt 1 = nI (p + 2) := (Int32.ofNat_add (p + 1) 1).symm
    have hh : pm_run PT n fr lo 131 (62, [some (.ref 0), some (.int L1), some (.int (nI p)), some (.int L3), some (.int (nI (p + 1))), some (.int (f (p + 1) - 48)), none, none, none], [.int (nI 55), .int (nI (p + 1) + Int32.ofInt 1), .ref 1], h, 198, sl) = some R := hh
    rw [e2] at hh
    obtain ⟨n, fr', lo', r1, hr1, hh⟩ := rn_call (w := 0) (t := 81) rfl rfl hh
    have er := dgA_run (l := 55) hn (by decide) (by omega) x hr1
    subst er
    have hh : pm_run PT n fr lo 131 (65, [some (.ref 0), some (.int L1), some (.int (nI p)), some (.int L3), some (.int (nI (p + 1))), some (.int (f (p + 1) - 48)), none, none, none], [.int (dgA f n0 (p + 2) 55)], h, 198, sl) = some R := hh
    obtain ⟨n, hh⟩ := rn_i rfl rfl rfl rfl hh
    obtain ⟨n, hh⟩ := rn_i rfl rfl rfl rfl hh
    obtain ⟨n, hh⟩ := rn_if (cc := .lt) (off := 16) (t := 85) rfl rfl hh
    show R.1 = some (.int (xgA (rgW f (min n0 55) cc (nbr f (min n0 55) (0 + 1) (p + 2) (f (p + 1) - 48)))))
    cases he : dg f (p + 2) (min n0 55) with
    | false =>
      rw [dgA_no he, show pm_cmp .lt (Int32.ofInt (-1)) 0 = true by decide] at hh
      have eb : nbr f (min n0 55) (0 + 1) (p + 2) (f (p + 1) - 48) = (p + 1 + 1, f (p + 1) - 48) := by
        unfold nbr
        rw [he]
        rfl
      rw [eb]
      exact xg_85 hn hc (by omega) x hh
    | true =>
      obtain ⟨w1, w2⟩ := dg_val he
      rw [dgA_yes he, lt0_val w1] at hh
      have eb : nbr f (min n0 55) (0 + 1) (p + 2) (f (p + 1) - 48) = (p + 2 + 1, nI 10 * (f (p + 1) - 48) + (f (p + 2) - 48)) := by
        rw [nbr_gt _ he]
        show (p + 2 + 1, 10 * (f (p + 1) - 48) + f (p + 2) - 48) = _
        rw [Int32.sub_eq_add_neg (10 * (f (p + 1) - 48) + f (p + 2)), Int32.sub_eq_add_neg (f (p + 2)), Int32.add_assoc]
        rfl
      rw [eb]
      obtain ⟨n, hh⟩ := rn_i rfl rfl rfl rfl hh
      obtain ⟨n, hh⟩ := rn_i rfl rfl rfl rfl hh
      obtain ⟨n, hh⟩ := rn_i rfl rfl rfl rfl hh
      obtain ⟨n, hh⟩ := rn_i rfl rfl rfl rfl hh
      obtain ⟨n, hh⟩ := rn_i rfl rfl rfl rfl hh
      obtain ⟨n, hh⟩ := rn_i rfl rfl rfl rfl hh
      obtain ⟨n, hh⟩ := rn_i rfl rfl rfl rfl hh
      have e3 : nI (p + 1) + Int32.ofInt 1 = nI (p + 2) := (Int32.ofNat_add (p + 1) 1).symm
      have hh : pm_run PT n fr lo 131 (85, [some (.ref 0), some (.int L1), some (.int (nI p)), some (.int L3), some (.int (nI (p + 1) + Int32.ofInt 1)), some (.int (nI 10 * (f (p + 1) - 48) + (f (p + 2) - 48))), some (.int (f (p + 2) - 48)), none, none], [], h, 198, sl) = some R := hh
      rw [e3] at hh
      exact xg_85 hn hc (by omega) x hh
theorem xg_run {gi : Int32} (hn : n0 ≤ 80) (hc : cc ≤ 6) (hp : p < 600) (x : pX h n0 cc f) (hh : pm_run PT n fr lo 131 (0, pm_l0 [.ref 0, .int gi, .int (nI p)] 9, [], h, 198, sl) = some R) : R.1 = some (.int (xgA (rgL f (min n0 55) cc p))) := by
  obtain ⟨⟨fs, a1, a2, a3⟩, -⟩ := id x
  obtain ⟨n, hh⟩ := rn_i rfl rfl rfl rfl hh
  obtain ⟨n, hh⟩ := rn_gfo (g := 0) rfl rfl (by decide) a1 a2 hh
  obtain ⟨n, hh⟩ := rn_i rfl rfl rfl rfl hh
  obtain ⟨n, hh⟩ := rn_i rfl rfl rfl rfl hh
  obtain ⟨n, fr', lo', r1, hr1, hh⟩ := rn_call (w := 0) (t := 81) rfl rfl hh
  have er := dgA_run (l := 55) hn (by decide) (by omega) x hr1
  subst er
  have hh : pm_run PT n fr lo 131 (10, [some (.ref 0), some (.int gi), some (.int (nI p)), none, none, none, none, none, none], [.int (dgA f n0 p 55)], h, 198, sl) = some R := hh
  have no : ∀ (n : Nat) (y : Int32), pm_run PT n fr lo 131 (20, [some (.ref 0), some (.int gi), some (.int (nI p)), some (.int y), none, none, none, none, none], [], h, 198, sl) = some R → R.1 = some (.int (xgA (false, p))) := by
    intro n y hh
    obtain ⟨n, hh⟩ := rn_i rfl rfl rfl rfl hh
    obtain ⟨n, hh⟩ := rn_i rfl rfl rfl rfl hh
    obtain ⟨n, hh⟩ := rn_i rfl rfl rfl rfl hh
    have e := (rn_ret rfl (Or.inl rfl) hh).2
    rw [e]
    unfold xgA
    simp only [cond_false]
  obtain ⟨n, hh⟩ := rn_i rfl rfl rfl rfl hh
  obtain ⟨n, hh⟩ := rn_i rfl rfl rfl rfl hh
  obtain ⟨n, hh⟩ := rn_if (cc := .lt) (off := 8) (t := 20) rfl rfl hh
  unfold rgL
  rw [dgi_rng (c := 5) (by decide) (by decide)]
  cases hd : dg f p (min n0 55) with
  | false =>
    rw [dgA_no hd, show pm_cmp .lt (Int32.ofInt (-1)) 0 = true by decide] at hh
    simp only [Bool.false_and, cond_false]
    exact no n _ hh
  | true =>
    obtain ⟨v1, v2⟩ := dg_val hd
    rw [dgA_yes hd, lt0_val v1] at hh
    have hh : pm_run PT n fr lo 131 (15, [some (.ref 0), some (.int gi), some (.int (nI p)), some (.int (f p - 48)), none, none, none, none, none], [], h, 198, sl) = some R := hh
    obtain ⟨n, hh⟩ := rn_i rfl rfl rfl rfl hh
    obtain ⟨n, hh⟩ := rn_i rfl rfl rfl rfl hh
    obtain ⟨n, hh⟩ := rn_icmp (cc := .lt) (off := 7) (t := 24) rfl rfl hh
    have el : pm_cmp .lt (f p - 48) (Int32.ofInt 5) = decide ((f p - 48).toInt < ((5 : Nat) : Int)) := by
      simp only [pm_cmp]
      rw [Bool.eq_iff_iff, decide_eq_true_iff, decide_eq_true_iff, Int32.lt_iff_toInt_lt, show (Int32.ofInt 5).toInt = ((5 : Nat) : Int) by decide]
    rw [el] at hh
    rw [Bool.true_and]
    cases y : decide ((f p - 48).toInt < ((5 : Nat) : Int)) with
    | false =>
      rw [y] at hh
      simp only [cond_false]
      exact no n _ hh
    | true =>
      rw [y] at hh
      simp only [cond_true]
      exact xg_24 hn hc hp x hh
end GXS
end MG95zgx4
