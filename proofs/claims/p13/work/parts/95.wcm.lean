/-! the reference's courts: what it reads, what it answers -/
section CMM
variable {n fr lo F Lo sl k pc t cc a rm : Nat} {h : pm_H} {tp : Nat → Int32} {R r : pm_Rs} {Q : pm_Rs → Prop} {st : pm_St}
theorem rn_dt (q : pm_WP PT F Lo k st Q) (hh : pm_run PT n fr lo k st = some r) : Q r := by
  obtain ⟨m, r', e, hq⟩ := q
  have a1 := pm_run_le (Nat.le_max_left m n) (pm_run_room m F Lo (max F fr) (max Lo lo) k st r' (Nat.le_max_left _ _) (Nat.le_max_left _ _) e)
  have a2 := pm_run_le (Nat.le_max_right m n) (pm_run_room n fr lo (max F fr) (max Lo lo) k st r (Nat.le_max_right _ _) (Nat.le_max_right _ _) hh)
  rw [a1] at a2
  cases a2
  exact hq
/-- the state of the reader -/
def pR (h : pm_H) (tp : Nat → Int32) (t cc a rm : Nat) : Prop := (mF h 16 (.int (nI a)) ∧ mF h 17 (.int (nI t)) ∧ mF h 14 (.ref 172) ∧ h 172 = .inl (0, 80, .inl tp)) ∧ mF h 20 (.int (nI rm)) ∧ mF h 3 (.int (nI cc)) ∧ mF h 19 (.ref 173) ∧ ∃ f, h 173 = .inl (0, 36, .inl f)
theorem pR_16 {b : Nat} (p : pR h tp t cc a rm) : pR (mset h 16 (.int (nI b))) tp t cc b rm := by
  obtain ⟨⟨p1, p2, p3, p4⟩, p5, p6, p7, f, p8⟩ := p
  exact ⟨⟨mF_self p1, mF_ne (by decide) p2, mF_ne (by decide) p3, mset_arr (by decide) p4⟩, mF_ne (by decide) p5, mF_ne (by decide) p6, mF_ne (by decide) p7, f, mset_arr (by decide) p8⟩
theorem pR_20 {b : Nat} (p : pR h tp t cc a rm) : pR (mset h 20 (.int (nI b))) tp t cc a b := by
  obtain ⟨⟨p1, p2, p3, p4⟩, p5, p6, p7, f, p8⟩ := p
  exact ⟨⟨mF_ne (by decide) p1, mF_ne (by decide) p2, mF_ne (by decide) p3, mset_arr (by decide) p4⟩, mF_self p5, mF_ne (by decide) p6, mF_ne (by decide) p7, f, mset_arr (by decide) p8⟩
theorem aset_mF {b m g : Nat} {e : Nat → Int32} {v : Value} (hn : b ≠ 162) (q : mF h g v) : mF (aset h b m e) g v := by
  obtain ⟨fs, e1, e2⟩ := q
  exact ⟨fs, by unfold aset; simp [va_up, Ne.symm hn, e1], e2⟩
theorem asR_ne {b m i : Nat} {e : Nat → Int32} (hn : i ≠ b) : aset h b m e i = h i := by
  unfold aset
  simp [va_up, hn]
theorem asR_self {b m : Nat} {e : Nat → Int32} : aset h b m e b = .inl (0, m, .inl e) := by
  unfold aset
  simp [va_up]
theorem pR_rd {e : Nat → Int32} (p : pR h tp t cc a rm) : pR (aset h 173 36 e) tp t cc a rm := by
  obtain ⟨⟨p1, p2, p3, p4⟩, p5, p6, p7, f, p8⟩ := p
  exact ⟨⟨aset_mF (by decide) p1, aset_mF (by decide) p2, aset_mF (by decide) p3, (asR_ne (by decide)).trans p4⟩, aset_mF (by decide) p5, aset_mF (by decide) p6, aset_mF (by decide) p7, e, asR_self⟩
/-- so many digits from a on: all there, and where it ends -/
def rcD (tp : Nat → Int32) (t : Nat) : Nat → Nat → Bool × Nat
  | 0, a => (true, a)
  | k + 1, a => cond (dg tp a t) (rcD tp t k (a + 1)) (false, a)
def rcC (tp : Nat → Int32) (t a : Nat) : Bool × Nat := cond (dgi tp a t 1 9) (rcD tp t 5 (a + 1)) (false, a)
theorem dg_val (q : dg tp a t = true) : 0 ≤ (tp a - 48).toInt ∧ (tp a - 48).toInt ≤ 9 := by
  obtain ⟨-, h1, h2⟩ := dg_iv q
  have e : (tp a - 48).toInt = (tp a).toInt - 48 := by
    rw [Int32.toInt_sub, show (48 : Int32).toInt = 48 by decide]
    exact Int.bmod_eq_of_le (by omega) (by omega)
  omega
theorem lt0_val {x : Int32} (q : 0 ≤ x.toInt) : pm_cmp .lt x 0 = false := by
  refine decide_eq_false (fun z => ?_)
  rw [Int32.lt_iff_toInt_lt, show (0 : Int32).toInt = 0 by decide] at z
  omega
theorem lt0_m1 : pm_cmp .lt (-1 : Int32) 0 = true := by decide
theorem rc_loop (ht : t ≤ 80) : ∀ (k i a n : Nat) (b : Bool) (h : pm_H), i + k = 5 → a < 100 → rm < 6 → pR h tp t cc a rm → pm_run PT n fr lo 187 (54, [some (.ref 162), some (.int (nI (6 * rm))), some (.int (cond b 1 0)), some (.int (nI i))], [], h, 198, sl) = some R → R.1 = some (.int (cond (cond b (rcD tp t k a) (false, a)).1 1 0)) ∧ pR R.2.1 tp t cc (cond b (rcD tp t k a) (false, a)).2 (rm + 1) ∧ R.2.2 = (198, sl) := by
  have fin : ∀ (i a n : Nat) (b : Bool) (h : pm_H), pR h tp t cc a rm → pm_run PT n fr lo 187 (103, [some (.ref 162), some (.int (nI (6 * rm))), some (.int (cond b 1 0)), some (.int (nI i))], [], h, 198, sl) = some R → R.1 = some (.int (cond b 1 0)) ∧ pR R.2.1 tp t cc a (rm + 1) ∧ R.2.2 = (198, sl) := by
    intro i a n b h p hh
    obtain ⟨n, hh⟩ := rn_i rfl rfl rfl rfl hh
    obtain ⟨n, hh⟩ := rn_i rfl rfl rfl rfl hh
    obtain ⟨n, hh⟩ := rn_gfm rfl rfl p.2.1 hh
    obtain ⟨n, hh⟩ := rn_i rfl rfl rfl rfl hh
    obtain ⟨n, hh⟩ := rn_i rfl rfl rfl rfl hh
    obtain ⟨n, hh⟩ := rn_pfm (w := .int (nI rm)) rfl rfl rfl (by decide) p.2.1 hh
    obtain ⟨n, hh⟩ := rn_i rfl rfl rfl rfl hh
    obtain ⟨-, rfl⟩ := rn_ret rfl (Or.inr rfl) hh
    have e : nI rm + Int32.ofInt 1 = nI (rm + 1) := (Int32.ofNat_add rm 1).symm
    refine ⟨rfl, ?_, rfl⟩
    show pR (mset h 20 (.int (nI rm + Int32.ofInt 1))) tp t cc a (rm + 1)
    rw [e]
    exact pR_20 p
  intro k
  induction k with
  | zero =>
    intro i a n b h hi ha hrm p hh
    have hi : i = 5 := by omega
    subst hi
    obtain ⟨n, hh⟩ := rn_i rfl rfl rfl rfl hh
    obtain ⟨n, hh⟩ := rn_i rfl rfl rfl rfl hh
    obtain ⟨n, hh⟩ := rn_icmp (cc := .ge) (off := 47) (t := 103) rfl rfl hh
    have hh : pm_run PT n fr lo 187 (103, [some (.ref 162), some (.int (nI (6 * rm))), some (.int (cond b 1 0)), some (.int (nI 5))], [], h, 198, sl) = some R := hh
    obtain ⟨e1, e2, e3⟩ := fin 5 a n b h p hh
    cases b
    · exact ⟨e1, e2, e3⟩
    · exact ⟨e1, e2, e3⟩
  | succ k ih =>
    intro i a n b h hi ha hrm p hh
    obtain ⟨n, hh⟩ := rn_i rfl rfl rfl rfl hh
    obtain ⟨n, hh⟩ := rn_i rfl rfl rfl rfl hh
    obtain ⟨n, hh⟩ := rn_icmp (cc := .ge) (off := 47) (t := 103) rfl rfl hh
    have ec : pm_cmp .ge (nI i) (Int32.ofInt 5) = false := by
      have := hI_ge (a := i) (b := 5) (by omega) (by omega)
      rw [decide_eq_false (by omega)] at this
      exact this
    rw [ec] at hh
    obtain ⟨n, hh⟩ := rn_i rfl rfl rfl rfl hh
    obtain ⟨n, hh⟩ := rn_if (cc := .eq) (off := 43) (t := 103) rfl rfl hh
    cases b with
    | false =>
      have hh : pm_run PT n fr lo 187 (103, [some (.ref 162), some (.int (nI (6 * rm))), some (.int (cond false 1 0)), some (.int (nI i))], [], h, 198, sl) = some R := hh
      exact fin i a n false h p hh
    | true =>
      have hh : pm_run PT n fr lo 187 (63, [some (.ref 162), some (.int (nI (6 * rm))), some (.int 1), some (.int (nI i))], [], h, 198, sl) = some R := hh
      obtain ⟨⟨q1, q2, q3, q4⟩, q5, q6, q7, f, q8⟩ := id p
      obtain ⟨n, hh⟩ := rn_i rfl rfl rfl rfl hh
      obtain ⟨n, hh⟩ := rn_gfm rfl rfl q7 hh
      obtain ⟨n, hh⟩ := rn_i rfl rfl rfl rfl hh
      obtain ⟨n, hh⟩ := rn_i rfl rfl rfl rfl hh
      obtain ⟨n, hh⟩ := rn_i rfl rfl rfl rfl hh
      obtain ⟨n, hh⟩ := rn_i rfl rfl rfl rfl hh
      obtain ⟨n, hh⟩ := rn_i rfl rfl rfl rfl hh
      obtain ⟨n, hh⟩ := rn_i rfl rfl rfl rfl hh
      obtain ⟨n, hh⟩ := rn_i rfl rfl rfl rfl hh
      obtain ⟨n, fr', lo', r1, hr1, hh⟩ := rn_call (w := 0) (t := 184) rfl rfl hh
      have er := rn_dt (F := 10) (Lo := 1000) (hd_number (fr := 10) (lo := 1000) (sl := sl) q1 q2 q3 q4 ht (by omega) (by decide) (by decide) (d := 1) (by decide)) hr1
      have ei : nI (6 * rm) + Int32.ofInt 1 + nI i = nI (6 * rm + 1 + i) := by
        rw [show nI (6 * rm) + Int32.ofInt 1 = nI (6 * rm + 1) from (Int32.ofNat_add (6 * rm) 1).symm]
        exact (Int32.ofNat_add (6 * rm + 1) i).symm
      have hin : pm_in (nI (6 * rm + 1 + i)) 36 = true := hI_in (by omega) (by decide)
      cases hd : dg tp a t with
      | false =>
        rw [hd] at er
        dsimp only [cond] at er
        subst er
        have hh : pm_run PT n fr lo 187 (77, [some (.ref 162), some (.int (nI (6 * rm))), some (.int 1), some (.int (nI i))], [.int (-1), .int (nI (6 * rm) + Int32.ofInt 1 + nI i), .ref 173], h, 198, sl) = some R := hh
        rw [ei] at hh
        obtain ⟨n, hh⟩ := rn_ism rfl q8 hin (by decide) hh
        have p' := pR_rd (e := upd f (nI (6 * rm + 1 + i)).toNatClampNeg (-1)) p
        obtain ⟨n, hh⟩ := rn_i rfl rfl rfl rfl hh
        obtain ⟨n, hh⟩ := rn_gfm rfl rfl p'.2.2.2.1 hh
        obtain ⟨n, hh⟩ := rn_i rfl rfl rfl rfl hh
        obtain ⟨n, hh⟩ := rn_i rfl rfl rfl rfl hh
        obtain ⟨n, hh⟩ := rn_i rfl rfl rfl rfl hh
        obtain ⟨n, hh⟩ := rn_i rfl rfl rfl rfl hh
        obtain ⟨n, hh⟩ := rn_i rfl rfl rfl rfl hh
        have hh : pm_run PT n fr lo 187 (87, [some (.ref 162), some (.int (nI (6 * rm))), some (.int 1), some (.int (nI i))], [.int (nI (6 * rm) + Int32.ofInt 1 + nI i), .ref 173], _, 198, sl) = some R := hh
        rw [ei] at hh
        obtain ⟨n, hh⟩ := rn_iam rfl asR_self hin (by decide) hh
        have eu : upd f (nI (6 * rm + 1 + i)).toNatClampNeg (-1) (nI (6 * rm + 1 + i)).toNatClampNeg = (-1 : Int32) := by simp [upd]
        rw [eu] at hh
        obtain ⟨n, hh⟩ := rn_if (cc := .lt) (off := 7) (t := 95) rfl rfl hh
        rw [lt0_m1] at hh
        obtain ⟨n, hh⟩ := rn_i rfl rfl rfl rfl hh
        obtain ⟨n, hh⟩ := rn_i rfl rfl rfl rfl hh
        obtain ⟨n, hh⟩ := rn_i rfl rfl rfl rfl hh
        obtain ⟨n, hh⟩ := rn_i rfl rfl rfl rfl hh
        have e1 : nI i + Int32.ofInt 1 = nI (i + 1) := (Int32.ofNat_add i 1).symm
        have hh : pm_run PT n fr lo 187 (54, [some (.ref 162), some (.int (nI (6 * rm))), some (.int (cond false 1 0)), some (.int (nI i + Int32.ofInt 1))], [], aset h 173 36 (upd f (nI (6 * rm + 1 + i)).toNatClampNeg (-1)), 198, sl) = some R := hh
        rw [e1] at hh
        have hr := ih (i + 1) a n false _ (by omega) ha hrm p' hh
        show R.1 = some (.int (cond (rcD tp t (k + 1) a).1 1 0)) ∧ pR R.2.1 tp t cc (rcD tp t (k + 1) a).2 (rm + 1) ∧ R.2.2 = (198, sl)
        unfold rcD
        rw [hd]
        exact hr
      | true =>
        rw [hd] at er
        dsimp only [cond] at er
        subst er
        have en : nbr tp t 1 a 0 = (a + 1, 10 * 0 + tp a - 48) := by
          show nbr tp t (0 + 1) a 0 = _
          rw [nbr_gt t hd]
          rfl
        have ev : (10 * 0 + tp a - 48 : Int32) = tp a - 48 := by simp
        rw [en, ev] at hh
        obtain ⟨v1, v2⟩ := dg_val hd
        have p0 : pR (mset h 16 (.int (nI (a + 1)))) tp t cc (a + 1) rm := pR_16 p
        have hh : pm_run PT n fr lo 187 (77, [some (.ref 162), some (.int (nI (6 * rm))), some (.int 1), some (.int (nI i))], [.int (tp a - 48), .int (nI (6 * rm) + Int32.ofInt 1 + nI i), .ref 173], mset h 16 (.int (nI (a + 1))), 198, sl) = some R := hh
        rw [ei] at hh
        obtain ⟨f0, q80⟩ := p0.2.2.2.2
        obtain ⟨n, hh⟩ := rn_ism rfl q80 hin (by decide) hh
        have p' := pR_rd (e := upd f0 (nI (6 * rm + 1 + i)).toNatClampNeg (tp a - 48)) p0
        obtain ⟨n, hh⟩ := rn_i rfl rfl rfl rfl hh
        obtain ⟨n, hh⟩ := rn_gfm rfl rfl p'.2.2.2.1 hh
        obtain ⟨n, hh⟩ := rn_i rfl rfl rfl rfl hh
        obtain ⟨n, hh⟩ := rn_i rfl rfl rfl rfl hh
        obtain ⟨n, hh⟩ := rn_i rfl rfl rfl rfl hh
        obtain ⟨n, hh⟩ := rn_i rfl rfl rfl rfl hh
        obtain ⟨n, hh⟩ := rn_i rfl rfl rfl rfl hh
        have hh : pm_run PT n fr lo 187 (87, [some (.ref 162), some (.int (nI (6 * rm))), some (.int 1), some (.int (nI i))], [.int (nI (6 * rm) + Int32.ofInt 1 + nI i), .ref 173], _, 198, sl) = some R := hh
        rw [ei] at hh
        obtain ⟨n, hh⟩ := rn_iam rfl asR_self hin (by decide) hh
        have eu : upd f0 (nI (6 * rm + 1 + i)).toNatClampNeg (tp a - 48) (nI (6 * rm + 1 + i)).toNatClampNeg = tp a - 48 := by simp [upd]
        rw [eu] at hh
        obtain ⟨n, hh⟩ := rn_if (cc := .lt) (off := 7) (t := 95) rfl rfl hh
        rw [lt0_val v1] at hh
        obtain ⟨n, hh⟩ := rn_i rfl rfl rfl rfl hh
        obtain ⟨n, hh⟩ := rn_i rfl rfl rfl rfl hh
        obtain ⟨n, hh⟩ := rn_i rfl rfl rfl rfl hh
        obtain ⟨n, hh⟩ := rn_i rfl rfl rfl rfl hh
        obtain ⟨n, hh⟩ := rn_i rfl rfl rfl rfl hh
        have e1 : nI i + Int32.ofInt 1 = nI (i + 1) := (Int32.ofNat_add i 1).symm
        have hh : pm_run PT n fr lo 187 (54, [some (.ref 162), some (.int (nI (6 * rm))), some (.int (cond true 1 0)), some (.int (nI i + Int32.ofInt 1))], [], aset (mset h 16 (.int (nI (a + 1)))) 173 36 (upd f0 (nI (6 * rm + 1 + i)).toNatClampNeg (tp a - 48)), 198, sl) = some R := hh
        rw [e1] at hh
        have hat : a < t := dg_lt hd
        have hr := ih (i + 1) (a + 1) n true _ (by omega) (by omega) hrm p' hh
        show R.1 = some (.int (cond (rcD tp t (k + 1) a).1 1 0)) ∧ pR R.2.1 tp t cc (rcD tp t (k + 1) a).2 (rm + 1) ∧ R.2.2 = (198, sl)
        unfold rcD
        rw [hd]
        exact hr
theorem dgi_val (q : dgi tp a t 1 9 = true) : a < t ∧ 0 ≤ (tp a - 48).toInt := by
  unfold dgi in_b at q
  rw [Bool.and_eq_true, Bool.and_eq_true] at q
  refine ⟨of_decide_eq_true q.1, ?_⟩
  have e1 : ¬ (tp a - 48).toInt64 < (1 : Int32).toInt64 := by simpa using q.2.1
  rw [Int64.lt_iff_toInt_lt, Int32.toInt_toInt64, Int32.toInt_toInt64, show (1 : Int32).toInt = 1 by decide] at e1
  omega
theorem rcD_le : ∀ (k a : Nat), a ≤ t → (rcD tp t k a).2 ≤ t
  | 0, a, h => h
  | k + 1, a, h => by
    unfold rcD
    cases hd : dg tp a t with
    | true => exact rcD_le k (a + 1) (dg_lt hd)
    | false => exact h
theorem rcC_le (ha : a ≤ t) : (rcC tp t a).2 ≤ t := by
  unfold rcC
  cases hd : dgi tp a t 1 9 with
  | true => exact rcD_le 5 (a + 1) (dgi_val hd).1
  | false => exact ha
theorem rc_reads (ht : t ≤ 80) (ha : a < 99) (hcr : cc + rm ≤ 6) (p : pR h tp t cc a rm) (hh : pm_run PT n fr lo 187 (0, pm_l0 [.ref 162] 4, [], h, 198, sl) = some R) : R.1 = some (.int (cond (cond (decide (cc + rm = 6)) (false, a) (rcC tp t a)).1 1 0)) ∧ pR R.2.1 tp t cc (cond (decide (cc + rm = 6)) (false, a) (rcC tp t a)).2 (cond (decide (cc + rm = 6)) rm (rm + 1)) ∧ R.2.2 = (198, sl) := by
  obtain ⟨⟨q1, q2, q3, q4⟩, q5, q6, q7, f, q8⟩ := id p
  obtain ⟨n, hh⟩ := rn_i rfl rfl rfl rfl hh
  obtain ⟨n, hh⟩ := rn_gfm rfl rfl q6 hh
  obtain ⟨n, hh⟩ := rn_i rfl rfl rfl rfl hh
  obtain ⟨n, hh⟩ := rn_gfm rfl rfl q5 hh
  obtain ⟨n, hh⟩ := rn_i rfl rfl rfl rfl hh
  obtain ⟨n, hh⟩ := rn_i rfl rfl rfl rfl hh
  obtain ⟨n, hh⟩ := rn_icmp (cc := .ne) (off := 5) (t := 16) rfl rfl hh
  have ec : pm_cmp .ne ((fun x y => x + y) (nI cc) (nI rm)) (Int8.ofInt 6).toInt32 = decide (¬ (cc + rm = 6)) := by
    show pm_cmp .ne (nI cc + nI rm) (nI 6) = _
    rw [nI_add]
    exact hI_ne (by omega) (by omega)
  rw [ec] at hh
  by_cases z : cc + rm = 6
  · rw [decide_eq_false (fun q => q z)] at hh
    rw [decide_eq_true z]
    obtain ⟨n, hh⟩ := rn_i rfl rfl rfl rfl hh
    obtain ⟨-, rfl⟩ := rn_ret rfl (Or.inr rfl) hh
    exact ⟨rfl, p, rfl⟩
  · rw [decide_eq_true z] at hh
    rw [decide_eq_false z]
    have hh : pm_run PT n fr lo 187 (16, [some (.ref 162), none, none, none], [], h, 198, sl) = some R := hh
    obtain ⟨n, hh⟩ := rn_i rfl rfl rfl rfl hh
    obtain ⟨n, hh⟩ := rn_i rfl rfl rfl rfl hh
    obtain ⟨n, hh⟩ := rn_gfm rfl rfl q5 hh
    obtain ⟨n, hh⟩ := rn_i rfl rfl rfl rfl hh
    obtain ⟨n, hh⟩ := rn_i rfl rfl rfl rfl hh
    have e6 : (Int8.ofInt 6).toInt32 * nI rm = nI (6 * rm) := hI_mul 6 rm
    have hh : pm_run PT n fr lo 187 (24, [some (.ref 162), some (.int ((Int8.ofInt 6).toInt32 * nI rm)), none, none], [], h, 198, sl) = some R := hh
    rw [e6] at hh
    obtain ⟨n, hh⟩ := rn_i rfl rfl rfl rfl hh
    obtain ⟨n, hh⟩ := rn_gfm rfl rfl q7 hh
    obtain ⟨n, hh⟩ := rn_i rfl rfl rfl rfl hh
    obtain ⟨n, hh⟩ := rn_i rfl rfl rfl rfl hh
    obtain ⟨n, hh⟩ := rn_i rfl rfl rfl rfl hh
    obtain ⟨n, hh⟩ := rn_i rfl rfl rfl rfl hh
    obtain ⟨n, fr', lo', r1, hr1, hh⟩ := rn_call (w := 0) (t := 185) rfl rfl hh
    have er := rn_dt (F := 10) (Lo := 1000) (hd_digitIn (fr := 10) (lo := 1000) (sl := sl) q1 q2 q3 q4 ht (by omega) (by decide) (by decide) 1 9) hr1
    have hin : pm_in (nI (6 * rm)) 36 = true := hI_in (by omega) (by decide)
    cases hd : dgi tp a t 1 9 with
    | false =>
      rw [hd] at er
      dsimp only [cond] at er
      subst er
      have hh : pm_run PT n fr lo 187 (36, [some (.ref 162), some (.int (nI (6 * rm))), none, none], [.int (-1), .int (nI (6 * rm)), .ref 173], h, 198, sl) = some R := hh
      obtain ⟨n, hh⟩ := rn_ism rfl q8 hin (by decide) hh
      have p' := pR_rd (e := upd f (nI (6 * rm)).toNatClampNeg (-1)) p
      obtain ⟨n, hh⟩ := rn_i rfl rfl rfl rfl hh
      obtain ⟨n, hh⟩ := rn_gfm rfl rfl p'.2.2.2.1 hh
      obtain ⟨n, hh⟩ := rn_i rfl rfl rfl rfl hh
      obtain ⟨n, hh⟩ := rn_iam rfl asR_self hin (by decide) hh
      have eu : upd f (nI (6 * rm)).toNatClampNeg (-1) (nI (6 * rm)).toNatClampNeg = (-1 : Int32) := by simp [upd]
      rw [eu] at hh
      obtain ⟨n, hh⟩ := rn_if (cc := .lt) (off := 7) (t := 50) rfl rfl hh
      rw [lt0_m1] at hh
      obtain ⟨n, hh⟩ := rn_i rfl rfl rfl rfl hh
      obtain ⟨n, hh⟩ := rn_i rfl rfl rfl rfl hh
      obtain ⟨n, hh⟩ := rn_i rfl rfl rfl rfl hh
      obtain ⟨n, hh⟩ := rn_i rfl rfl rfl rfl hh
      have hh : pm_run PT n fr lo 187 (54, [some (.ref 162), some (.int (nI (6 * rm))), some (.int (cond false 1 0)), some (.int (nI 0))], [], aset h 173 36 (upd f (nI (6 * rm)).toNatClampNeg (-1)), 198, sl) = some R := hh
      have hr := rc_loop ht 5 0 a n false _ rfl (by omega) (by omega) p' hh
      show R.1 = some (.int (cond (rcC tp t a).1 1 0)) ∧ pR R.2.1 tp t cc (rcC tp t a).2 (rm + 1) ∧ R.2.2 = (198, sl)
      unfold rcC
      rw [hd]
      exact hr
    | true =>
      rw [hd] at er
      dsimp only [cond] at er
      subst er
      obtain ⟨v0, v1⟩ := dgi_val hd
      have p0 : pR (mset h 16 (.int (nI (a + 1)))) tp t cc (a + 1) rm := pR_16 p
      have hh : pm_run PT n fr lo 187 (36, [some (.ref 162), some (.int (nI (6 * rm))), none, none], [.int (tp a - 48), .int (nI (6 * rm)), .ref 173], mset h 16 (.int (nI (a + 1))), 198, sl) = some R := hh
      obtain ⟨f0, q80⟩ := p0.2.2.2.2
      obtain ⟨n, hh⟩ := rn_ism rfl q80 hin (by decide) hh
      have p' := pR_rd (e := upd f0 (nI (6 * rm)).toNatClampNeg (tp a - 48)) p0
      obtain ⟨n, hh⟩ := rn_i rfl rfl rfl rfl hh
      obtain ⟨n, hh⟩ := rn_gfm rfl rfl p'.2.2.2.1 hh
      obtain ⟨n, hh⟩ := rn_i rfl rfl rfl rfl hh
      obtain ⟨n, hh⟩ := rn_iam rfl asR_self hin (by decide) hh
      have eu : upd f0 (nI (6 * rm)).toNatClampNeg (tp a - 48) (nI (6 * rm)).toNatClampNeg = tp a - 48 := by simp [upd]
      rw [eu] at hh
      obtain ⟨n, hh⟩ := rn_if (cc := .lt) (off := 7) (t := 50) rfl rfl hh
      rw [lt0_val v1] at hh
      obtain ⟨n, hh⟩ := rn_i rfl rfl rfl rfl hh
      obtain ⟨n, hh⟩ := rn_i rfl rfl rfl rfl hh
      obtain ⟨n, hh⟩ := rn_i rfl rfl rfl rfl hh
      obtain ⟨n, hh⟩ := rn_i rfl rfl rfl rfl hh
      obtain ⟨n, hh⟩ := rn_i rfl rfl rfl rfl hh
      have hh : pm_run PT n fr lo 187 (54, [some (.ref 162), some (.int (nI (6 * rm))), some (.int (cond true 1 0)), some (.int (nI 0))], [], aset (mset h 16 (.int (nI (a + 1)))) 173 36 (upd f0 (nI (6 * rm)).toNatClampNeg (tp a - 48)), 198, sl) = some R := hh
      have hr := rc_loop ht 5 0 (a + 1) n true _ rfl (by omega) (by omega) p' hh
      show R.1 = some (.int (cond (rcC tp t a).1 1 0)) ∧ pR R.2.1 tp t cc (rcC tp t a).2 (rm + 1) ∧ R.2.2 = (198, sl)
      unfold rcC
      rw [hd]
      exact hr
/-- all LINES: did the last one stand, where it ends, how many were begun -/
def spL (tp : Nat → Int32) (t cc : Nat) : Nat → Nat → Nat → Bool × Nat × Nat
  | 0, rm, a => (false, a, rm)
  | k + 1, rm, a => cond (decide (cc + rm = 6)) (false, a, rm) (cond (rcC tp t a).1 (cond (decide ((rcC tp t a).2 < t ∧ tp (rcC tp t a).2 = 59)) (spL tp t cc k (rm + 1) ((rcC tp t a).2 + 1)) (true, (rcC tp t a).2, rm + 1)) (false, (rcC tp t a).2, rm + 1))
theorem cm_loop (ht : t ≤ 80) {n0 : Int32} : ∀ (k rm a n : Nat) (h : pm_H), cc + rm + k = 7 → 0 < k → a ≤ t → pR h tp t cc a rm → pm_run PT n fr lo 188 (29, [some (.ref 162), some (.int n0), some (.int 1), some (.int 1), none, none, none], [], h, 198, sl) = some R → ∃ m h', pm_run PT m fr lo 188 (60, [some (.ref 162), some (.int n0), some (.int (cond (spL tp t cc k rm a).1 1 0)), some (.int 0), none, none, none], [], h', 198, sl) = some R ∧ pR h' tp t cc (spL tp t cc k rm a).2.1 (spL tp t cc k rm a).2.2 := by
  have out : ∀ (n : Nat) (b : Int32) (h : pm_H), pm_run PT n fr lo 188 (29, [some (.ref 162), some (.int n0), some (.int b), some (.int 0), none, none, none], [], h, 198, sl) = some R → ∃ m, pm_run PT m fr lo 188 (60, [some (.ref 162), some (.int n0), some (.int b), some (.int 0), none, none, none], [], h, 198, sl) = some R := by
    intro n b h hh
    obtain ⟨n, hh⟩ := rn_i rfl rfl rfl rfl hh
    obtain ⟨n, hh⟩ := rn_if (cc := .eq) (off := 30) (t := 60) rfl rfl hh
    exact ⟨n, hh⟩
  intro k
  induction k with
  | zero => intro rm a n h hk h0; exact absurd h0 (by omega)
  | succ k ih =>
    intro rm a n h hk h0 ha p hh
    obtain ⟨n, hh⟩ := rn_i rfl rfl rfl rfl hh
    obtain ⟨n, hh⟩ := rn_if (cc := .eq) (off := 30) (t := 60) rfl rfl hh
    have hh : pm_run PT n fr lo 188 (33, [some (.ref 162), some (.int n0), some (.int 1), some (.int 1), none, none, none], [], h, 198, sl) = some R := hh
    obtain ⟨n, hh⟩ := rn_i rfl rfl rfl rfl hh
    obtain ⟨n, fr', lo', r1, hr1, hh⟩ := rn_call (w := 0) (t := 187) rfl rfl hh
    obtain ⟨e1, e2, e3⟩ := rc_reads ht (by omega) (by omega) p hr1
    obtain ⟨rv, h1, s1⟩ := r1
    dsimp only at e1 e2 e3
    subst e1
    subst e3
    show ∃ m h', pm_run PT m fr lo 188 (60, [some (.ref 162), some (.int n0), some (.int (cond (spL tp t cc (k + 1) rm a).1 1 0)), some (.int 0), none, none, none], [], h', 198, sl) = some R ∧ pR h' tp t cc (spL tp t cc (k + 1) rm a).2.1 (spL tp t cc (k + 1) rm a).2.2
    unfold spL
    cases z : decide (cc + rm = 6) with
    | true =>
      rw [z] at e2 hh
      have hh : pm_run PT n fr lo 188 (37, [some (.ref 162), some (.int n0), some (.int 1), some (.int 1), none, none, none], [.int 0], h1, 198, sl) = some R := hh
      obtain ⟨n, hh⟩ := rn_i rfl rfl rfl rfl hh
      obtain ⟨n, hh⟩ := rn_i rfl rfl rfl rfl hh
      obtain ⟨n, hh⟩ := rn_if (cc := .eq) (off := 16) (t := 55) rfl rfl hh
      have hh : pm_run PT n fr lo 188 (55, [some (.ref 162), some (.int n0), some (.int 0), some (.int 1), none, none, none], [], h1, 198, sl) = some R := hh
      obtain ⟨n, hh⟩ := rn_i rfl rfl rfl rfl hh
      obtain ⟨n, hh⟩ := rn_i rfl rfl rfl rfl hh
      obtain ⟨n, hh⟩ := rn_i rfl rfl rfl rfl hh
      obtain ⟨m, hm⟩ := out n 0 h1 hh
      exact ⟨m, h1, hm, e2⟩
    | false =>
      rw [z] at e2 hh
      dsimp only [cond] at e2 ⊢
      cases y : (rcC tp t a).1 with
      | false =>
        have hh : pm_run PT n fr lo 188 (37, [some (.ref 162), some (.int n0), some (.int 1), some (.int 1), none, none, none], [.int 0], h1, 198, sl) = some R := by rw [← hh]; dsimp only [cond]; rw [y]; rfl
        obtain ⟨n, hh⟩ := rn_i rfl rfl rfl rfl hh
        obtain ⟨n, hh⟩ := rn_i rfl rfl rfl rfl hh
        obtain ⟨n, hh⟩ := rn_if (cc := .eq) (off := 16) (t := 55) rfl rfl hh
        have hh : pm_run PT n fr lo 188 (55, [some (.ref 162), some (.int n0), some (.int 0), some (.int 1), none, none, none], [], h1, 198, sl) = some R := hh
        obtain ⟨n, hh⟩ := rn_i rfl rfl rfl rfl hh
        obtain ⟨n, hh⟩ := rn_i rfl rfl rfl rfl hh
        obtain ⟨n, hh⟩ := rn_i rfl rfl rfl rfl hh
        obtain ⟨m, hm⟩ := out n 0 h1 hh
        exact ⟨m, h1, hm, e2⟩
      | true =>
        have hh : pm_run PT n fr lo 188 (37, [some (.ref 162), some (.int n0), some (.int 1), some (.int 1), none, none, none], [.int 1], h1, 198, sl) = some R := by rw [← hh]; dsimp only [cond]; rw [y]; rfl
        have hle : (rcC tp t a).2 ≤ t := rcC_le ha
        generalize (rcC tp t a).2 = b at *
        obtain ⟨n, hh⟩ := rn_i rfl rfl rfl rfl hh
        obtain ⟨n, hh⟩ := rn_i rfl rfl rfl rfl hh
        obtain ⟨n, hh⟩ := rn_if (cc := .eq) (off := 16) (t := 55) rfl rfl hh
        have hh : pm_run PT n fr lo 188 (42, [some (.ref 162), some (.int n0), some (.int 1), some (.int 1), none, none, none], [], h1, 198, sl) = some R := hh
        obtain ⟨n, hh⟩ := rn_i rfl rfl rfl rfl hh
        obtain ⟨n, hh⟩ := rn_i rfl rfl rfl rfl hh
        obtain ⟨n, fr', lo', r1, hr1, hh⟩ := rn_call (w := 0) (t := 181) rfl rfl hh
        obtain ⟨⟨q1, q2, q3, q4⟩, -⟩ := id e2
        have er := rn_dt (F := 10) (Lo := 1000) (hd_takes (fr := 10) (lo := 1000) (sl := sl) q1 q2 q3 q4 ht (by omega) (by decide) (by decide) 59) hr1
        cases x : decide (b < t ∧ tp b = 59) with
        | false =>
          rw [x] at er
          dsimp only [cond] at er
          subst er
          have hh : pm_run PT n fr lo 188 (48, [some (.ref 162), some (.int n0), some (.int 1), some (.int 1), none, none, none], [.int 0], mset h1 16 (.int (nI (b + 0))), 198, sl) = some R := hh
          obtain ⟨n, hh⟩ := rn_if (cc := .eq) (off := 7) (t := 55) rfl rfl hh
          have hh : pm_run PT n fr lo 188 (55, [some (.ref 162), some (.int n0), some (.int 1), some (.int 1), none, none, none], [], mset h1 16 (.int (nI (b + 0))), 198, sl) = some R := hh
          obtain ⟨n, hh⟩ := rn_i rfl rfl rfl rfl hh
          obtain ⟨n, hh⟩ := rn_i rfl rfl rfl rfl hh
          obtain ⟨n, hh⟩ := rn_i rfl rfl rfl rfl hh
          obtain ⟨m, hm⟩ := out n 1 _ hh
          exact ⟨m, _, hm, pR_16 e2⟩
        | true =>
          rw [x] at er
          dsimp only [cond] at er
          subst er
          have xx := of_decide_eq_true x
          have hh : pm_run PT n fr lo 188 (48, [some (.ref 162), some (.int n0), some (.int 1), some (.int 1), none, none, none], [.int 1], mset h1 16 (.int (nI (b + 1))), 198, sl) = some R := hh
          obtain ⟨n, hh⟩ := rn_if (cc := .eq) (off := 7) (t := 55) rfl rfl hh
          have hh : pm_run PT n fr lo 188 (51, [some (.ref 162), some (.int n0), some (.int 1), some (.int 1), none, none, none], [], mset h1 16 (.int (nI (b + 1))), 198, sl) = some R := hh
          obtain ⟨n, hh⟩ := rn_i rfl rfl rfl rfl hh
          obtain ⟨n, hh⟩ := rn_i rfl rfl rfl rfl hh
          obtain ⟨n, hh⟩ := rn_i rfl rfl rfl rfl hh
          obtain ⟨n, hh⟩ := rn_i rfl rfl rfl rfl hh
          have zz := of_decide_eq_false z
          exact ih (rm + 1) (b + 1) n _ (by omega) (by omega) (by omega) (pR_16 e2) hh
end CMM
