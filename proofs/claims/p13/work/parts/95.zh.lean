/-! the reference's gifts: all LINES -/
section GML
variable {n fr lo sl t cc gc a rm : Nat} {h : pm_H} {tp : Nat → Int32} {R : pm_Rs}
theorem rg_reads (ht : t ≤ 80) (ha : a < 89) (hgr : gc + rm ≤ 8) (p : pG h tp t cc gc a rm) (hh : pm_run PT n fr lo 191 (0, pm_l0 [.ref 162] 2, [], h, 198, sl) = some R) : R.1 = some (.int (cond (cond (decide (gc + rm = 8)) (false, a) (rgL tp t cc a)).1 1 0)) ∧ (∃ rm', pG R.2.1 tp t cc gc (cond (decide (gc + rm = 8)) (false, a) (rgL tp t cc a)).2 rm' ∧ ((cond (decide (gc + rm = 8)) (false, a) (rgL tp t cc a)).1 = true → rm' = rm + 1)) ∧ R.2.2 = (198, sl) := by
  obtain ⟨⟨⟨q1, q2, q3, q4⟩, q5, q6, q7, f, q8⟩, q9⟩ := id p
  obtain ⟨n, hh⟩ := rn_i rfl rfl rfl rfl hh
  obtain ⟨n, hh⟩ := rn_gfm rfl rfl q9 hh
  obtain ⟨n, hh⟩ := rn_i rfl rfl rfl rfl hh
  obtain ⟨n, hh⟩ := rn_gfm rfl rfl q5 hh
  obtain ⟨n, hh⟩ := rn_i rfl rfl rfl rfl hh
  obtain ⟨n, hh⟩ := rn_i rfl rfl rfl rfl hh
  obtain ⟨n, hh⟩ := rn_icmp (cc := .ne) (off := 5) (t := 16) rfl rfl hh
  have ec : pm_cmp .ne ((fun x y => x + y) (nI gc) (nI rm)) (Int8.ofInt 8).toInt32 = decide (¬ (gc + rm = 8)) := by
    show pm_cmp .ne (nI gc + nI rm) (nI 8) = _
    rw [nI_add]
    exact hI_ne (by omega) (by omega)
  rw [ec] at hh
  by_cases z : gc + rm = 8
  · rw [decide_eq_false (fun q => q z)] at hh
    rw [decide_eq_true z]
    obtain ⟨n, hh⟩ := rn_i rfl rfl rfl rfl hh
    have e := (rn_ret rfl (Or.inr rfl) hh).2
    subst e
    exact ⟨rfl, ⟨rm, p, fun q => by cases q⟩, rfl⟩
  · rw [decide_eq_true z] at hh
    rw [decide_eq_false z]
    have hh : pm_run PT n fr lo 191 (16, [some (.ref 162), none], [], h, 198, sl) = some R := hh
    obtain ⟨n, hh⟩ := rn_i rfl rfl rfl rfl hh
    obtain ⟨n, hh⟩ := rn_i rfl rfl rfl rfl hh
    obtain ⟨n, hh⟩ := rn_gfm rfl rfl q5 hh
    obtain ⟨n, hh⟩ := rn_i rfl rfl rfl rfl hh
    obtain ⟨n, hh⟩ := rn_i rfl rfl rfl rfl hh
    have e6 : Int32.ofInt 4 * nI rm = nI (4 * rm) := hI_mul 4 rm
    have hh : pm_run PT n fr lo 191 (23, [some (.ref 162), some (.int (Int32.ofInt 4 * nI rm))], [], h, 198, sl) = some R := hh
    rw [e6] at hh
    obtain ⟨n, hh⟩ := rn_i rfl rfl rfl rfl hh
    obtain ⟨n, hh⟩ := rn_gfm rfl rfl q7 hh
    obtain ⟨n, hh⟩ := rn_i rfl rfl rfl rfl hh
    obtain ⟨n, hh⟩ := rn_i rfl rfl rfl rfl hh
    obtain ⟨n, hh⟩ := rn_i rfl rfl rfl rfl hh
    obtain ⟨n, hh⟩ := rn_i rfl rfl rfl rfl hh
    obtain ⟨n, fr', lo', r1, hr1, hh⟩ := rn_call (w := 0) (t := 185) rfl rfl hh
    have er := rn_dt (F := 10) (Lo := 1000) (hd_digitIn (fr := 10) (lo := 1000) (sl := sl) q1 q2 q3 q4 ht (by omega) (by decide) (by decide) (Int32.ofInt 0) (Int32.ofInt 4)) hr1
    have hin : pm_in (nI (4 * rm)) 36 = true := hI_in (by omega) (by decide)
    dsimp only [cond]
    unfold rgL
    cases hd : dgi tp a t (Int32.ofInt 0) (Int32.ofInt 4) with
    | false =>
      rw [hd] at er
      dsimp only [cond] at er
      subst er
      have hh : pm_run PT n fr lo 191 (34, [some (.ref 162), some (.int (nI (4 * rm)))], [.int (-1), .int (nI (4 * rm)), .ref 173], h, 198, sl) = some R := hh
      obtain ⟨n, hh⟩ := rn_ism rfl q8 hin (by decide) hh
      have p' := pG_rd (e := upd f (nI (4 * rm)).toNatClampNeg (-1)) p
      obtain ⟨n, hh⟩ := rn_i rfl rfl rfl rfl hh
      obtain ⟨n, hh⟩ := rn_gfm rfl rfl p'.1.2.2.2.1 hh
      obtain ⟨n, hh⟩ := rn_i rfl rfl rfl rfl hh
      obtain ⟨n, hh⟩ := rn_iam rfl asR_self hin (by decide) hh
      have eu : upd f (nI (4 * rm)).toNatClampNeg (-1) (nI (4 * rm)).toNatClampNeg = (-1 : Int32) := by simp [upd]
      rw [eu] at hh
      obtain ⟨n, hh⟩ := rn_if (cc := .ge) (off := 5) (t := 46) rfl rfl hh
      rw [show pm_cmp .ge (-1 : Int32) 0 = false by decide] at hh
      obtain ⟨r1, r2, r3⟩ := rg_0 p' hh
      exact ⟨r1, ⟨rm, r2, fun q => by cases q⟩, r3⟩
    | true =>
      rw [hd] at er
      dsimp only [cond] at er
      subst er
      obtain ⟨v0, v1⟩ := dgi_g0 hd
      have p0 : pG (mset h 16 (.int (nI (a + 1)))) tp t cc gc (a + 1) rm := pG_16 p
      have hh : pm_run PT n fr lo 191 (34, [some (.ref 162), some (.int (nI (4 * rm)))], [.int (tp a - 48), .int (nI (4 * rm)), .ref 173], mset h 16 (.int (nI (a + 1))), 198, sl) = some R := hh
      obtain ⟨f0, q80⟩ := p0.1.2.2.2.2
      obtain ⟨n, hh⟩ := rn_ism rfl q80 hin (by decide) hh
      have p' := pG_rd (e := upd f0 (nI (4 * rm)).toNatClampNeg (tp a - 48)) p0
      obtain ⟨n, hh⟩ := rn_i rfl rfl rfl rfl hh
      obtain ⟨n, hh⟩ := rn_gfm rfl rfl p'.1.2.2.2.1 hh
      obtain ⟨n, hh⟩ := rn_i rfl rfl rfl rfl hh
      obtain ⟨n, hh⟩ := rn_iam rfl asR_self hin (by decide) hh
      have eu : upd f0 (nI (4 * rm)).toNatClampNeg (tp a - 48) (nI (4 * rm)).toNatClampNeg = tp a - 48 := by simp [upd]
      rw [eu] at hh
      obtain ⟨n, hh⟩ := rn_if (cc := .ge) (off := 5) (t := 46) rfl rfl hh
      rw [ge0_val v1] at hh
      exact rg_46 ht (by omega) (by omega) p' hh
theorem rgL_le (ha : a ≤ t) : (rgL tp t cc a).2 ≤ t := by
  unfold rgL
  cases hd : dgi tp a t (Int32.ofInt 0) (Int32.ofInt 4) with
  | false => exact ha
  | true =>
    have h1 := (dgi_g0 hd).1
    dsimp only [cond]
    cases hb : dg tp (a + 1) t with
    | false => exact h1
    | true =>
      have h2 := dg_lt hb
      obtain ⟨b1, b2, b3, -⟩ := nbr_bd (tp := tp) t 2 (a + 1) 0 0 (by decide) (by decide) (by decide) (by decide)
      have b3 := b3 (by omega)
      dsimp only
      generalize nbr tp t 2 (a + 1) 0 = w at *
      unfold rgW
      by_cases z : w.2 = 0
      · rw [decide_eq_true z]
        show w.1 - 1 ≤ t
        omega
      · rw [decide_eq_false z]
        show (rgC tp t cc w.1).2 ≤ t
        unfold rgC
        cases x : decide (w.1 < t ∧ tp w.1 = 44) with
        | false => exact b3
        | true =>
          have xx := of_decide_eq_true x
          show (rgE tp t cc (w.1 + 1)).2 ≤ t
          unfold rgE
          cases y : dg tp (w.1 + 1) t with
          | false => exact (by show w.1 + 1 ≤ t; omega)
          | true =>
            have yy := dg_lt y
            cases u : dgi tp (w.1 + 1 + 1) t (Int32.ofInt 0) (nI cc - Int32.ofInt 1) with
            | false => exact (by show w.1 + 1 + 1 ≤ t; omega)
            | true =>
              have := (dgi_g0 u).1
              exact (by show w.1 + 1 + 2 ≤ t; omega)
/-- all LINES of GIFTS -/
def sgL (tp : Nat → Int32) (t cc gc : Nat) : Nat → Nat → Nat → Bool × Nat × Nat
  | 0, rm, a => (false, a, rm)
  | k + 1, rm, a => cond (decide (gc + rm = 8)) (false, a, rm) (cond (rgL tp t cc a).1 (cond (decide ((rgL tp t cc a).2 < t ∧ tp (rgL tp t cc a).2 = 59)) (sgL tp t cc gc k (rm + 1) ((rgL tp t cc a).2 + 1)) (true, (rgL tp t cc a).2, rm + 1)) (false, (rgL tp t cc a).2, rm))
theorem gm_loop (ht : t ≤ 80) {n0 : Int32} : ∀ (k rm a n : Nat) (h : pm_H), gc + rm + k = 9 → 0 < k → a ≤ t → pG h tp t cc gc a rm → pm_run PT n fr lo 192 (29, [some (.ref 162), some (.int n0), some (.int 1), some (.int 1), none, none], [], h, 198, sl) = some R → ∃ m h' rm', pm_run PT m fr lo 192 (60, [some (.ref 162), some (.int n0), some (.int (cond (sgL tp t cc gc k rm a).1 1 0)), some (.int 0), none, none], [], h', 198, sl) = some R ∧ pG h' tp t cc gc (sgL tp t cc gc k rm a).2.1 rm' ∧ ((sgL tp t cc gc k rm a).1 = true → rm' = (sgL tp t cc gc k rm a).2.2) := by
  have out : ∀ (n : Nat) (b : Int32) (h : pm_H), pm_run PT n fr lo 192 (29, [some (.ref 162), some (.int n0), some (.int b), some (.int 0), none, none], [], h, 198, sl) = some R → ∃ m, pm_run PT m fr lo 192 (60, [some (.ref 162), some (.int n0), some (.int b), some (.int 0), none, none], [], h, 198, sl) = some R := by
    intro n b h hh
    obtain ⟨n, hh⟩ := rn_i rfl rfl rfl rfl hh
    obtain ⟨n, hh⟩ := rn_if (cc := .eq) (off := 30) (t := 60) rfl rfl hh
    exact ⟨n, hh⟩
  have bad : ∀ (n : Nat) (h1 : pm_H), pm_run PT n fr lo 192 (37, [some (.ref 162), some (.int n0), some (.int 1), some (.int 1), none, none], [.int 0], h1, 198, sl) = some R → ∃ m, pm_run PT m fr lo 192 (60, [some (.ref 162), some (.int n0), some (.int 0), some (.int 0), none, none], [], h1, 198, sl) = some R := by
    intro n h1 hh
    obtain ⟨n, hh⟩ := rn_i rfl rfl rfl rfl hh
    obtain ⟨n, hh⟩ := rn_i rfl rfl rfl rfl hh
    obtain ⟨n, hh⟩ := rn_if (cc := .eq) (off := 16) (t := 55) rfl rfl hh
    have hh : pm_run PT n fr lo 192 (55, [some (.ref 162), some (.int n0), some (.int 0), some (.int 1), none, none], [], h1, 198, sl) = some R := hh
    obtain ⟨n, hh⟩ := rn_i rfl rfl rfl rfl hh
    obtain ⟨n, hh⟩ := rn_i rfl rfl rfl rfl hh
    obtain ⟨n, hh⟩ := rn_i rfl rfl rfl rfl hh
    exact out n 0 h1 hh
  intro k
  induction k with
  | zero => intro rm a n h hk h0; exact absurd h0 (by omega)
  | succ k ih =>
    intro rm a n h hk h0 ha p hh
    obtain ⟨n, hh⟩ := rn_i rfl rfl rfl rfl hh
    obtain ⟨n, hh⟩ := rn_if (cc := .eq) (off := 30) (t := 60) rfl rfl hh
    have hh : pm_run PT n fr lo 192 (33, [some (.ref 162), some (.int n0), some (.int 1), some (.int 1), none, none], [], h, 198, sl) = some R := hh
    obtain ⟨n, hh⟩ := rn_i rfl rfl rfl rfl hh
    obtain ⟨n, fr', lo', r1, hr1, hh⟩ := rn_call (w := 0) (t := 191) rfl rfl hh
    obtain ⟨e1, ⟨rm', e2, e4⟩, e3⟩ := rg_reads ht (by omega) (by omega) p hr1
    obtain ⟨rv, h1, s1⟩ := r1
    dsimp only at e1 e2 e3 e4
    subst e1
    subst e3
    show ∃ m h' rm', pm_run PT m fr lo 192 (60, [some (.ref 162), some (.int n0), some (.int (cond (sgL tp t cc gc (k + 1) rm a).1 1 0)), some (.int 0), none, none], [], h', 198, sl) = some R ∧ pG h' tp t cc gc (sgL tp t cc gc (k + 1) rm a).2.1 rm' ∧ ((sgL tp t cc gc (k + 1) rm a).1 = true → rm' = (sgL tp t cc gc (k + 1) rm a).2.2)
    unfold sgL
    cases z : decide (gc + rm = 8) with
    | true =>
      rw [z] at e2 e4 hh
      obtain ⟨m, hm⟩ := bad n h1 hh
      exact ⟨m, h1, rm', hm, e2, fun q => by cases q⟩
    | false =>
      rw [z] at e2 e4 hh
      dsimp only [cond] at e2 e4 ⊢
      cases y : (rgL tp t cc a).1 with
      | false =>
        have hh : pm_run PT n fr lo 192 (37, [some (.ref 162), some (.int n0), some (.int 1), some (.int 1), none, none], [.int 0], h1, 198, sl) = some R := by rw [← hh]; dsimp only [cond]; rw [y]; rfl
        obtain ⟨m, hm⟩ := bad n h1 hh
        exact ⟨m, h1, rm', hm, e2, fun q => by cases q⟩
      | true =>
        have hh : pm_run PT n fr lo 192 (37, [some (.ref 162), some (.int n0), some (.int 1), some (.int 1), none, none], [.int 1], h1, 198, sl) = some R := by rw [← hh]; dsimp only [cond]; rw [y]; rfl
        have hle : (rgL tp t cc a).2 ≤ t := rgL_le ha
        have e4 := e4 y
        subst e4
        generalize (rgL tp t cc a).2 = b at *
        obtain ⟨n, hh⟩ := rn_i rfl rfl rfl rfl hh
        obtain ⟨n, hh⟩ := rn_i rfl rfl rfl rfl hh
        obtain ⟨n, hh⟩ := rn_if (cc := .eq) (off := 16) (t := 55) rfl rfl hh
        have hh : pm_run PT n fr lo 192 (42, [some (.ref 162), some (.int n0), some (.int 1), some (.int 1), none, none], [], h1, 198, sl) = some R := hh
        obtain ⟨n, hh⟩ := rn_i rfl rfl rfl rfl hh
        obtain ⟨n, hh⟩ := rn_i rfl rfl rfl rfl hh
        obtain ⟨n, fr', lo', r1, hr1, hh⟩ := rn_call (w := 0) (t := 181) rfl rfl hh
        obtain ⟨⟨⟨q1, q2, q3, q4⟩, -⟩, -⟩ := id e2
        have er := rn_dt (F := 10) (Lo := 1000) (hd_takes (fr := 10) (lo := 1000) (sl := sl) q1 q2 q3 q4 ht (by omega) (by decide) (by decide) 59) hr1
        cases x : decide (b < t ∧ tp b = 59) with
        | false =>
          rw [x] at er
          dsimp only [cond] at er
          subst er
          have hh : pm_run PT n fr lo 192 (48, [some (.ref 162), some (.int n0), some (.int 1), some (.int 1), none, none], [.int 0], mset h1 16 (.int (nI (b + 0))), 198, sl) = some R := hh
          obtain ⟨n, hh⟩ := rn_if (cc := .eq) (off := 7) (t := 55) rfl rfl hh
          have hh : pm_run PT n fr lo 192 (55, [some (.ref 162), some (.int n0), some (.int 1), some (.int 1), none, none], [], mset h1 16 (.int (nI (b + 0))), 198, sl) = some R := hh
          obtain ⟨n, hh⟩ := rn_i rfl rfl rfl rfl hh
          obtain ⟨n, hh⟩ := rn_i rfl rfl rfl rfl hh
          obtain ⟨n, hh⟩ := rn_i rfl rfl rfl rfl hh
          obtain ⟨m, hm⟩ := out n 1 _ hh
          exact ⟨m, _, rm + 1, hm, pG_16 e2, fun _ => rfl⟩
        | true =>
          rw [x] at er
          dsimp only [cond] at er
          subst er
          have xx := of_decide_eq_true x
          have hh : pm_run PT n fr lo 192 (48, [some (.ref 162), some (.int n0), some (.int 1), some (.int 1), none, none], [.int 1], mset h1 16 (.int (nI (b + 1))), 198, sl) = some R := hh
          obtain ⟨n, hh⟩ := rn_if (cc := .eq) (off := 7) (t := 55) rfl rfl hh
          have hh : pm_run PT n fr lo 192 (51, [some (.ref 162), some (.int n0), some (.int 1), some (.int 1), none, none], [], mset h1 16 (.int (nI (b + 1))), 198, sl) = some R := hh
          obtain ⟨n, hh⟩ := rn_i rfl rfl rfl rfl hh
          obtain ⟨n, hh⟩ := rn_i rfl rfl rfl rfl hh
          obtain ⟨n, hh⟩ := rn_i rfl rfl rfl rfl hh
          obtain ⟨n, hh⟩ := rn_i rfl rfl rfl rfl hh
          have zz := of_decide_eq_false z
          exact ih (rm + 1) (b + 1) n _ (by omega) (by omega) (by omega) (pG_16 e2) hh
end GML
