/-! the pure reader: more room does nothing -/
section ZRE
variable {f : Nat → Int32} {t : Nat}
theorem zmi_fix : ∀ (k p : Nat), t ≤ p + k → zmi f t (k + 1) p = zmi f t k p
  | 0, p, h => by
    show cond (decide (p < t ∧ f p = nI 45)) (zmi f t 0 (p + 1)) p = p
    rw [decide_eq_false (fun q => by omega)]
    rfl
  | k + 1, p, h => by
    show cond (decide (p < t ∧ f p = nI 45)) (zmi f t (k + 1) (p + 1)) p = cond (decide (p < t ∧ f p = nI 45)) (zmi f t k (p + 1)) p
    rw [zmi_fix k (p + 1) (by omega)]
theorem zmi_ge : ∀ (k p : Nat), p ≤ zmi f t k p
  | 0, _ => Nat.le_refl _
  | k + 1, p => by
    show p ≤ cond (decide (p < t ∧ f p = nI 45)) (zmi f t k (p + 1)) p
    have := zmi_ge k (p + 1)
    cases decide (p < t ∧ f p = nI 45) with
    | true => exact Nat.le_trans (by omega) this
    | false => exact Nat.le_refl _
theorem znb_ge : ∀ (k p : Nat), p ≤ znb f t k p
  | 0, _ => Nat.le_refl _
  | k + 1, p => by
    show p ≤ cond (dg f p t) (znb f t k (p + 1)) p
    have := znb_ge k (p + 1)
    cases dg f p t with
    | true => exact Nat.le_trans (by omega) this
    | false => exact Nat.le_refl _
theorem zlp_ge {st : Nat → Bool × Nat} {o : Nat} (hs : ∀ q, q ≤ (st q).2) : ∀ (k p : Nat), p ≤ (zlp st f t o k p).2
  | 0, _ => Nat.le_refl _
  | k + 1, p => by
    show p ≤ (cond (decide (p < t) && zlev o (f p)) (cond (st (p + 1)).1 (zlp st f t o k (st (p + 1)).2) (false, (st (p + 1)).2)) (true, p)).2
    have h1 := hs (p + 1)
    cases decide (p < t) && zlev o (f p) with
    | false => exact Nat.le_refl _
    | true =>
      cases (st (p + 1)).1 with
      | false =>
        show p ≤ (st (p + 1)).2
        omega
      | true =>
        have h2 := zlp_ge (o := o) hs k (st (p + 1)).2
        show p ≤ (zlp st f t o k (st (p + 1)).2).2
        omega
theorem zth_ge {st : Nat → Bool × Nat} {ns q : Nat} (hs : ∀ q, q ≤ (st q).2) : q ≤ (zth st f t ns q).2 := by
  unfold zth
  have h1 := hs (q + 1)
  cases dg f q t with
  | true => exact znb_ge 3 q
  | false =>
    cases decide (q < t) && zlet (f q) with
    | true => exact Nat.le_succ q
    | false =>
      cases decide (q < t ∧ f q = nI 40) && decide (ns < 4) with
      | false => exact Nat.le_refl _
      | true =>
        cases (st (q + 1)).1 && decide ((st (q + 1)).2 < t ∧ f (st (q + 1)).2 = nI 41) with
        | true =>
          show q ≤ (st (q + 1)).2 + 1
          omega
        | false =>
          show q ≤ (st (q + 1)).2
          omega
theorem pz_ge : ∀ (m o ns p : Nat), p ≤ (pz f t m o ns p).2
  | 0, _, _, _ => Nat.le_refl _
  | m + 1, o, ns, p => by
    show p ≤ (cond (Nat.ble 3 o) (zth (pz f t m 0 (ns + 1)) f t ns (zmi f t 40 p)) (cond (pz f t m (o + 1) ns p).1 (zlp (pz f t m (o + 1) ns) f t o (cond (Nat.beq o 0) 1 40) (pz f t m (o + 1) ns p).2) (false, (pz f t m (o + 1) ns p).2))).2
    have h1 := pz_ge m (o + 1) ns p
    cases Nat.ble 3 o with
    | true => exact Nat.le_trans (zmi_ge 40 p) (zth_ge (fun q => pz_ge m 0 (ns + 1) q))
    | false =>
      cases (pz f t m (o + 1) ns p).1 with
      | true => exact Nat.le_trans h1 (zlp_ge (fun q => pz_ge m (o + 1) ns q) _ _)
      | false => exact h1
theorem nbr_z {tp : Nat → Int32} : ∀ (k a : Nat) (v : Int32), (nbr tp t k a v).1 = znb tp t k a
  | 0, _, _ => rfl
  | k + 1, a, v => by
    show (cond (dg tp a t) (nbr tp t k (a + 1) (10 * v + tp a - 48)) (a, v)).1 = cond (dg tp a t) (znb tp t k (a + 1)) a
    cases dg tp a t with
    | true => exact nbr_z k (a + 1) _
    | false => rfl
end ZRE
/-! the reference's reader: steps -/
section ZRM
variable {n fr lo sl p t ns : Nat} {h : pm_H} {R : pm_Rs} {tp : Nat → Int32} {v : Int32} {v18 : Value}
theorem nI_pr1 (n : Nat) : nI (n + 1) - Int32.ofInt 1 = nI n := by
  rw [show nI (n + 1) = nI n + Int32.ofInt 1 from Int32.ofNat_add n 1]
  exact Int32.add_sub_cancel _ _
def qM (h : pm_H) (p t : Nat) (tp : Nat → Int32) : Prop := (mF h 16 (.int (nI p)) ∧ mF h 17 (.int (nI t)) ∧ mF h 14 (.ref 172) ∧ h 172 = .inl (0, 80, .inl tp)) ∧ mF h 22 (.ref 175) ∧ ∃ c : Int32, mF h 24 (.int c)
theorem qM_16 {p' : Nat} (q : qM h p t tp) : qM (mset h 16 (.int (nI p'))) p' t tp := by
  obtain ⟨⟨a1, a2, a3, a4⟩, a5, c, a6⟩ := q
  exact ⟨⟨mF_self a1, mF_ne (by decide) a2, mF_ne (by decide) a3, mset_arr (by decide) a4⟩, mF_ne (by decide) a5, c, mF_ne (by decide) a6⟩
theorem qM_18 {w : Value} (q : qM h p t tp) : qM (mset h 18 w) p t tp := by
  obtain ⟨⟨a1, a2, a3, a4⟩, a5, c, a6⟩ := q
  exact ⟨⟨mF_ne (by decide) a1, mF_ne (by decide) a2, mF_ne (by decide) a3, mset_arr (by decide) a4⟩, mF_ne (by decide) a5, c, mF_ne (by decide) a6⟩
theorem cod_run (q : qM h p t tp) (hh : pm_run PT n fr lo 193 (0, pm_l0 [.ref 162, .int v] 2, [], h, 198, sl) = some R) : R.1 = none ∧ qM R.2.1 p t tp ∧ (∀ w, mF h 18 w → mF R.2.1 18 w) ∧ R.2.2 = (198, sl) := by
  obtain ⟨⟨a1, a2, a3, a4⟩, a5, c, a6⟩ := q
  obtain ⟨n, hh⟩ := rn_i rfl rfl rfl rfl hh
  obtain ⟨n, hh⟩ := rn_gfm rfl rfl a5 hh
  obtain ⟨n, hh⟩ := rn_i rfl rfl rfl rfl hh
  obtain ⟨n, hh⟩ := rn_gfm rfl rfl a6 hh
  obtain ⟨n, hh⟩ := rn_i rfl rfl rfl rfl hh
  have hh : pm_run PT n fr lo 193 (9, [some (.ref 162), some (.int v)], [.int v, .int c, .ref 175], h, 198, sl) = some R := hh
  obtain ⟨n, kd, q, f1, hh⟩ := rn_isx rfl hh
  have b1 := up_mF (a := 175) (e := .inl (kd, q, .inl f1)) (by decide) a1
  have b2 := up_mF (a := 175) (e := .inl (kd, q, .inl f1)) (by decide) a2
  have b3 := up_mF (a := 175) (e := .inl (kd, q, .inl f1)) (by decide) a3
  have b4 : va_up h 175 (.inl (kd, q, .inl f1)) 172 = .inl (0, 80, .inl tp) := (up_ne (by decide)).trans a4
  have b5 := up_mF (a := 175) (e := .inl (kd, q, .inl f1)) (by decide) a5
  have b6 := up_mF (a := 175) (e := .inl (kd, q, .inl f1)) (by decide) a6
  have b8 : ∀ w, mF h 18 w → mF (va_up h 175 (.inl (kd, q, .inl f1))) 18 w := fun w hw => up_mF (by decide) hw
  generalize va_up h 175 (.inl (kd, q, .inl f1)) = h1 at hh b1 b2 b3 b4 b5 b6 b8
  have hh : pm_run PT n fr lo 193 (10, [some (.ref 162), some (.int v)], [], h1, 198, sl) = some R := hh
  obtain ⟨n, hh⟩ := rn_i rfl rfl rfl rfl hh
  obtain ⟨n, hh⟩ := rn_i rfl rfl rfl rfl hh
  obtain ⟨n, hh⟩ := rn_gfm rfl rfl b6 hh
  obtain ⟨n, hh⟩ := rn_i rfl rfl rfl rfl hh
  obtain ⟨n, hh⟩ := rn_i rfl rfl rfl rfl hh
  have hh : pm_run PT n fr lo 193 (17, [some (.ref 162), some (.int v)], [.int (c + 1), .ref 162], h1, 198, sl) = some R := hh
  obtain ⟨n, hh⟩ := rn_pfm (w := .int c) rfl rfl rfl (by decide) b6 hh
  have e := rn_vret rfl rfl hh
  rw [e]
  exact ⟨rfl, ⟨⟨mF_ne (by decide) b1, mF_ne (by decide) b2, mF_ne (by decide) b3, mset_arr (by decide) b4⟩, mF_ne (by decide) b5, _, mF_self b6⟩, fun w hw => mF_ne (by decide) (b8 w hw), rfl⟩
theorem tk_run {c : Nat} (ht : t ≤ 40) (hp : p ≤ t) (q : qM h p t tp) (hh : pm_run PT n fr lo 181 (0, pm_l0 [.ref 162, .int (nI c)] 3, [], h, 198, sl) = some R) : R = (some (.int (cond (decide (p < t ∧ tp p = nI c)) 1 0)), mset h 16 (.int (nI (p + cond (decide (p < t ∧ tp p = nI c)) 1 0))), 198, sl) := by
  have e := rn_dt (F := 10) (Lo := 1000) (hd_takes (fr := 10) (lo := 1000) (sl := sl) q.1.1 q.1.2.1 q.1.2.2.1 q.1.2.2.2 (by omega) (by omega) (by omega) (by omega) (nI c)) hh
  exact e
theorem ig_run (ht : t ≤ 40) (hp : p ≤ t) (q : qM h p t tp) (hh : pm_run PT n fr lo 182 (0, pm_l0 [.ref 162] 1, [], h, 198, sl) = some R) : R = (some (.int (cond (dg tp p t) 1 0)), h, 198, sl) := by
  have e := rn_dt (F := 10) (Lo := 1000) (hd_isDigit (fr := 10) (lo := 1000) (sl := sl) q.1.1 q.1.2.1 q.1.2.2.1 q.1.2.2.2 (by omega) (by omega) (by omega) (by omega)) hh
  exact e
theorem to_run {i : Nat} (hi : i < 5) (ht : t ≤ 40) (hp : p ≤ t) (q : qM h p t tp) (hh : pm_run PT n fr lo 183 (0, pm_l0 [.ref 162, .retAddr i] 3, [], h, 198, sl) = some R) : R = tkr h p sl (tko i tp p t (st_tx i).length 0) := by
  have e := rn_dt (F := 10) (Lo := 1000) (hd_takesOf (fr := 10) (lo := 1000) (sl := sl) q.1.1 q.1.2.1 q.1.2.2.1 q.1.2.2.2 (by omega) (by omega) (by omega) (by omega) hi) hh
  exact e
theorem tk_let (hl : p < t) : (tko 0 tp p t 7 0).isSome = zlet (tp p) := by
  have c0 : (st_tx 0).getD 0 0 = nI 119 := by decide +kernel
  have c1 : (st_tx 0).getD 1 0 = nI 107 := by decide +kernel
  have c2 : (st_tx 0).getD 2 0 = nI 114 := by decide +kernel
  have c3 : (st_tx 0).getD 3 0 = nI 115 := by decide +kernel
  have c4 : (st_tx 0).getD 4 0 = nI 104 := by decide +kernel
  have c5 : (st_tx 0).getD 5 0 = nI 101 := by decide +kernel
  have c6 : (st_tx 0).getD 6 0 = nI 100 := by decide +kernel
  show (cond (decide (p < t) && decide ((st_tx 0).getD 0 0 = tp p)) (some 0) (cond (decide (p < t) && decide ((st_tx 0).getD 1 0 = tp p)) (some 1) (cond (decide (p < t) && decide ((st_tx 0).getD 2 0 = tp p)) (some 2) (cond (decide (p < t) && decide ((st_tx 0).getD 3 0 = tp p)) (some 3) (cond (decide (p < t) && decide ((st_tx 0).getD 4 0 = tp p)) (some 4) (cond (decide (p < t) && decide ((st_tx 0).getD 5 0 = tp p)) (some 5) (cond (decide (p < t) && decide ((st_tx 0).getD 6 0 = tp p)) (some 6) none))))))).isSome = zlet (tp p)
  rw [decide_eq_true hl, c0, c1, c2, c3, c4, c5, c6]
  by_cases e0 : nI 119 = tp p
  · rw [decide_eq_true e0, show zlet (tp p) = true from decide_eq_true (Or.inl e0.symm)]
    rfl
  · rw [decide_eq_false e0]
    by_cases e1 : nI 107 = tp p
    · rw [decide_eq_true e1, show zlet (tp p) = true from decide_eq_true (Or.inr (Or.inl e1.symm))]
      rfl
    · rw [decide_eq_false e1]
      by_cases e2 : nI 114 = tp p
      · rw [decide_eq_true e2, show zlet (tp p) = true from decide_eq_true (Or.inr (Or.inr (Or.inl e2.symm)))]
        rfl
      · rw [decide_eq_false e2]
        by_cases e3 : nI 115 = tp p
        · rw [decide_eq_true e3, show zlet (tp p) = true from decide_eq_true (Or.inr (Or.inr (Or.inr (Or.inl e3.symm))))]
          rfl
        · rw [decide_eq_false e3]
          by_cases e4 : nI 104 = tp p
          · rw [decide_eq_true e4, show zlet (tp p) = true from decide_eq_true (Or.inr (Or.inr (Or.inr (Or.inr (Or.inl e4.symm)))))]
            rfl
          · rw [decide_eq_false e4]
            by_cases e5 : nI 101 = tp p
            · rw [decide_eq_true e5, show zlet (tp p) = true from decide_eq_true (Or.inr (Or.inr (Or.inr (Or.inr (Or.inr (Or.inl e5.symm))))))]
              rfl
            · rw [decide_eq_false e5]
              by_cases e6 : nI 100 = tp p
              · rw [decide_eq_true e6, show zlet (tp p) = true from decide_eq_true (Or.inr (Or.inr (Or.inr (Or.inr (Or.inr (Or.inr (e6.symm)))))))]
                rfl
              · rw [decide_eq_false e6]
                rw [show zlet (tp p) = false from decide_eq_false (fun q => by
                  rcases q with q | q | q | q | q | q | q
                  · exact e0 q.symm
                  · exact e1 q.symm
                  · exact e2 q.symm
                  · exact e3 q.symm
                  · exact e4 q.symm
                  · exact e5 q.symm
                  · exact e6 q.symm
                  )]
                rfl
theorem tk_l0 (hl : p < t) : (tko 1 tp p t 3 0).isSome = zlev 0 (tp p) := by
  have c0 : (st_tx 1).getD 0 0 = nI 60 := by decide +kernel
  have c1 : (st_tx 1).getD 1 0 = nI 62 := by decide +kernel
  have c2 : (st_tx 1).getD 2 0 = nI 61 := by decide +kernel
  show (cond (decide (p < t) && decide ((st_tx 1).getD 0 0 = tp p)) (some 0) (cond (decide (p < t) && decide ((st_tx 1).getD 1 0 = tp p)) (some 1) (cond (decide (p < t) && decide ((st_tx 1).getD 2 0 = tp p)) (some 2) none))).isSome = zlev 0 (tp p)
  rw [decide_eq_true hl, c0, c1, c2]
  by_cases e0 : nI 60 = tp p
  · rw [decide_eq_true e0, show zlev 0 (tp p) = true from decide_eq_true (Or.inl e0.symm)]
    rfl
  · rw [decide_eq_false e0]
    by_cases e1 : nI 62 = tp p
    · rw [decide_eq_true e1, show zlev 0 (tp p) = true from decide_eq_true (Or.inr (Or.inr (e1.symm)))]
      rfl
    · rw [decide_eq_false e1]
      by_cases e2 : nI 61 = tp p
      · rw [decide_eq_true e2, show zlev 0 (tp p) = true from decide_eq_true (Or.inr (Or.inl e2.symm))]
        rfl
      · rw [decide_eq_false e2]
        rw [show zlev 0 (tp p) = false from decide_eq_false (fun q => by
          rcases q with q | q | q
          · exact e0 q.symm
          · exact e2 q.symm
          · exact e1 q.symm
          )]
        rfl
theorem tk_l1 (hl : p < t) : (tko 2 tp p t 2 0).isSome = zlev 1 (tp p) := by
  have c0 : (st_tx 2).getD 0 0 = nI 43 := by decide +kernel
  have c1 : (st_tx 2).getD 1 0 = nI 45 := by decide +kernel
  show (cond (decide (p < t) && decide ((st_tx 2).getD 0 0 = tp p)) (some 0) (cond (decide (p < t) && decide ((st_tx 2).getD 1 0 = tp p)) (some 1) none)).isSome = zlev 1 (tp p)
  rw [decide_eq_true hl, c0, c1]
  by_cases e0 : nI 43 = tp p
  · rw [decide_eq_true e0, show zlev 1 (tp p) = true from decide_eq_true (Or.inl e0.symm)]
    rfl
  · rw [decide_eq_false e0]
    by_cases e1 : nI 45 = tp p
    · rw [decide_eq_true e1, show zlev 1 (tp p) = true from decide_eq_true (Or.inr (e1.symm))]
      rfl
    · rw [decide_eq_false e1]
      rw [show zlev 1 (tp p) = false from decide_eq_false (fun q => by
        rcases q with q | q
        · exact e0 q.symm
        · exact e1 q.symm
        )]
      rfl
theorem tk_l2 (hl : p < t) : (tko 3 tp p t 2 0).isSome = zlev 2 (tp p) := by
  have c0 : (st_tx 3).getD 0 0 = nI 42 := by decide +kernel
  have c1 : (st_tx 3).getD 1 0 = nI 47 := by decide +kernel
  show (cond (decide (p < t) && decide ((st_tx 3).getD 0 0 = tp p)) (some 0) (cond (decide (p < t) && decide ((st_tx 3).getD 1 0 = tp p)) (some 1) none)).isSome = zlev 2 (tp p)
  rw [decide_eq_true hl, c0, c1]
  by_cases e0 : nI 42 = tp p
  · rw [decide_eq_true e0, show zlev 2 (tp p) = true from decide_eq_true (Or.inl e0.symm)]
    rfl
  · rw [decide_eq_false e0]
    by_cases e1 : nI 47 = tp p
    · rw [decide_eq_true e1, show zlev 2 (tp p) = true from decide_eq_true (Or.inr (e1.symm))]
      rfl
    · rw [decide_eq_false e1]
      rw [show zlev 2 (tp p) = false from decide_eq_false (fun q => by
        rcases q with q | q
        · exact e0 q.symm
        · exact e1 q.symm
        )]
      rfl
theorem tk_no {i n : Nat} (hl : ¬ p < t) : (tko i tp p t n 0).isSome = false := by
  rw [tko_end hl]
  rfl
end ZRM
