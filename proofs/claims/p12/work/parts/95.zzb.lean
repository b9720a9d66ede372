/-! the pure reader: more room does nothing -/
section ZRE
variable {f : Nat → Int32} {t : Nat}
theorem zmi_fix : ∀ (k p : Nat), t ≤ p + k → zmi f t (k + 1) p = zmi f t k p
  | 0, p, h => by
    show cond (decide (p < t ∧ f p = nI 45)) (zmi f t 0 (p + 1)) p = p
    rw [decide_eq_false (fun q => by omega)]
    rfl
  | k + 1, p, h => by
    show cond (decide (p < t ∧ f p = nI 45)) (zmi f t (k + 1) (p + 1)) p = cond (decide (p < t ∧ f p = nI 45)) (zmi f t k (p + 1)) p
    rw [zmi_fix k (p + 1) (by omega)]
theorem zmi_ge : ∀ (k p : Nat), p ≤ zmi f t k p
  | 0, _ => Nat.le_refl _
  | k + 1, p => by
    show p ≤ cond (decide (p < t ∧ f p = nI 45)) (zmi f t k (p + 1)) p
    have := zmi_ge k (p + 1)
    cases decide (p < t ∧ f p = nI 45) with
    | true => exact Nat.le_trans (by omega) this
    | false => exact Nat.le_refl _
theorem znb_ge : ∀ (k p : Nat), p ≤ znb f t k p
  | 0, _ => Nat.le_refl _
  | k + 1, p => by
    show p ≤ cond (dg f p t) (znb f t k (p + 1)) p
    have := znb_ge k (p + 1)
    cases dg f p t with
    | true => exact Nat.le_trans (by omega) this
    | false => exact Nat.le_refl _
theorem zlp_ge {st : Nat → Bool × Nat} {o : Nat} (hs : ∀ q, q ≤ (st q).2) : ∀ (k p : Nat), p ≤ (zlp st f t o k p).2
  | 0, _ => Nat.le_refl _
  | k + 1, p => by
    show p ≤ (cond (decide (p < t) && zlev o (f p)) (cond (st (p + 1)).1 (zlp st f t o k (st (p + 1)).2) (false, (st (p + 1)).2)) (true, p)).2
    have h1 := hs (p + 1)
    cases decide (p < t) && zlev o (f p) with
    | false => exact Nat.le_refl _
    | true =>
      cases (st (p + 1)).1 with
      | false =>
        show p ≤ (st (p + 1)).2
        omega
      | true =>
        have h2 := zlp_ge (o := o) hs k (st (p + 1)).2
        show p ≤ (zlp st f t o k (st (p + 1)).2).2
        omega
theorem zth_ge {st : Nat → Bool × Nat} {ns q : Nat} (hs : ∀ q, q ≤ (st q).2) : q ≤ (zth st f t ns q).2 := by
  unfold zth
  have h1 := hs (q + 1)
  cases dg f q t with
  | true => exact znb_ge 3 q
  | false =>
    cases decide (q < t) && zlet (f q) with
    | true => exact Nat.le_succ q
    | false =>
      cases decide (q < t ∧ f q = nI 40) && decide (ns < 4) with
      | false => exact Nat.le_refl _
      | true =>
        cases (st (q + 1)).1 && decide ((st (q + 1)).2 < t ∧ f (st (q + 1)).2 = nI 41) with
        | true =>
          show q ≤ (st (q + 1)).2 + 1
          omega
        | false =>
          show q ≤ (st (q + 1)).2
          omega
theorem pz_ge : ∀ (m o ns p : Nat), p ≤ (pz f t m o ns p).2
  | 0, _, _, _ => Nat.le_refl _
  | m + 1, o, ns, p => by
    show p ≤ (cond (Nat.ble 3 o) (zth (pz f t m 0 (ns + 1)) f t ns (zmi f t 40 p)) (cond (pz f t m (o + 1) ns p).1 (zlp (pz f t m (o + 1) ns) f t o (cond (Nat.beq o 0) 1 40) (pz f t m (o + 1) ns p).2) (false, (pz f t m (o + 1) ns p).2))).2
    have h1 := pz_ge m (o + 1) ns p
    cases Nat.ble 3 o with
    | true => exact Nat.le_trans (zmi_ge 40 p) (zth_ge (fun q => pz_ge m 0 (ns + 1) q))
    | false =>
      cases (pz f t m (o + 1) ns p).1 with
      | true => exact Nat.le_trans h1 (zlp_ge (fun q => pz_ge m (o + 1) ns q) _ _)
      | false => exact h1
theorem nbr_z {tp : Nat → Int32} : ∀ (k a : Nat) (v : Int32), (nbr tp t k a v).1 = znb tp t k a
  | 0, _, _ => rfl
  | k + 1, a, v => by
    show (cond (dg tp a t) (nbr tp t k (a + 1) (10 * v + tp a - 48)) (a, v)).1 = cond (dg tp a t) (znb tp t k (a + 1)) a
    cases dg tp a t with
    | true => exact nbr_z k (a + 1) _
    | false => rfl
end ZRE
/-! the reference's reader: steps -/
section ZRM
variable {n fr lo sl p t ns : Nat} {h : pm_H} {R : pm_Rs} {tp : Nat → Int32} {v : Int32} {v18 : Value}
theorem nI_pr1 (n : Nat) : nI (n + 1) - Int32.ofInt 1 = nI n := by
  rw [show nI (n + 1) = nI n + Int32.ofInt 1 from Int32.ofNat_add n 1]
  exact Int32.add_sub_cancel _ _
def qM (h : pm_H) (p t : Nat) (tp : Nat → Int32) : Prop := (mF h 16 (.int (nI p)) ∧ mF h 17 (.int (nI t)) ∧ mF h 14 (.ref 172) ∧ h 172 = .inl (0, 80, .inl tp)) ∧ mF h 22 (.ref 175) ∧ ∃ c : Int32, mF h 24 (.int c)
theorem qM_16 {p' : Nat} (q : qM h p t tp) : qM (mset h 16 (.int (nI p'))) p' t tp := by
  obtain ⟨⟨a1, a2, a3, a4⟩, a5, c, a6⟩ := q
  exact ⟨⟨mF_self a1, mF_ne (by decide) a2, mF_ne (by decide) a3, mset_arr (by decide) a4⟩, mF_ne (by decide) a5, c, mF_ne (by decide) a6⟩
theorem qM_18 {w : Value} (q : qM h p t tp) : qM (mset h 18 w) p t tp := by
  obtain ⟨⟨a1, a2, a3, a4⟩, a5, c, a6⟩ := q
  exact ⟨⟨mF_ne (by decide) a1, mF_ne (by decide) a2, mF_ne (by decide) a3, mset_arr (by decide) a4⟩, mF_ne (by decide) a5, c, mF_ne (by decide) a6⟩
theorem cod_run (q : qM h p t tp) (hh : pm_run PT n fr lo 193 (0, pm_l0 [.ref 162, .int v] 2, [], h, 198, sl) = some R) : R.1 = none ∧ qM R.2.1 p t tp ∧ (∀ w, mF h 18 w → mF R.2.1 18 w) ∧ R.2.2 = (198, sl) := by
  obtain ⟨⟨a1, a2, a3, a4⟩, a5, c, a6⟩ := q
  obtain ⟨n, hh⟩ := rn_i rfl rfl rfl rfl hh
  obtain ⟨n, hh⟩ := rn_gfm rfl rfl a5 hh
  obtain ⟨n, hh⟩ := rn_i rfl rfl rfl rfl hh
  obtain ⟨n, hh⟩ := rn_gfm rfl rfl a6 hh
  obtain ⟨n, hh⟩ := rn_i rfl rfl rfl rfl hh
  have hh : pm_run PT n fr lo 193 (9, [some (.ref 162), some (.int v)], [.int v, .int c, .ref 175], h, 198, sl) = some R := hh
  obtain ⟨n, kd, q, f1, hh⟩ := rn_isx rfl hh
  have b1 := up_mF (a := 175) (e := .inl (kd, q, .inl f1)) (by decide) a1
  have b2 := up_mF (a := 175) (e := .inl (kd, q, .inl f1)) (by decide) a2
  have b3 := up_mF (a := 175) (e := .inl (kd, q, .inl f1)) (by decide) a3
  have b4 : va_up h 175 (.inl (kd, q, .inl f1)) 172 = .inl (0, 80, .inl tp) := (up_ne (by decide)).trans a4
  have b5 := up_mF (a := 175) (e := .inl (kd, q, .inl f1)) (by decide) a5
  have b6 := up_mF (a := 175) (e := .inl (kd, q, .inl f1)) (by decide) a6
  have b8 : ∀ w, mF h 18 w → mF (va_up h 175 (.inl (kd, q, .inl f1))) 18 w := fun w hw => up_mF (by decide) hw
  generalize va_up h 175 (.inl (kd, q, .inl f1)) = h1 at hh b1 b2 b3 b4 b5 b6 b8
  have hh : pm_run PT n fr lo 193 (10, [some (.ref 162), some (.int v)], [], h1, 198, sl) = some R := hh
  obtain ⟨n, hh⟩ := rn_i rfl rfl rfl rfl hh
  obtain ⟨n, hh⟩ := rn_i rfl rfl rfl rfl hh
  obtain ⟨n, hh⟩ := rn_gfm rfl rfl b6 hh
  obtain ⟨n, hh⟩ := rn_i rfl rfl rfl rfl hh
  obtain ⟨n, hh⟩ := rn_i rfl rfl rfl rfl hh
  have hh : pm_run PT n fr lo 193 (17, [some (.ref 162), some (.int v)], [.int (c + 1), .ref 162], h1, 198, sl) = some R := hh
  obtain ⟨n, hh⟩ := rn_pfm (w := .int c) rfl rfl rfl (by decide) b6 hh
  have e := rn_vret rfl rfl hh
  rw [e]
  exact ⟨rfl, ⟨⟨mF_ne (by decide) b1, mF_ne (by decide) b2, mF_ne (by decide) b3, mset_arr (by decide) b4⟩, mF_ne (by decide) b5, _, mF_self b6⟩, fun w hw => mF_ne (by decide) (b8 w hw), rfl⟩
theorem tk_run {c : Nat} (ht : t ≤ 40) (hp : p ≤ t) (q : qM h p t tp) (hh : pm_run PT n fr lo 181 (0, pm_l0 [.ref 162, .int (nI c)] 3, [], h, 198, sl) = some R) : R = (some (.int (cond (decide (p < t ∧ tp p = nI c)) 1 0)), mset h 16 (.int (nI (p + cond (decide (p < t ∧ tp p = nI c)) 1 0))), 198, sl) := by
  have e := rn_dt (F := 10) (Lo := 1000) (hd_takes (fr := 10) (lo := 1000) (sl := sl) q.1.1 q.1.2.1 q.1.2.2.1 q.1.2.2.2 (by omega) (by omega) (by omega) (by omega) (nI c)) hh
  exact e
theorem ig_run (ht : t ≤ 40) (hp : p ≤ t) (q : qM h p t tp) (hh : pm_run PT n fr lo 182 (0, pm_l0 [.ref 162] 1, [], h, 198, sl) = some R) : R = (some (.int (cond (dg tp p t) 1 0)), h, 198, sl) := by
  have e := rn_dt (F := 10) (Lo := 1000) (hd_isDigit (fr := 10) (lo := 1000) (sl := sl) q.1.1 q.1.2.1 q.1.2.2.1 q.1.2.2.2 (by omega) (by omega) (by omega) (by omega)) hh
  exact e
theorem nu_run (ht : t ≤ 40) (hp : p ≤ t) (q : qM h p t tp) (z : dg tp p t = true) (hh : pm_run PT n fr lo 184 (0, pm_l0 [.ref 162, .int (nI 3)] 4, [], h, 198, sl) = some R) : ∃ v : Int32, R = (some (.int v), mset h 16 (.int (nI (znb tp t 3 p))), 198, sl) := by
  have e := rn_dt (F := 10) (Lo := 1000) (hd_number (fr := 10) (lo := 1000) (sl := sl) q.1.1 q.1.2.1 q.1.2.2.1 q.1.2.2.2 (by omega) (by omega) (by omega) (by omega) (d := 3) (by omega)) hh
  rw [z, nbr_z] at e
  exact ⟨_, e⟩
theorem to_run {i : Nat} (hi : i < 5) (ht : t ≤ 40) (hp : p ≤ t) (q : qM h p t tp) (hh : pm_run PT n fr lo 183 (0, pm_l0 [.ref 162, .retAddr i] 3, [], h, 198, sl) = some R) : R = tkr h p sl (tko i tp p t (st_tx i).length 0) := by
  have e := rn_dt (F := 10) (Lo := 1000) (hd_takesOf (fr := 10) (lo := 1000) (sl := sl) q.1.1 q.1.2.1 q.1.2.2.1 q.1.2.2.2 (by omega) (by omega) (by omega) (by omega) hi) hh
  exact e
theorem tk_let (hl : p < t) : (tko 0 tp p t 7 0).isSome = zlet (tp p) := by
  have c0 : (st_tx 0).getD 0 0 = nI 119 := by decide +kernel
  have c1 : (st_tx 0).getD 1 0 = nI 107 := by decide +kernel
  have c2 : (st_tx 0).getD 2 0 = nI 114 := by decide +kernel
  have c3 : (st_tx 0).getD 3 0 = nI 115 := by decide +kernel
  have c4 : (st_tx 0).getD 4 0 = nI 104 := by decide +kernel
  have c5 : (st_tx 0).getD 5 0 = nI 101 := by decide +kernel
  have c6 : (st_tx 0).getD 6 0 = nI 100 := by decide +kernel
  show (cond (decide (p < t) && decide ((st_tx 0).getD 0 0 = tp p)) (some 0) (cond (decide (p < t) && decide ((st_tx 0).getD 1 0 = tp p)) (some 1) (cond (decide (p < t) && decide ((st_tx 0).getD 2 0 = tp p)) (some 2) (cond (decide (p < t) && decide ((st_tx 0).getD 3 0 = tp p)) (some 3) (cond (decide (p < t) && decide ((st_tx 0).getD 4 0 = tp p)) (some 4) (cond (decide (p < t) && decide ((st_tx 0).getD 5 0 = tp p)) (some 5) (cond (decide (p < t) && decide ((st_tx 0).getD 6 0 = tp p)) (some 6) none))))))).isSome = zlet (tp p)
  rw [decide_eq_true hl, c0, c1, c2, c3, c4, c5, c6]
  by_cases e0 : nI 119 = tp p
  · rw [decide_eq_true e0, show zlet (tp p) = true from decide_eq_true (Or.inl e0.symm)]
    rfl
  · rw [decide_eq_false e0]
    by_cases e1 : nI 107 = tp p
    · rw [decide_eq_true e1, show zlet (tp p) = true from decide_eq_true (Or.inr (Or.inl e1.symm))]
      rfl
    · rw [decide_eq_false e1]
      by_cases e2 : nI 114 = tp p
      · rw [decide_eq_true e2, show zlet (tp p) = true from decide_eq_true (Or.inr (Or.inr (Or.inl e2.symm)))]
        rfl
      · rw [decide_eq_false e2]
        by_cases e3 : nI 115 = tp p
        · rw [decide_eq_true e3, show zlet (tp p) = true from decide_eq_true (Or.inr (Or.inr (Or.inr (Or.inl e3.symm))))]
          rfl
        · rw [decide_eq_false e3]
          by_cases e4 : nI 104 = tp p
          · rw [decide_eq_true e4, show zlet (tp p) = true from decide_eq_true (Or.inr (Or.inr (Or.inr (Or.inr (Or.inl e4.symm)))))]
            rfl
          · rw [decide_eq_false e4]
            by_cases e5 : nI 101 = tp p
            · rw [decide_eq_true e5, show zlet (tp p) = true from decide_eq_true (Or.inr (Or.inr (Or.inr (Or.inr (Or.inr (Or.inl e5.symm))))))]
              rfl
            · rw [decide_eq_false e5]
              by_cases e6 : nI 100 = tp p
              · rw [decide_eq_true e6, show zlet (tp p) = true from decide_eq_true (Or.inr (Or.inr (Or.inr (Or.inr (Or.inr (Or.inr (e6.symm)))))))]
                rfl
              · rw [decide_eq_false e6]
                rw [show zlet (tp p) = false from decide_eq_false (fun q => by
                  rcases q with q | q | q | q | q | q | q
                  · exact e0 q.symm
                  · exact e1 q.symm
                  · exact e2 q.symm
                  · exact e3 q.symm
                  · exact e4 q.symm
                  · exact e5 q.symm
                  · exact e6 q.symm
                  )]
                rfl
theorem tk_l0 (hl : p < t) : (tko 1 tp p t 3 0).isSome = zlev 0 (tp p) := by
  have c0 : (st_tx 1).getD 0 0 = nI 60 := by decide +kernel
  have c1 : (st_tx 1).getD 1 0 = nI 62 := by decide +kernel
  have c2 : (st_tx 1).getD 2 0 = nI 61 := by decide +kernel
  show (cond (decide (p < t) && decide ((st_tx 1).getD 0 0 = tp p)) (some 0) (cond (decide (p < t) && decide ((st_tx 1).getD 1 0 = tp p)) (some 1) (cond (decide (p < t) && decide ((st_tx 1).getD 2 0 = tp p)) (some 2) none))).isSome = zlev 0 (tp p)
  rw [decide_eq_true hl, c0, c1, c2]
  by_cases e0 : nI 60 = tp p
  · rw [decide_eq_true e0, show zlev 0 (tp p) = true from decide_eq_true (Or.inl e0.symm)]
    rfl
  · rw [decide_eq_false e0]
    by_cases e1 : nI 62 = tp p
    · rw [decide_eq_true e1, show zlev 0 (tp p) = true from decide_eq_true (Or.inr (Or.inr (e1.symm)))]
      rfl
    · rw [decide_eq_false e1]
      by_cases e2 : nI 61 = tp p
      · rw [decide_eq_true e2, show zlev 0 (tp p) = true from decide_eq_true (Or.inr (Or.inl e2.symm))]
        rfl
      · rw [decide_eq_false e2]
        rw [show zlev 0 (tp p) = false from decide_eq_false (fun q => by
          rcases q with q | q | q
          · exact e0 q.symm
          · exact e2 q.symm
          · exact e1 q.symm
          )]
        rfl
theorem tk_l1 (hl : p < t) : (tko 2 tp p t 2 0).isSome = zlev 1 (tp p) := by
  have c0 : (st_tx 2).getD 0 0 = nI 43 := by decide +kernel
  have c1 : (st_tx 2).getD 1 0 = nI 45 := by decide +kernel
  show (cond (decide (p < t) && decide ((st_tx 2).getD 0 0 = tp p)) (some 0) (cond (decide (p < t) && decide ((st_tx 2).getD 1 0 = tp p)) (some 1) none)).isSome = zlev 1 (tp p)
  rw [decide_eq_true hl, c0, c1]
  by_cases e0 : nI 43 = tp p
  · rw [decide_eq_true e0, show zlev 1 (tp p) = true from decide_eq_true (Or.inl e0.symm)]
    rfl
  · rw [decide_eq_false e0]
    by_cases e1 : nI 45 = tp p
    · rw [decide_eq_true e1, show zlev 1 (tp p) = true from decide_eq_true (Or.inr (e1.symm))]
      rfl
    · rw [decide_eq_false e1]
      rw [show zlev 1 (tp p) = false from decide_eq_false (fun q => by
        rcases q with q | q
        · exact e0 q.symm
        · exact e1 q.symm
        )]
      rfl
theorem tk_l2 (hl : p < t) : (tko 3 tp p t 2 0).isSome = zlev 2 (tp p) := by
  have c0 : (st_tx 3).getD 0 0 = nI 42 := by decide +kernel
  have c1 : (st_tx 3).getD 1 0 = nI 47 := by decide +kernel
  show (cond (decide (p < t) && decide ((st_tx 3).getD 0 0 = tp p)) (some 0) (cond (decide (p < t) && decide ((st_tx 3).getD 1 0 = tp p)) (some 1) none)).isSome = zlev 2 (tp p)
  rw [decide_eq_true hl, c0, c1]
  by_cases e0 : nI 42 = tp p
  · rw [decide_eq_true e0, show zlev 2 (tp p) = true from decide_eq_true (Or.inl e0.symm)]
    rfl
  · rw [decide_eq_false e0]
    by_cases e1 : nI 47 = tp p
    · rw [decide_eq_true e1, show zlev 2 (tp p) = true from decide_eq_true (Or.inr (e1.symm))]
      rfl
    · rw [decide_eq_false e1]
      rw [show zlev 2 (tp p) = false from decide_eq_false (fun q => by
        rcases q with q | q
        · exact e0 q.symm
        · exact e1 q.symm
        )]
      rfl
theorem tk_no {i n : Nat} (hl : ¬ p < t) : (tko i tp p t n 0).isSome = false := by
  rw [tko_end hl]
  rfl
def zM (R : pm_Rs) (t sl ns : Nat) (tp : Nat → Int32) (r : Bool × Nat) : Prop := R.1 = some (.int (cond r.1 1 0)) ∧ qM R.2.1 r.2 t tp ∧ (r.1 = true → mF R.2.1 18 (.int (nI ns))) ∧ R.2.2 = (198, sl)
def rM (m t : Nat) (tp : Nat → Int32) : Prop := ∀ (lv ns p n fr lo sl : Nat) (h : pm_H) (R : pm_Rs), lv ≤ 3 → ns ≤ 4 → (4 - lv) + 4 * (4 - ns) ≤ m → p ≤ t → qM h p t tp → mF h 18 (.int (nI ns)) → pm_run PT n fr lo 195 (0, pm_l0 [.ref 162, .int (nI lv)] 4, [], h, 198, sl) = some R → zM R t sl ns tp (pz tp t m lv ns p)
theorem thm_run {m ns : Nat} {tp : Nat → Int32} (ht : t ≤ 40) (ih : rM m t tp) (hns : ns ≤ 4) (hm : 4 * (4 - ns) ≤ m) : ∀ (d p n fr lo sl : Nat) (h : pm_H) (R : pm_Rs), t - p ≤ d → p ≤ t → qM h p t tp → mF h 18 (.int (nI ns)) → pm_run PT n fr lo 194 (0, pm_l0 [.ref 162] 2, [], h, 198, sl) = some R → zM R t sl ns tp (zth (pz tp t m 0 (ns + 1)) tp t ns (zmi tp t 40 p)) := by
  intro d
  induction d with
  | zero =>
    intro p n fr lo sl h R hd hp q h18 hh
    obtain ⟨n, hh⟩ := rn_i rfl rfl rfl rfl hh
    obtain ⟨n, hh⟩ := rn_i rfl rfl rfl rfl hh
    have hh : pm_run PT n fr lo 194 (3, [some (.ref 162), none], [.int (nI 45), .ref 162], h, 198, sl) = some R := hh
    obtain ⟨n, fr', lo', r1, hr1, hh⟩ := rn_call (w := 0) (t := 181) rfl rfl hh
    have er := tk_run (c := 45) ht hp q hr1
    subst er
    cases zb : decide (p < t ∧ tp p = nI 45) with
    | false =>
      rw [zb] at hh
      have q1 := qM_16 (p' := p + 0) q
      have g18 : mF (mset h 16 (.int (nI (p + 0)))) 18 (.int (nI ns)) := mF_ne (by decide) h18
      have hh : pm_run PT n fr lo 194 (6, [some (.ref 162), none], [.int 0], (mset h 16 (.int (nI (p + 0)))), 198, sl) = some R := hh
      generalize mset h 16 (.int (nI (p + 0))) = h1 at *
      have q1 : qM h1 p t tp := q1
      have hh : pm_run PT n fr lo 194 (6, [some (.ref 162), none], [.int 0], h1, 198, sl) = some R := hh
      obtain ⟨n, hh⟩ := rn_if (cc := .eq) (off := 17) (t := 23) rfl rfl hh
      have hh : pm_run PT n fr lo 194 (23, [some (.ref 162), none], [], h1, 198, sl) = some R := hh
      have ez : zmi tp t 40 p = p := by
        show cond (decide (p < t ∧ tp p = nI 45)) (zmi tp t 39 (p + 1)) p = p
        rw [zb]
        rfl
      rw [ez]
      unfold zth
      obtain ⟨n, hh⟩ := rn_i rfl rfl rfl rfl hh
      obtain ⟨n, fr', lo', r1, hr1, hh⟩ := rn_call (w := 0) (t := 182) rfl rfl hh
      have er := ig_run ht hp q1 hr1
      subst er
      have hh : pm_run PT n fr lo 194 (27, [some (.ref 162), none], [.int (cond (dg tp p t) 1 0)], h1, 198, sl) = some R := hh
      obtain ⟨n, hh⟩ := rn_if (cc := .eq) (off := 14) (t := 41) rfl rfl hh
      cases zd : dg tp p t with
      | true =>
        rw [zd] at hh
        have hh : pm_run PT n fr lo 194 (30, [some (.ref 162), none], [], h1, 198, sl) = some R := hh
        obtain ⟨n, hh⟩ := rn_i rfl rfl rfl rfl hh
        obtain ⟨n, hh⟩ := rn_i rfl rfl rfl rfl hh
        obtain ⟨n, hh⟩ := rn_i rfl rfl rfl rfl hh
        have hh : pm_run PT n fr lo 194 (33, [some (.ref 162), none], [.int (nI 3), .ref 162, .ref 162], h1, 198, sl) = some R := hh
        obtain ⟨n, fr', lo', r1, hr1, hh⟩ := rn_call (w := 0) (t := 184) rfl rfl hh
        obtain ⟨v, er⟩ := nu_run ht hp q1 zd hr1
        subst er
        have q2 := qM_16 (p' := znb tp t 3 p) q1
        have g2 : mF (mset h1 16 (.int (nI (znb tp t 3 p)))) 18 (.int (nI ns)) := mF_ne (by decide) g18
        have hh : pm_run PT n fr lo 194 (36, [some (.ref 162), none], [.int v, .ref 162], (mset h1 16 (.int (nI (znb tp t 3 p)))), 198, sl) = some R := hh
        generalize mset h1 16 (.int (nI (znb tp t 3 p))) = h2 at *
        have hh : pm_run PT n fr lo 194 (36, [some (.ref 162), none], [.int v, .ref 162], h2, 198, sl) = some R := hh
        obtain ⟨n, fr', lo', r1, hr1, hh⟩ := rn_call (w := 0) (t := 193) rfl rfl hh
        obtain ⟨b1, b2, b3, b4⟩ := cod_run q2 hr1
        obtain ⟨rv, h3, s3⟩ := r1
        dsimp only at b1 b2 b3 b4
        subst b1
        subst b4
        have hh : pm_run PT n fr lo 194 (39, [some (.ref 162), none], [], h3, 198, sl) = some R := hh
        obtain ⟨n, hh⟩ := rn_i rfl rfl rfl rfl hh
        have e := (rn_ret rfl (Or.inr rfl) hh).2
        rw [e]
        exact ⟨rfl, b2, fun _ => b3 _ g2, rfl⟩
      | false =>
        rw [zd] at hh
        have hh : pm_run PT n fr lo 194 (41, [some (.ref 162), none], [], h1, 198, sl) = some R := hh
        obtain ⟨n, hh⟩ := rn_i rfl rfl rfl rfl hh
        obtain ⟨n, hh⟩ := rn_i rfl rfl rfl rfl hh
        have hh : pm_run PT n fr lo 194 (44, [some (.ref 162), none], [.retAddr 0, .ref 162], h1, 198, sl) = some R := hh
        obtain ⟨n, fr', lo', r1, hr1, hh⟩ := rn_call (w := 0) (t := 183) rfl rfl hh
        have er := to_run (i := 0) (by decide) ht hp q1 hr1
        have el : (tko 0 tp p t (st_tx 0).length 0).isSome = (decide (p < t) && zlet (tp p)) := by
          by_cases y : p < t
          · rw [decide_eq_true y, Bool.true_and]
            exact tk_let y
          · rw [decide_eq_false y, Bool.false_and]
            exact tk_no y
        rw [← el]
        cases zt : tko 0 tp p t (st_tx 0).length 0 with
        | some j =>
          have hj := tko_some zt
          rw [zt] at er
          have er : r1 = (some (.int (nI j)), mset h1 16 (.int (nI (p + 1))), 198, sl) := er
          subst er
          have hj2 : j < 7 := by
            have : (st_tx 0).length = 7 := by decide +kernel
            omega
          have q2 := qM_16 (p' := p + 1) q1
          have g2 : mF (mset h1 16 (.int (nI (p + 1)))) 18 (.int (nI ns)) := mF_ne (by decide) g18
          have hh : pm_run PT n fr lo 194 (47, [some (.ref 162), none], [.int (nI j)], (mset h1 16 (.int (nI (p + 1)))), 198, sl) = some R := hh
          generalize mset h1 16 (.int (nI (p + 1))) = h2 at *
          have hh : pm_run PT n fr lo 194 (47, [some (.ref 162), none], [.int (nI j)], h2, 198, sl) = some R := hh
          obtain ⟨n, hh⟩ := rn_i rfl rfl rfl rfl hh
          obtain ⟨n, hh⟩ := rn_i rfl rfl rfl rfl hh
          have hh : pm_run PT n fr lo 194 (49, [some (.ref 162), some (.int (nI j))], [.int (nI j)], h2, 198, sl) = some R := hh
          obtain ⟨n, hh⟩ := rn_if (cc := .lt) (off := 14) (t := 63) rfl rfl hh
          rw [lt0_val (by rw [nI_toInt (by omega)]; omega)] at hh
          have hh : pm_run PT n fr lo 194 (52, [some (.ref 162), some (.int (nI j))], [], h2, 198, sl) = some R := hh
          obtain ⟨n, hh⟩ := rn_i rfl rfl rfl rfl hh
          obtain ⟨n, hh⟩ := rn_i rfl rfl rfl rfl hh
          obtain ⟨n, hh⟩ := rn_i rfl rfl rfl rfl hh
          obtain ⟨n, hh⟩ := rn_i rfl rfl rfl rfl hh
          have hh : pm_run PT n fr lo 194 (58, [some (.ref 162), some (.int (nI j))], [.int (1000 + (nI j)), .ref 162], h2, 198, sl) = some R := hh
          obtain ⟨n, fr', lo', r1, hr1, hh⟩ := rn_call (w := 0) (t := 193) rfl rfl hh
          obtain ⟨b1, b2, b3, b4⟩ := cod_run q2 hr1
          obtain ⟨rv, h3, s3⟩ := r1
          dsimp only at b1 b2 b3 b4
          subst b1
          subst b4
          have hh : pm_run PT n fr lo 194 (61, [some (.ref 162), some (.int (nI j))], [], h3, 198, sl) = some R := hh
          obtain ⟨n, hh⟩ := rn_i rfl rfl rfl rfl hh
          have e := (rn_ret rfl (Or.inr rfl) hh).2
          rw [e]
          exact ⟨rfl, b2, fun _ => b3 _ g2, rfl⟩
        | none =>
          rw [zt] at er
          have er : r1 = (some (.int (-1)), h1, 198, sl) := er
          subst er
          have hh : pm_run PT n fr lo 194 (47, [some (.ref 162), none], [.int (-1)], h1, 198, sl) = some R := hh
          obtain ⟨n, hh⟩ := rn_i rfl rfl rfl rfl hh
          obtain ⟨n, hh⟩ := rn_i rfl rfl rfl rfl hh
          have hh : pm_run PT n fr lo 194 (49, [some (.ref 162), some (.int (-1))], [.int (-1)], h1, 198, sl) = some R := hh
          obtain ⟨n, hh⟩ := rn_if (cc := .lt) (off := 14) (t := 63) rfl rfl hh
          have hh : pm_run PT n fr lo 194 (63, [some (.ref 162), some (.int (-1))], [], h1, 198, sl) = some R := hh
          have no : ∀ (n : Nat) (h2 : pm_H), qM h2 p t tp → pm_run PT n fr lo 194 (80, [some (.ref 162), some (.int (-1))], [], h2, 198, sl) = some R → zM R t sl ns tp (false, p) := by
            intro n h2 q2 hh
            obtain ⟨n, hh⟩ := rn_i rfl rfl rfl rfl hh
            have e := (rn_ret rfl (Or.inr rfl) hh).2
            rw [e]
            exact ⟨rfl, q2, fun e => (by cases e), rfl⟩
          obtain ⟨n, hh⟩ := rn_i rfl rfl rfl rfl hh
          obtain ⟨n, hh⟩ := rn_gfm rfl rfl g18 hh
          obtain ⟨n, hh⟩ := rn_i rfl rfl rfl rfl hh
          have hh : pm_run PT n fr lo 194 (68, [some (.ref 162), some (.int (-1))], [.int (nI 4), .int (nI ns)], h1, 198, sl) = some R := hh
          obtain ⟨n, hh⟩ := rn_icmp (cc := .eq) (off := 12) (t := 80) rfl rfl hh
          rw [hI_eq (by omega) (by omega)] at hh
          by_cases z4 : ns = 4
          · rw [decide_eq_true z4] at hh
            rw [decide_eq_false (show ¬ ns < 4 by omega), Bool.and_false]
            exact no n h1 q1 hh
          · rw [decide_eq_false z4] at hh
            rw [decide_eq_true (show ns < 4 by omega), Bool.and_true]
            have hh : pm_run PT n fr lo 194 (71, [some (.ref 162), some (.int (-1))], [], h1, 198, sl) = some R := hh
            obtain ⟨n, hh⟩ := rn_i rfl rfl rfl rfl hh
            obtain ⟨n, hh⟩ := rn_i rfl rfl rfl rfl hh
            have hh : pm_run PT n fr lo 194 (74, [some (.ref 162), some (.int (-1))], [.int (nI 40), .ref 162], h1, 198, sl) = some R := hh
            obtain ⟨n, fr', lo', r1, hr1, hh⟩ := rn_call (w := 0) (t := 181) rfl rfl hh
            have er := tk_run (c := 40) ht hp q1 hr1
            subst er
            cases zo : decide (p < t ∧ tp p = nI 40) with
            | false =>
              rw [zo] at hh
              have q2 := qM_16 (p' := p + 0) q1
              have hh : pm_run PT n fr lo 194 (77, [some (.ref 162), some (.int (-1))], [.int 0], mset h1 16 (.int (nI (p + 0))), 198, sl) = some R := hh
              obtain ⟨n, hh⟩ := rn_i rfl rfl rfl rfl hh
              exact no n _ q2 hh
            | true =>
              rw [zo] at hh
              have hl := (of_decide_eq_true zo).1
              have q2 := qM_16 (p' := p + 1) q1
              have g2 : mF (mset h1 16 (.int (nI (p + 1)))) 18 (.int (nI ns)) := mF_ne (by decide) g18
              have hh : pm_run PT n fr lo 194 (77, [some (.ref 162), some (.int (-1))], [.int 1], (mset h1 16 (.int (nI (p + 1)))), 198, sl) = some R := hh
              generalize mset h1 16 (.int (nI (p + 1))) = h2 at *
              have hh : pm_run PT n fr lo 194 (77, [some (.ref 162), some (.int (-1))], [.int 1], h2, 198, sl) = some R := hh
              obtain ⟨n, hh⟩ := rn_if (cc := .ne) (off := 5) (t := 82) rfl rfl hh
              have hh : pm_run PT n fr lo 194 (82, [some (.ref 162), some (.int (-1))], [], h2, 198, sl) = some R := hh
              obtain ⟨n, hh⟩ := rn_i rfl rfl rfl rfl hh
              obtain ⟨n, hh⟩ := rn_i rfl rfl rfl rfl hh
              obtain ⟨n, hh⟩ := rn_gfm rfl rfl g2 hh
              obtain ⟨n, hh⟩ := rn_i rfl rfl rfl rfl hh
              obtain ⟨n, hh⟩ := rn_i rfl rfl rfl rfl hh
              have hh : pm_run PT n fr lo 194 (89, [some (.ref 162), some (.int (-1))], [.int ((nI ns) + 1), .ref 162], h2, 198, sl) = some R := hh
              obtain ⟨n, hh⟩ := rn_pfm (w := .int (nI ns)) rfl rfl rfl (by decide) g2 hh
              have hh : pm_run PT n fr lo 194 (92, [some (.ref 162), some (.int (-1))], [], (mset h2 18 (.int (nI ns + Int32.ofInt 1))), 198, sl) = some R := hh
              rw [show nI ns + Int32.ofInt 1 = nI (ns + 1) from (Int32.ofNat_add ns 1).symm] at hh
              have q3 := qM_18 (w := .int (nI (ns + 1))) q2
              have g3 : mF (mset h2 18 (.int (nI (ns + 1)))) 18 (.int (nI (ns + 1))) := mF_self g2
              generalize mset h2 18 (.int (nI (ns + 1))) = h3 at *
              have hh : pm_run PT n fr lo 194 (92, [some (.ref 162), some (.int (-1))], [], h3, 198, sl) = some R := hh
              obtain ⟨n, hh⟩ := rn_i rfl rfl rfl rfl hh
              obtain ⟨n, hh⟩ := rn_i rfl rfl rfl rfl hh
              have hh : pm_run PT n fr lo 194 (94, [some (.ref 162), some (.int (-1))], [.int (nI 0), .ref 162], h3, 198, sl) = some R := hh
              obtain ⟨n, fr', lo', r1, hr1, hh⟩ := rn_call (w := 0) (t := 195) rfl rfl hh
              obtain ⟨b1, b2, b3, b4⟩ := ih 0 (ns + 1) (p + 1) _ _ _ _ _ _ (by omega) (by omega) (by omega) (by omega) q3 g3 hr1
              obtain ⟨rv, h4, s4⟩ := r1
              dsimp only at b1 b2 b3 b4
              subst b1
              subst b4
              have hle := pz_le (f := tp) (t := t) m 0 (ns + 1) (p + 1) (by omega)
              have hh : pm_run PT n fr lo 194 (97, [some (.ref 162), some (.int (-1))], [.int (cond (pz tp t m 0 (ns + 1) (p + 1)).1 1 0)], h4, 198, sl) = some R := hh
              generalize pz tp t m 0 (ns + 1) (p + 1) = r at *
              obtain ⟨rb, rp⟩ := r
              dsimp only at b2 b3 hle hh ⊢
              have hh : pm_run PT n fr lo 194 (97, [some (.ref 162), some (.int (-1))], [.int (cond rb 1 0)], h4, 198, sl) = some R := hh
              obtain ⟨n, hh⟩ := rn_if (cc := .eq) (off := 12) (t := 109) rfl rfl hh
              have no2 : ∀ (n : Nat) (h5 : pm_H), qM h5 rp t tp → pm_run PT n fr lo 194 (109, [some (.ref 162), some (.int (-1))], [], h5, 198, sl) = some R → zM R t sl ns tp (false, rp) := by
                intro n h5 q5 hh
                obtain ⟨n, hh⟩ := rn_i rfl rfl rfl rfl hh
                have e := (rn_ret rfl (Or.inr rfl) hh).2
                rw [e]
                exact ⟨rfl, q5, fun e => (by cases e), rfl⟩
              cases rb with
              | false => exact no2 n h4 b2 hh
              | true =>
                have g4 := b3 rfl
                have hh : pm_run PT n fr lo 194 (100, [some (.ref 162), some (.int (-1))], [], h4, 198, sl) = some R := hh
                obtain ⟨n, hh⟩ := rn_i rfl rfl rfl rfl hh
                obtain ⟨n, hh⟩ := rn_i rfl rfl rfl rfl hh
                have hh : pm_run PT n fr lo 194 (103, [some (.ref 162), some (.int (-1))], [.int (nI 41), .ref 162], h4, 198, sl) = some R := hh
                obtain ⟨n, fr', lo', r1, hr1, hh⟩ := rn_call (w := 0) (t := 181) rfl rfl hh
                have er := tk_run (c := 41) ht hle b2 hr1
                subst er
                cases zc : decide (rp < t ∧ tp rp = nI 41) with
                | false =>
                  rw [zc] at hh
                  have q5 := qM_16 (p' := rp + 0) b2
                  have hh : pm_run PT n fr lo 194 (106, [some (.ref 162), some (.int (-1))], [.int 0], mset h4 16 (.int (nI (rp + 0))), 198, sl) = some R := hh
                  obtain ⟨n, hh⟩ := rn_i rfl rfl rfl rfl hh
                  exact no2 n _ q5 hh
                | true =>
                  rw [zc] at hh
                  have q5 := qM_16 (p' := rp + 1) b2
                  have g5 : mF (mset h4 16 (.int (nI (rp + 1)))) 18 (.int (nI (ns + 1))) := mF_ne (by decide) g4
                  have hh : pm_run PT n fr lo 194 (106, [some (.ref 162), some (.int (-1))], [.int 1], (mset h4 16 (.int (nI (rp + 1)))), 198, sl) = some R := hh
                  generalize mset h4 16 (.int (nI (rp + 1))) = h5 at *
                  have hh : pm_run PT n fr lo 194 (106, [some (.ref 162), some (.int (-1))], [.int 1], h5, 198, sl) = some R := hh
                  obtain ⟨n, hh⟩ := rn_if (cc := .ne) (off := 5) (t := 111) rfl rfl hh
                  have hh : pm_run PT n fr lo 194 (111, [some (.ref 162), some (.int (-1))], [], h5, 198, sl) = some R := hh
                  obtain ⟨n, hh⟩ := rn_i rfl rfl rfl rfl hh
                  obtain ⟨n, hh⟩ := rn_i rfl rfl rfl rfl hh
                  obtain ⟨n, hh⟩ := rn_gfm rfl rfl g5 hh
                  obtain ⟨n, hh⟩ := rn_i rfl rfl rfl rfl hh
                  obtain ⟨n, hh⟩ := rn_i rfl rfl rfl rfl hh
                  have hh : pm_run PT n fr lo 194 (118, [some (.ref 162), some (.int (-1))], [.int ((nI (ns + 1)) - 1), .ref 162], h5, 198, sl) = some R := hh
                  rw [show nI (ns + 1) - 1 = nI ns from nI_pr1 ns] at hh
                  obtain ⟨n, hh⟩ := rn_pfm (w := .int (nI (ns + 1))) rfl rfl rfl (by decide) g5 hh
                  have q6 := qM_18 (w := .int (nI ns)) q5
                  have g6 : mF (mset h5 18 (.int (nI ns))) 18 (.int (nI ns)) := mF_self g5
                  obtain ⟨n, hh⟩ := rn_i rfl rfl rfl rfl hh
                  have e := (rn_ret rfl (Or.inr rfl) hh).2
                  rw [e]
                  exact ⟨rfl, q6, fun _ => g6, rfl⟩
    | true =>
      have hl := (of_decide_eq_true zb).1
      omega
  | succ d ihd =>
    intro p n fr lo sl h R hd hp q h18 hh
    obtain ⟨n, hh⟩ := rn_i rfl rfl rfl rfl hh
    obtain ⟨n, hh⟩ := rn_i rfl rfl rfl rfl hh
    have hh : pm_run PT n fr lo 194 (3, [some (.ref 162), none], [.int (nI 45), .ref 162], h, 198, sl) = some R := hh
    obtain ⟨n, fr', lo', r1, hr1, hh⟩ := rn_call (w := 0) (t := 181) rfl rfl hh
    have er := tk_run (c := 45) ht hp q hr1
    subst er
    cases zb : decide (p < t ∧ tp p = nI 45) with
    | false =>
      rw [zb] at hh
      have q1 := qM_16 (p' := p + 0) q
      have g18 : mF (mset h 16 (.int (nI (p + 0)))) 18 (.int (nI ns)) := mF_ne (by decide) h18
      have hh : pm_run PT n fr lo 194 (6, [some (.ref 162), none], [.int 0], (mset h 16 (.int (nI (p + 0)))), 198, sl) = some R := hh
      generalize mset h 16 (.int (nI (p + 0))) = h1 at *
      have q1 : qM h1 p t tp := q1
      have hh : pm_run PT n fr lo 194 (6, [some (.ref 162), none], [.int 0], h1, 198, sl) = some R := hh
      obtain ⟨n, hh⟩ := rn_if (cc := .eq) (off := 17) (t := 23) rfl rfl hh
      have hh : pm_run PT n fr lo 194 (23, [some (.ref 162), none], [], h1, 198, sl) = some R := hh
      have ez : zmi tp t 40 p = p := by
        show cond (decide (p < t ∧ tp p = nI 45)) (zmi tp t 39 (p + 1)) p = p
        rw [zb]
        rfl
      rw [ez]
      unfold zth
      obtain ⟨n, hh⟩ := rn_i rfl rfl rfl rfl hh
      obtain ⟨n, fr', lo', r1, hr1, hh⟩ := rn_call (w := 0) (t := 182) rfl rfl hh
      have er := ig_run ht hp q1 hr1
      subst er
      have hh : pm_run PT n fr lo 194 (27, [some (.ref 162), none], [.int (cond (dg tp p t) 1 0)], h1, 198, sl) = some R := hh
      obtain ⟨n, hh⟩ := rn_if (cc := .eq) (off := 14) (t := 41) rfl rfl hh
      cases zd : dg tp p t with
      | true =>
        rw [zd] at hh
        have hh : pm_run PT n fr lo 194 (30, [some (.ref 162), none], [], h1, 198, sl) = some R := hh
        obtain ⟨n, hh⟩ := rn_i rfl rfl rfl rfl hh
        obtain ⟨n, hh⟩ := rn_i rfl rfl rfl rfl hh
        obtain ⟨n, hh⟩ := rn_i rfl rfl rfl rfl hh
        have hh : pm_run PT n fr lo 194 (33, [some (.ref 162), none], [.int (nI 3), .ref 162, .ref 162], h1, 198, sl) = some R := hh
        obtain ⟨n, fr', lo', r1, hr1, hh⟩ := rn_call (w := 0) (t := 184) rfl rfl hh
        obtain ⟨v, er⟩ := nu_run ht hp q1 zd hr1
        subst er
        have q2 := qM_16 (p' := znb tp t 3 p) q1
        have g2 : mF (mset h1 16 (.int (nI (znb tp t 3 p)))) 18 (.int (nI ns)) := mF_ne (by decide) g18
        have hh : pm_run PT n fr lo 194 (36, [some (.ref 162), none], [.int v, .ref 162], (mset h1 16 (.int (nI (znb tp t 3 p)))), 198, sl) = some R := hh
        generalize mset h1 16 (.int (nI (znb tp t 3 p))) = h2 at *
        have hh : pm_run PT n fr lo 194 (36, [some (.ref 162), none], [.int v, .ref 162], h2, 198, sl) = some R := hh
        obtain ⟨n, fr', lo', r1, hr1, hh⟩ := rn_call (w := 0) (t := 193) rfl rfl hh
        obtain ⟨b1, b2, b3, b4⟩ := cod_run q2 hr1
        obtain ⟨rv, h3, s3⟩ := r1
        dsimp only at b1 b2 b3 b4
        subst b1
        subst b4
        have hh : pm_run PT n fr lo 194 (39, [some (.ref 162), none], [], h3, 198, sl) = some R := hh
        obtain ⟨n, hh⟩ := rn_i rfl rfl rfl rfl hh
        have e := (rn_ret rfl (Or.inr rfl) hh).2
        rw [e]
        exact ⟨rfl, b2, fun _ => b3 _ g2, rfl⟩
      | false =>
        rw [zd] at hh
        have hh : pm_run PT n fr lo 194 (41, [some (.ref 162), none], [], h1, 198, sl) = some R := hh
        obtain ⟨n, hh⟩ := rn_i rfl rfl rfl rfl hh
        obtain ⟨n, hh⟩ := rn_i rfl rfl rfl rfl hh
        have hh : pm_run PT n fr lo 194 (44, [some (.ref 162), none], [.retAddr 0, .ref 162], h1, 198, sl) = some R := hh
        obtain ⟨n, fr', lo', r1, hr1, hh⟩ := rn_call (w := 0) (t := 183) rfl rfl hh
        have er := to_run (i := 0) (by decide) ht hp q1 hr1
        have el : (tko 0 tp p t (st_tx 0).length 0).isSome = (decide (p < t) && zlet (tp p)) := by
          by_cases y : p < t
          · rw [decide_eq_true y, Bool.true_and]
            exact tk_let y
          · rw [decide_eq_false y, Bool.false_and]
            exact tk_no y
        rw [← el]
        cases zt : tko 0 tp p t (st_tx 0).length 0 with
        | some j =>
          have hj := tko_some zt
          rw [zt] at er
          have er : r1 = (some (.int (nI j)), mset h1 16 (.int (nI (p + 1))), 198, sl) := er
          subst er
          have hj2 : j < 7 := by
            have : (st_tx 0).length = 7 := by decide +kernel
            omega
          have q2 := qM_16 (p' := p + 1) q1
          have g2 : mF (mset h1 16 (.int (nI (p + 1)))) 18 (.int (nI ns)) := mF_ne (by decide) g18
          have hh : pm_run PT n fr lo 194 (47, [some (.ref 162), none], [.int (nI j)], (mset h1 16 (.int (nI (p + 1)))), 198, sl) = some R := hh
          generalize mset h1 16 (.int (nI (p + 1))) = h2 at *
          have hh : pm_run PT n fr lo 194 (47, [some (.ref 162), none], [.int (nI j)], h2, 198, sl) = some R := hh
          obtain ⟨n, hh⟩ := rn_i rfl rfl rfl rfl hh
          obtain ⟨n, hh⟩ := rn_i rfl rfl rfl rfl hh
          have hh : pm_run PT n fr lo 194 (49, [some (.ref 162), some (.int (nI j))], [.int (nI j)], h2, 198, sl) = some R := hh
          obtain ⟨n, hh⟩ := rn_if (cc := .lt) (off := 14) (t := 63) rfl rfl hh
          rw [lt0_val (by rw [nI_toInt (by omega)]; omega)] at hh
          have hh : pm_run PT n fr lo 194 (52, [some (.ref 162), some (.int (nI j))], [], h2, 198, sl) = some R := hh
          obtain ⟨n, hh⟩ := rn_i rfl rfl rfl rfl hh
          obtain ⟨n, hh⟩ := rn_i rfl rfl rfl rfl hh
          obtain ⟨n, hh⟩ := rn_i rfl rfl rfl rfl hh
          obtain ⟨n, hh⟩ := rn_i rfl rfl rfl rfl hh
          have hh : pm_run PT n fr lo 194 (58, [some (.ref 162), some (.int (nI j))], [.int (1000 + (nI j)), .ref 162], h2, 198, sl) = some R := hh
          obtain ⟨n, fr', lo', r1, hr1, hh⟩ := rn_call (w := 0) (t := 193) rfl rfl hh
          obtain ⟨b1, b2, b3, b4⟩ := cod_run q2 hr1
          obtain ⟨rv, h3, s3⟩ := r1
          dsimp only at b1 b2 b3 b4
          subst b1
          subst b4
          have hh : pm_run PT n fr lo 194 (61, [some (.ref 162), some (.int (nI j))], [], h3, 198, sl) = some R := hh
          obtain ⟨n, hh⟩ := rn_i rfl rfl rfl rfl hh
          have e := (rn_ret rfl (Or.inr rfl) hh).2
          rw [e]
          exact ⟨rfl, b2, fun _ => b3 _ g2, rfl⟩
        | none =>
          rw [zt] at er
          have er : r1 = (some (.int (-1)), h1, 198, sl) := er
          subst er
          have hh : pm_run PT n fr lo 194 (47, [some (.ref 162), none], [.int (-1)], h1, 198, sl) = some R := hh
          obtain ⟨n, hh⟩ := rn_i rfl rfl rfl rfl hh
          obtain ⟨n, hh⟩ := rn_i rfl rfl rfl rfl hh
          have hh : pm_run PT n fr lo 194 (49, [some (.ref 162), some (.int (-1))], [.int (-1)], h1, 198, sl) = some R := hh
          obtain ⟨n, hh⟩ := rn_if (cc := .lt) (off := 14) (t := 63) rfl rfl hh
          have hh : pm_run PT n fr lo 194 (63, [some (.ref 162), some (.int (-1))], [], h1, 198, sl) = some R := hh
          have no : ∀ (n : Nat) (h2 : pm_H), qM h2 p t tp → pm_run PT n fr lo 194 (80, [some (.ref 162), some (.int (-1))], [], h2, 198, sl) = some R → zM R t sl ns tp (false, p) := by
            intro n h2 q2 hh
            obtain ⟨n, hh⟩ := rn_i rfl rfl rfl rfl hh
            have e := (rn_ret rfl (Or.inr rfl) hh).2
            rw [e]
            exact ⟨rfl, q2, fun e => (by cases e), rfl⟩
          obtain ⟨n, hh⟩ := rn_i rfl rfl rfl rfl hh
          obtain ⟨n, hh⟩ := rn_gfm rfl rfl g18 hh
          obtain ⟨n, hh⟩ := rn_i rfl rfl rfl rfl hh
          have hh : pm_run PT n fr lo 194 (68, [some (.ref 162), some (.int (-1))], [.int (nI 4), .int (nI ns)], h1, 198, sl) = some R := hh
          obtain ⟨n, hh⟩ := rn_icmp (cc := .eq) (off := 12) (t := 80) rfl rfl hh
          rw [hI_eq (by omega) (by omega)] at hh
          by_cases z4 : ns = 4
          · rw [decide_eq_true z4] at hh
            rw [decide_eq_false (show ¬ ns < 4 by omega), Bool.and_false]
            exact no n h1 q1 hh
          · rw [decide_eq_false z4] at hh
            rw [decide_eq_true (show ns < 4 by omega), Bool.and_true]
            have hh : pm_run PT n fr lo 194 (71, [some (.ref 162), some (.int (-1))], [], h1, 198, sl) = some R := hh
            obtain ⟨n, hh⟩ := rn_i rfl rfl rfl rfl hh
            obtain ⟨n, hh⟩ := rn_i rfl rfl rfl rfl hh
            have hh : pm_run PT n fr lo 194 (74, [some (.ref 162), some (.int (-1))], [.int (nI 40), .ref 162], h1, 198, sl) = some R := hh
            obtain ⟨n, fr', lo', r1, hr1, hh⟩ := rn_call (w := 0) (t := 181) rfl rfl hh
            have er := tk_run (c := 40) ht hp q1 hr1
            subst er
            cases zo : decide (p < t ∧ tp p = nI 40) with
            | false =>
              rw [zo] at hh
              have q2 := qM_16 (p' := p + 0) q1
              have hh : pm_run PT n fr lo 194 (77, [some (.ref 162), some (.int (-1))], [.int 0], mset h1 16 (.int (nI (p + 0))), 198, sl) = some R := hh
              obtain ⟨n, hh⟩ := rn_i rfl rfl rfl rfl hh
              exact no n _ q2 hh
            | true =>
              rw [zo] at hh
              have hl := (of_decide_eq_true zo).1
              have q2 := qM_16 (p' := p + 1) q1
              have g2 : mF (mset h1 16 (.int (nI (p + 1)))) 18 (.int (nI ns)) := mF_ne (by decide) g18
              have hh : pm_run PT n fr lo 194 (77, [some (.ref 162), some (.int (-1))], [.int 1], (mset h1 16 (.int (nI (p + 1)))), 198, sl) = some R := hh
              generalize mset h1 16 (.int (nI (p + 1))) = h2 at *
              have hh : pm_run PT n fr lo 194 (77, [some (.ref 162), some (.int (-1))], [.int 1], h2, 198, sl) = some R := hh
              obtain ⟨n, hh⟩ := rn_if (cc := .ne) (off := 5) (t := 82) rfl rfl hh
              have hh : pm_run PT n fr lo 194 (82, [some (.ref 162), some (.int (-1))], [], h2, 198, sl) = some R := hh
              obtain ⟨n, hh⟩ := rn_i rfl rfl rfl rfl hh
              obtain ⟨n, hh⟩ := rn_i rfl rfl rfl rfl hh
              obtain ⟨n, hh⟩ := rn_gfm rfl rfl g2 hh
              obtain ⟨n, hh⟩ := rn_i rfl rfl rfl rfl hh
              obtain ⟨n, hh⟩ := rn_i rfl rfl rfl rfl hh
              have hh : pm_run PT n fr lo 194 (89, [some (.ref 162), some (.int (-1))], [.int ((nI ns) + 1), .ref 162], h2, 198, sl) = some R := hh
              obtain ⟨n, hh⟩ := rn_pfm (w := .int (nI ns)) rfl rfl rfl (by decide) g2 hh
              have hh : pm_run PT n fr lo 194 (92, [some (.ref 162), some (.int (-1))], [], (mset h2 18 (.int (nI ns + Int32.ofInt 1))), 198, sl) = some R := hh
              rw [show nI ns + Int32.ofInt 1 = nI (ns + 1) from (Int32.ofNat_add ns 1).symm] at hh
              have q3 := qM_18 (w := .int (nI (ns + 1))) q2
              have g3 : mF (mset h2 18 (.int (nI (ns + 1)))) 18 (.int (nI (ns + 1))) := mF_self g2
              generalize mset h2 18 (.int (nI (ns + 1))) = h3 at *
              have hh : pm_run PT n fr lo 194 (92, [some (.ref 162), some (.int (-1))], [], h3, 198, sl) = some R := hh
              obtain ⟨n, hh⟩ := rn_i rfl rfl rfl rfl hh
              obtain ⟨n, hh⟩ := rn_i rfl rfl rfl rfl hh
              have hh : pm_run PT n fr lo 194 (94, [some (.ref 162), some (.int (-1))], [.int (nI 0), .ref 162], h3, 198, sl) = some R := hh
              obtain ⟨n, fr', lo', r1, hr1, hh⟩ := rn_call (w := 0) (t := 195) rfl rfl hh
              obtain ⟨b1, b2, b3, b4⟩ := ih 0 (ns + 1) (p + 1) _ _ _ _ _ _ (by omega) (by omega) (by omega) (by omega) q3 g3 hr1
              obtain ⟨rv, h4, s4⟩ := r1
              dsimp only at b1 b2 b3 b4
              subst b1
              subst b4
              have hle := pz_le (f := tp) (t := t) m 0 (ns + 1) (p + 1) (by omega)
              have hh : pm_run PT n fr lo 194 (97, [some (.ref 162), some (.int (-1))], [.int (cond (pz tp t m 0 (ns + 1) (p + 1)).1 1 0)], h4, 198, sl) = some R := hh
              generalize pz tp t m 0 (ns + 1) (p + 1) = r at *
              obtain ⟨rb, rp⟩ := r
              dsimp only at b2 b3 hle hh ⊢
              have hh : pm_run PT n fr lo 194 (97, [some (.ref 162), some (.int (-1))], [.int (cond rb 1 0)], h4, 198, sl) = some R := hh
              obtain ⟨n, hh⟩ := rn_if (cc := .eq) (off := 12) (t := 109) rfl rfl hh
              have no2 : ∀ (n : Nat) (h5 : pm_H), qM h5 rp t tp → pm_run PT n fr lo 194 (109, [some (.ref 162), some (.int (-1))], [], h5, 198, sl) = some R → zM R t sl ns tp (false, rp) := by
                intro n h5 q5 hh
                obtain ⟨n, hh⟩ := rn_i rfl rfl rfl rfl hh
                have e := (rn_ret rfl (Or.inr rfl) hh).2
                rw [e]
                exact ⟨rfl, q5, fun e => (by cases e), rfl⟩
              cases rb with
              | false => exact no2 n h4 b2 hh
              | true =>
                have g4 := b3 rfl
                have hh : pm_run PT n fr lo 194 (100, [some (.ref 162), some (.int (-1))], [], h4, 198, sl) = some R := hh
                obtain ⟨n, hh⟩ := rn_i rfl rfl rfl rfl hh
                obtain ⟨n, hh⟩ := rn_i rfl rfl rfl rfl hh
                have hh : pm_run PT n fr lo 194 (103, [some (.ref 162), some (.int (-1))], [.int (nI 41), .ref 162], h4, 198, sl) = some R := hh
                obtain ⟨n, fr', lo', r1, hr1, hh⟩ := rn_call (w := 0) (t := 181) rfl rfl hh
                have er := tk_run (c := 41) ht hle b2 hr1
                subst er
                cases zc : decide (rp < t ∧ tp rp = nI 41) with
                | false =>
                  rw [zc] at hh
                  have q5 := qM_16 (p' := rp + 0) b2
                  have hh : pm_run PT n fr lo 194 (106, [some (.ref 162), some (.int (-1))], [.int 0], mset h4 16 (.int (nI (rp + 0))), 198, sl) = some R := hh
                  obtain ⟨n, hh⟩ := rn_i rfl rfl rfl rfl hh
                  exact no2 n _ q5 hh
                | true =>
                  rw [zc] at hh
                  have q5 := qM_16 (p' := rp + 1) b2
                  have g5 : mF (mset h4 16 (.int (nI (rp + 1)))) 18 (.int (nI (ns + 1))) := mF_ne (by decide) g4
                  have hh : pm_run PT n fr lo 194 (106, [some (.ref 162), some (.int (-1))], [.int 1], (mset h4 16 (.int (nI (rp + 1)))), 198, sl) = some R := hh
                  generalize mset h4 16 (.int (nI (rp + 1))) = h5 at *
                  have hh : pm_run PT n fr lo 194 (106, [some (.ref 162), some (.int (-1))], [.int 1], h5, 198, sl) = some R := hh
                  obtain ⟨n, hh⟩ := rn_if (cc := .ne) (off := 5) (t := 111) rfl rfl hh
                  have hh : pm_run PT n fr lo 194 (111, [some (.ref 162), some (.int (-1))], [], h5, 198, sl) = some R := hh
                  obtain ⟨n, hh⟩ := rn_i rfl rfl rfl rfl hh
                  obtain ⟨n, hh⟩ := rn_i rfl rfl rfl rfl hh
                  obtain ⟨n, hh⟩ := rn_gfm rfl rfl g5 hh
                  obtain ⟨n, hh⟩ := rn_i rfl rfl rfl rfl hh
                  obtain ⟨n, hh⟩ := rn_i rfl rfl rfl rfl hh
                  have hh : pm_run PT n fr lo 194 (118, [some (.ref 162), some (.int (-1))], [.int ((nI (ns + 1)) - 1), .ref 162], h5, 198, sl) = some R := hh
                  rw [show nI (ns + 1) - 1 = nI ns from nI_pr1 ns] at hh
                  obtain ⟨n, hh⟩ := rn_pfm (w := .int (nI (ns + 1))) rfl rfl rfl (by decide) g5 hh
                  have q6 := qM_18 (w := .int (nI ns)) q5
                  have g6 : mF (mset h5 18 (.int (nI ns))) 18 (.int (nI ns)) := mF_self g5
                  obtain ⟨n, hh⟩ := rn_i rfl rfl rfl rfl hh
                  have e := (rn_ret rfl (Or.inr rfl) hh).2
                  rw [e]
                  exact ⟨rfl, q6, fun _ => g6, rfl⟩
    | true =>
      rw [zb] at hh
      have hl := (of_decide_eq_true zb).1
      have q1 := qM_16 (p' := p + 1) q
      have g18 : mF (mset h 16 (.int (nI (p + 1)))) 18 (.int (nI ns)) := mF_ne (by decide) h18
      have hh : pm_run PT n fr lo 194 (6, [some (.ref 162), none], [.int 1], (mset h 16 (.int (nI (p + 1)))), 198, sl) = some R := hh
      generalize mset h 16 (.int (nI (p + 1))) = h1 at *
      have hh : pm_run PT n fr lo 194 (6, [some (.ref 162), none], [.int 1], h1, 198, sl) = some R := hh
      obtain ⟨n, hh⟩ := rn_if (cc := .eq) (off := 17) (t := 23) rfl rfl hh
      have hh : pm_run PT n fr lo 194 (9, [some (.ref 162), none], [], h1, 198, sl) = some R := hh
      obtain ⟨n, hh⟩ := rn_i rfl rfl rfl rfl hh
      have ez : zmi tp t 40 p = zmi tp t 40 (p + 1) := by
        show cond (decide (p < t ∧ tp p = nI 45)) (zmi tp t 39 (p + 1)) p = zmi tp t 40 (p + 1)
        rw [zb, zmi_fix 39 (p + 1) (by omega)]
        rfl
      rw [ez]
      obtain ⟨n, fr', lo', r1, hr1, hh⟩ := rn_call (w := 0) (t := 194) rfl rfl hh
      obtain ⟨b1, b2, b3, b4⟩ := ihd (p + 1) _ _ _ _ h1 _ (by omega) (by omega) q1 g18 hr1
      obtain ⟨rv, h2, s2⟩ := r1
      dsimp only at b1 b2 b3 b4
      subst b1
      subst b4
      have hh : pm_run PT n fr lo 194 (13, [some (.ref 162), none], [.int (cond (zth (pz tp t m 0 (ns + 1)) tp t ns (zmi tp t 40 (p + 1))).1 1 0)], h2, 198, sl) = some R := hh
      generalize zth (pz tp t m 0 (ns + 1)) tp t ns (zmi tp t 40 (p + 1)) = r at *
      obtain ⟨rb, rp⟩ := r
      dsimp only at b2 b3 hh
      have hh : pm_run PT n fr lo 194 (13, [some (.ref 162), none], [.int (cond rb 1 0)], h2, 198, sl) = some R := hh
      obtain ⟨n, hh⟩ := rn_i rfl rfl rfl rfl hh
      obtain ⟨n, hh⟩ := rn_i rfl rfl rfl rfl hh
      obtain ⟨n, hh⟩ := rn_i rfl rfl rfl rfl hh
      have hh : pm_run PT n fr lo 194 (18, [some (.ref 162), some (.int (cond rb 1 0))], [.int (nI 3000), .ref 162], h2, 198, sl) = some R := hh
      obtain ⟨n, fr', lo', r1, hr1, hh⟩ := rn_call (w := 0) (t := 193) rfl rfl hh
      obtain ⟨d1, d2, d3, d4⟩ := cod_run b2 hr1
      obtain ⟨rv, h3, s3⟩ := r1
      dsimp only at d1 d2 d3 d4
      subst d1
      subst d4
      have hh : pm_run PT n fr lo 194 (21, [some (.ref 162), some (.int (cond rb 1 0))], [], h3, 198, sl) = some R := hh
      obtain ⟨n, hh⟩ := rn_i rfl rfl rfl rfl hh
      have e := (rn_ret rfl (Or.inr rfl) hh).2
      rw [e]
      exact ⟨rfl, d2, fun e => d3 _ (b3 e), rfl⟩
theorem lpm_0 {m ns : Nat} {tp : Nat → Int32} {x3 : Option Value} (ht : t ≤ 40) (ih : rM m t tp) (hns : ns ≤ 4) (hm : 3 + 4 * (4 - ns) ≤ m) (hp : p ≤ t) (q : qM h p t tp) (h18 : mF h 18 (.int (nI ns))) (hh : pm_run PT n fr lo 195 (24, [some (.ref 162), some (.int (nI 0)), some (.int 1), x3], [], h, 198, sl) = some R) : zM R t sl ns tp (zlp (pz tp t m 1 ns) tp t 0 1 p) := by
  obtain ⟨n, hh⟩ := rn_i rfl rfl rfl rfl hh
  obtain ⟨n, hh⟩ := rn_if (cc := .eq) (off := 88) (t := 113) rfl rfl hh
  have hh : pm_run PT n fr lo 195 (28, [some (.ref 162), some (.int (nI 0)), some (.int 1), x3], [], h, 198, sl) = some R := hh
  obtain ⟨n, hh⟩ := rn_i rfl rfl rfl rfl hh
  obtain ⟨n, hh⟩ := rn_i rfl rfl rfl rfl hh
  obtain ⟨n, hh⟩ := rn_if (cc := .ne) (off := 8) (t := 38) rfl rfl hh
  have hh : pm_run PT n fr lo 195 (33, [some (.ref 162), some (.int (nI 0)), some (.int 1), x3], [.ref 162], h, 198, sl) = some R := hh
  obtain ⟨n, hh⟩ := rn_i rfl rfl rfl rfl hh
  obtain ⟨n, hh⟩ := rn_i rfl rfl rfl rfl hh
  have hh : pm_run PT n fr lo 195 (50, [some (.ref 162), some (.int (nI 0)), some (.int 1), x3], [.retAddr 1, .ref 162], h, 198, sl) = some R := hh
  obtain ⟨n, fr', lo', r1, hr1, hh⟩ := rn_call (w := 0) (t := 183) rfl rfl hh
  have er := to_run (i := 1) (by decide) ht hp q hr1
  have el : (tko 1 tp p t (st_tx 1).length 0).isSome = (decide (p < t) && zlev 0 (tp p)) := by
    by_cases y : p < t
    · rw [decide_eq_true y, Bool.true_and]
      exact tk_l0 y
    · rw [decide_eq_false y, Bool.false_and]
      exact tk_no y
  show zM R t sl ns tp (cond (decide (p < t) && zlev 0 (tp p)) (cond (pz tp t m 1 ns (p + 1)).1 (true, (pz tp t m 1 ns (p + 1)).2) (false, (pz tp t m 1 ns (p + 1)).2)) (true, p))
  rw [← el]
  cases zt : tko 1 tp p t (st_tx 1).length 0 with
  | none =>
    rw [zt] at er
    have er : r1 = (some (.int (-1)), h, 198, sl) := er
    subst er
    have hh : pm_run PT n fr lo 195 (53, [some (.ref 162), some (.int (nI 0)), some (.int 1), x3], [.int (-1)], h, 198, sl) = some R := hh
    obtain ⟨n, hh⟩ := rn_i rfl rfl rfl rfl hh
    obtain ⟨n, hh⟩ := rn_i rfl rfl rfl rfl hh
    have hh : pm_run PT n fr lo 195 (55, [some (.ref 162), some (.int (nI 0)), some (.int 1), some (.int (-1))], [.int (-1)], h, 198, sl) = some R := hh
    obtain ⟨n, hh⟩ := rn_if (cc := .ge) (off := 5) (t := 60) rfl rfl hh
    have hh : pm_run PT n fr lo 195 (58, [some (.ref 162), some (.int (nI 0)), some (.int 1), some (.int (-1))], [], h, 198, sl) = some R := hh
    obtain ⟨n, hh⟩ := rn_i rfl rfl rfl rfl hh
    have e := (rn_ret rfl (Or.inr rfl) hh).2
    rw [e]
    exact ⟨rfl, q, fun _ => h18, rfl⟩
  | some j =>
    have hj := tko_some zt
    have hl : p < t := hj.1
    rw [zt] at er
    have er : r1 = (some (.int (nI j)), mset h 16 (.int (nI (p + 1))), 198, sl) := er
    subst er
    have hj2 : j < 3 := by
      have : (st_tx 1).length = 3 := by decide +kernel
      omega
    have q2 := qM_16 (p' := p + 1) q
    have g2 : mF (mset h 16 (.int (nI (p + 1)))) 18 (.int (nI ns)) := mF_ne (by decide) h18
    have hh : pm_run PT n fr lo 195 (53, [some (.ref 162), some (.int (nI 0)), some (.int 1), x3], [.int (nI j)], (mset h 16 (.int (nI (p + 1)))), 198, sl) = some R := hh
    generalize mset h 16 (.int (nI (p + 1))) = h2 at hh q2 g2
    have hh : pm_run PT n fr lo 195 (53, [some (.ref 162), some (.int (nI 0)), some (.int 1), x3], [.int (nI j)], h2, 198, sl) = some R := hh
    obtain ⟨n, hh⟩ := rn_i rfl rfl rfl rfl hh
    obtain ⟨n, hh⟩ := rn_i rfl rfl rfl rfl hh
    have hh : pm_run PT n fr lo 195 (55, [some (.ref 162), some (.int (nI 0)), some (.int 1), some (.int (nI j))], [.int (nI j)], h2, 198, sl) = some R := hh
    obtain ⟨n, hh⟩ := rn_if (cc := .ge) (off := 5) (t := 60) rfl rfl hh
    rw [ge0_val (by rw [nI_toInt (by omega)]; omega)] at hh
    have hh : pm_run PT n fr lo 195 (60, [some (.ref 162), some (.int (nI 0)), some (.int 1), some (.int (nI j))], [], h2, 198, sl) = some R := hh
    obtain ⟨n, hh⟩ := rn_i rfl rfl rfl rfl hh
    obtain ⟨n, hh⟩ := rn_i rfl rfl rfl rfl hh
    obtain ⟨n, hh⟩ := rn_i rfl rfl rfl rfl hh
    obtain ⟨n, hh⟩ := rn_i rfl rfl rfl rfl hh
    have hh : pm_run PT n fr lo 195 (64, [some (.ref 162), some (.int (nI 0)), some (.int 1), some (.int (nI j))], [.int (nI 1), .ref 162], h2, 198, sl) = some R := hh
    obtain ⟨n, fr', lo', r1, hr1, hh⟩ := rn_call (w := 0) (t := 195) rfl rfl hh
    obtain ⟨b1, b2, b3, b4⟩ := ih 1 ns (p + 1) _ _ _ _ _ _ (by omega) hns (by omega) (by omega) q2 g2 hr1
    obtain ⟨rv, h4, s4⟩ := r1
    dsimp only at b1 b2 b3 b4
    subst b1
    subst b4
    have hle := pz_le (f := tp) (t := t) m 1 ns (p + 1) (by omega)
    have hge := pz_ge (f := tp) (t := t) m 1 ns (p + 1)
    have hh : pm_run PT n fr lo 195 (67, [some (.ref 162), some (.int (nI 0)), some (.int 1), some (.int (nI j))], [.int (cond (pz tp t m 1 ns (p + 1)).1 1 0)], h4, 198, sl) = some R := hh
    obtain ⟨n, hh⟩ := rn_if (cc := .ne) (off := 5) (t := 72) rfl rfl hh
    cases zr : (pz tp t m 1 ns (p + 1)).1 with
    | false =>
      rw [zr] at hh
      have hh : pm_run PT n fr lo 195 (70, [some (.ref 162), some (.int (nI 0)), some (.int 1), some (.int (nI j))], [], h4, 198, sl) = some R := hh
      obtain ⟨n, hh⟩ := rn_i rfl rfl rfl rfl hh
      have e := (rn_ret rfl (Or.inr rfl) hh).2
      rw [e]
      exact ⟨rfl, b2, fun e => (by cases e), rfl⟩
    | true =>
      rw [zr] at hh b3
      have g4 := b3 rfl
      have hh : pm_run PT n fr lo 195 (72, [some (.ref 162), some (.int (nI 0)), some (.int 1), some (.int (nI j))], [], h4, 198, sl) = some R := hh
      obtain ⟨n, hh⟩ := rn_i rfl rfl rfl rfl hh
      obtain ⟨n, hh⟩ := rn_i rfl rfl rfl rfl hh
      obtain ⟨n, hh⟩ := rn_i rfl rfl rfl rfl hh
      obtain ⟨n, hh⟩ := rn_i rfl rfl rfl rfl hh
      obtain ⟨n, hh⟩ := rn_i rfl rfl rfl rfl hh
      have hh : pm_run PT n fr lo 195 (79, [some (.ref 162), some (.int (nI 0)), some (.int 1), some (.int (nI j))], [.int (nI 0), .int (2000 + (nI j)), .ref 162], h4, 198, sl) = some R := hh
      obtain ⟨n, hh⟩ := rn_if (cc := .ne) (off := 7) (t := 86) rfl rfl hh
      have hh : pm_run PT n fr lo 195 (82, [some (.ref 162), some (.int (nI 0)), some (.int 1), some (.int (nI j))], [.int (2000 + (nI j)), .ref 162], h4, 198, sl) = some R := hh
      obtain ⟨n, hh⟩ := rn_i rfl rfl rfl rfl hh
      obtain ⟨n, hh⟩ := rn_i rfl rfl rfl rfl hh
      have hh : pm_run PT n fr lo 195 (96, [some (.ref 162), some (.int (nI 0)), some (.int 1), some (.int (nI j))], [.int 0, .int (2000 + (nI j)), .ref 162], h4, 198, sl) = some R := hh
      obtain ⟨n, hh⟩ := rn_i rfl rfl rfl rfl hh
      have hh : pm_run PT n fr lo 195 (97, [some (.ref 162), some (.int (nI 0)), some (.int 1), some (.int (nI j))], [.int ((2000 + (nI j)) + 0), .ref 162], h4, 198, sl) = some R := hh
      obtain ⟨n, fr', lo', r1, hr1, hh⟩ := rn_call (w := 0) (t := 193) rfl rfl hh
      obtain ⟨d1, d2, d3, d4⟩ := cod_run b2 hr1
      obtain ⟨rv, h5, s5⟩ := r1
      dsimp only at d1 d2 d3 d4
      subst d1
      subst d4
      have g5 := d3 _ g4
      have hh : pm_run PT n fr lo 195 (100, [some (.ref 162), some (.int (nI 0)), some (.int 1), some (.int (nI j))], [], h5, 198, sl) = some R := hh
      obtain ⟨n, hh⟩ := rn_i rfl rfl rfl rfl hh
      obtain ⟨n, hh⟩ := rn_if (cc := .le) (off := 7) (t := 108) rfl rfl hh
      have hh : pm_run PT n fr lo 195 (108, [some (.ref 162), some (.int (nI 0)), some (.int 1), some (.int (nI j))], [], h5, 198, sl) = some R := hh
      obtain ⟨n, hh⟩ := rn_i rfl rfl rfl rfl hh
      obtain ⟨n, hh⟩ := rn_i rfl rfl rfl rfl hh
      obtain ⟨n, hh⟩ := rn_i rfl rfl rfl rfl hh
      have hh : pm_run PT n fr lo 195 (24, [some (.ref 162), some (.int (nI 0)), some (.int 0), some (.int (nI j))], [], h5, 198, sl) = some R := hh
      obtain ⟨n, hh⟩ := rn_i rfl rfl rfl rfl hh
      obtain ⟨n, hh⟩ := rn_if (cc := .eq) (off := 88) (t := 113) rfl rfl hh
      have hh : pm_run PT n fr lo 195 (113, [some (.ref 162), some (.int (nI 0)), some (.int 0), some (.int (nI j))], [], h5, 198, sl) = some R := hh
      obtain ⟨n, hh⟩ := rn_i rfl rfl rfl rfl hh
      have e := (rn_ret rfl (Or.inr rfl) hh).2
      rw [e]
      exact ⟨rfl, d2, fun _ => g5, rfl⟩
theorem lpm_1 {m ns : Nat} {tp : Nat → Int32} (ht : t ≤ 40) (ih : rM m t tp) (hns : ns ≤ 4) (hm : 2 + 4 * (4 - ns) ≤ m) : ∀ (k p n : Nat) (x3 : Option Value) (h : pm_H), t ≤ p + k → p ≤ t → qM h p t tp → mF h 18 (.int (nI ns)) → pm_run PT n fr lo 195 (24, [some (.ref 162), some (.int (nI 1)), some (.int 1), x3], [], h, 198, sl) = some R → zM R t sl ns tp (zlp (pz tp t m 2 ns) tp t 1 k p) := by
  have stop : ∀ (k p : Nat), ¬ p < t → zlp (pz tp t m 2 ns) tp t 1 k p = (true, p) := by
    intro k p y
    cases k with
    | zero => rfl
    | succ k =>
      show cond (decide (p < t) && zlev 1 (tp p)) _ (true, p) = (true, p)
      rw [decide_eq_false y]
      rfl
  intro k
  induction k with
  | zero =>
    intro p n x3 h hk hp q h18 hh
    rw [show zlp (pz tp t m 2 ns) tp t 1 0 p = zlp (pz tp t m 2 ns) tp t 1 1 p from (stop 0 p (by omega)).trans (stop 1 p (by omega)).symm]
    have y : ¬ p < t := by omega
    obtain ⟨n, hh⟩ := rn_i rfl rfl rfl rfl hh
    obtain ⟨n, hh⟩ := rn_if (cc := .eq) (off := 88) (t := 113) rfl rfl hh
    have hh : pm_run PT n fr lo 195 (28, [some (.ref 162), some (.int (nI 1)), some (.int 1), x3], [], h, 198, sl) = some R := hh
    obtain ⟨n, hh⟩ := rn_i rfl rfl rfl rfl hh
    obtain ⟨n, hh⟩ := rn_i rfl rfl rfl rfl hh
    obtain ⟨n, hh⟩ := rn_if (cc := .ne) (off := 8) (t := 38) rfl rfl hh
    have hh : pm_run PT n fr lo 195 (38, [some (.ref 162), some (.int (nI 1)), some (.int 1), x3], [.ref 162], h, 198, sl) = some R := hh
    obtain ⟨n, hh⟩ := rn_i rfl rfl rfl rfl hh
    obtain ⟨n, hh⟩ := rn_i rfl rfl rfl rfl hh
    obtain ⟨n, hh⟩ := rn_icmp (cc := .ne) (off := 8) (t := 48) rfl rfl hh
    have hh : pm_run PT n fr lo 195 (43, [some (.ref 162), some (.int (nI 1)), some (.int 1), x3], [.ref 162], h, 198, sl) = some R := hh
    obtain ⟨n, hh⟩ := rn_i rfl rfl rfl rfl hh
    obtain ⟨n, hh⟩ := rn_i rfl rfl rfl rfl hh
    have hh : pm_run PT n fr lo 195 (50, [some (.ref 162), some (.int (nI 1)), some (.int 1), x3], [.retAddr 2, .ref 162], h, 198, sl) = some R := hh
    obtain ⟨n, fr', lo', r1, hr1, hh⟩ := rn_call (w := 0) (t := 183) rfl rfl hh
    have er := to_run (i := 2) (by decide) ht hp q hr1
    have el : (tko 2 tp p t (st_tx 2).length 0).isSome = (decide (p < t) && zlev 1 (tp p)) := by
      by_cases y : p < t
      · rw [decide_eq_true y, Bool.true_and]
        exact tk_l1 y
      · rw [decide_eq_false y, Bool.false_and]
        exact tk_no y
    show zM R t sl ns tp (cond (decide (p < t) && zlev 1 (tp p)) (cond (pz tp t m 2 ns (p + 1)).1 (zlp (pz tp t m 2 ns) tp t 1 0 (pz tp t m 2 ns (p + 1)).2) (false, (pz tp t m 2 ns (p + 1)).2)) (true, p))
    rw [← el]
    cases zt : tko 2 tp p t (st_tx 2).length 0 with
    | none =>
      rw [zt] at er
      have er : r1 = (some (.int (-1)), h, 198, sl) := er
      subst er
      have hh : pm_run PT n fr lo 195 (53, [some (.ref 162), some (.int (nI 1)), some (.int 1), x3], [.int (-1)], h, 198, sl) = some R := hh
      obtain ⟨n, hh⟩ := rn_i rfl rfl rfl rfl hh
      obtain ⟨n, hh⟩ := rn_i rfl rfl rfl rfl hh
      have hh : pm_run PT n fr lo 195 (55, [some (.ref 162), some (.int (nI 1)), some (.int 1), some (.int (-1))], [.int (-1)], h, 198, sl) = some R := hh
      obtain ⟨n, hh⟩ := rn_if (cc := .ge) (off := 5) (t := 60) rfl rfl hh
      have hh : pm_run PT n fr lo 195 (58, [some (.ref 162), some (.int (nI 1)), some (.int 1), some (.int (-1))], [], h, 198, sl) = some R := hh
      obtain ⟨n, hh⟩ := rn_i rfl rfl rfl rfl hh
      have e := (rn_ret rfl (Or.inr rfl) hh).2
      rw [e]
      exact ⟨rfl, q, fun _ => h18, rfl⟩
    | some j =>
      have hj := tko_some zt
      have hl : p < t := hj.1
      rw [zt] at er
      have er : r1 = (some (.int (nI j)), mset h 16 (.int (nI (p + 1))), 198, sl) := er
      subst er
      have hj2 : j < 2 := by
        have : (st_tx 2).length = 2 := by decide +kernel
        omega
      have q2 := qM_16 (p' := p + 1) q
      have g2 : mF (mset h 16 (.int (nI (p + 1)))) 18 (.int (nI ns)) := mF_ne (by decide) h18
      have hh : pm_run PT n fr lo 195 (53, [some (.ref 162), some (.int (nI 1)), some (.int 1), x3], [.int (nI j)], (mset h 16 (.int (nI (p + 1)))), 198, sl) = some R := hh
      generalize mset h 16 (.int (nI (p + 1))) = h2 at hh q2 g2
      have hh : pm_run PT n fr lo 195 (53, [some (.ref 162), some (.int (nI 1)), some (.int 1), x3], [.int (nI j)], h2, 198, sl) = some R := hh
      obtain ⟨n, hh⟩ := rn_i rfl rfl rfl rfl hh
      obtain ⟨n, hh⟩ := rn_i rfl rfl rfl rfl hh
      have hh : pm_run PT n fr lo 195 (55, [some (.ref 162), some (.int (nI 1)), some (.int 1), some (.int (nI j))], [.int (nI j)], h2, 198, sl) = some R := hh
      obtain ⟨n, hh⟩ := rn_if (cc := .ge) (off := 5) (t := 60) rfl rfl hh
      rw [ge0_val (by rw [nI_toInt (by omega)]; omega)] at hh
      have hh : pm_run PT n fr lo 195 (60, [some (.ref 162), some (.int (nI 1)), some (.int 1), some (.int (nI j))], [], h2, 198, sl) = some R := hh
      obtain ⟨n, hh⟩ := rn_i rfl rfl rfl rfl hh
      obtain ⟨n, hh⟩ := rn_i rfl rfl rfl rfl hh
      obtain ⟨n, hh⟩ := rn_i rfl rfl rfl rfl hh
      obtain ⟨n, hh⟩ := rn_i rfl rfl rfl rfl hh
      have hh : pm_run PT n fr lo 195 (64, [some (.ref 162), some (.int (nI 1)), some (.int 1), some (.int (nI j))], [.int (nI 2), .ref 162], h2, 198, sl) = some R := hh
      obtain ⟨n, fr', lo', r1, hr1, hh⟩ := rn_call (w := 0) (t := 195) rfl rfl hh
      obtain ⟨b1, b2, b3, b4⟩ := ih 2 ns (p + 1) _ _ _ _ _ _ (by omega) hns (by omega) (by omega) q2 g2 hr1
      obtain ⟨rv, h4, s4⟩ := r1
      dsimp only at b1 b2 b3 b4
      subst b1
      subst b4
      have hle := pz_le (f := tp) (t := t) m 2 ns (p + 1) (by omega)
      have hge := pz_ge (f := tp) (t := t) m 2 ns (p + 1)
      have hh : pm_run PT n fr lo 195 (67, [some (.ref 162), some (.int (nI 1)), some (.int 1), some (.int (nI j))], [.int (cond (pz tp t m 2 ns (p + 1)).1 1 0)], h4, 198, sl) = some R := hh
      obtain ⟨n, hh⟩ := rn_if (cc := .ne) (off := 5) (t := 72) rfl rfl hh
      cases zr : (pz tp t m 2 ns (p + 1)).1 with
      | false =>
        rw [zr] at hh
        have hh : pm_run PT n fr lo 195 (70, [some (.ref 162), some (.int (nI 1)), some (.int 1), some (.int (nI j))], [], h4, 198, sl) = some R := hh
        obtain ⟨n, hh⟩ := rn_i rfl rfl rfl rfl hh
        have e := (rn_ret rfl (Or.inr rfl) hh).2
        rw [e]
        exact ⟨rfl, b2, fun e => (by cases e), rfl⟩
      | true =>
        rw [zr] at hh b3
        have g4 := b3 rfl
        have hh : pm_run PT n fr lo 195 (72, [some (.ref 162), some (.int (nI 1)), some (.int 1), some (.int (nI j))], [], h4, 198, sl) = some R := hh
        obtain ⟨n, hh⟩ := rn_i rfl rfl rfl rfl hh
        obtain ⟨n, hh⟩ := rn_i rfl rfl rfl rfl hh
        obtain ⟨n, hh⟩ := rn_i rfl rfl rfl rfl hh
        obtain ⟨n, hh⟩ := rn_i rfl rfl rfl rfl hh
        obtain ⟨n, hh⟩ := rn_i rfl rfl rfl rfl hh
        have hh : pm_run PT n fr lo 195 (79, [some (.ref 162), some (.int (nI 1)), some (.int 1), some (.int (nI j))], [.int (nI 1), .int (2000 + (nI j)), .ref 162], h4, 198, sl) = some R := hh
        obtain ⟨n, hh⟩ := rn_if (cc := .ne) (off := 7) (t := 86) rfl rfl hh
        have hh : pm_run PT n fr lo 195 (86, [some (.ref 162), some (.int (nI 1)), some (.int 1), some (.int (nI j))], [.int (2000 + (nI j)), .ref 162], h4, 198, sl) = some R := hh
        obtain ⟨n, hh⟩ := rn_i rfl rfl rfl rfl hh
        obtain ⟨n, hh⟩ := rn_i rfl rfl rfl rfl hh
        obtain ⟨n, hh⟩ := rn_icmp (cc := .ne) (off := 7) (t := 95) rfl rfl hh
        have hh : pm_run PT n fr lo 195 (91, [some (.ref 162), some (.int (nI 1)), some (.int 1), some (.int (nI j))], [.int (2000 + (nI j)), .ref 162], h4, 198, sl) = some R := hh
        obtain ⟨n, hh⟩ := rn_i rfl rfl rfl rfl hh
        obtain ⟨n, hh⟩ := rn_i rfl rfl rfl rfl hh
        have hh : pm_run PT n fr lo 195 (96, [some (.ref 162), some (.int (nI 1)), some (.int 1), some (.int (nI j))], [.int 3, .int (2000 + (nI j)), .ref 162], h4, 198, sl) = some R := hh
        obtain ⟨n, hh⟩ := rn_i rfl rfl rfl rfl hh
        have hh : pm_run PT n fr lo 195 (97, [some (.ref 162), some (.int (nI 1)), some (.int 1), some (.int (nI j))], [.int ((2000 + (nI j)) + 3), .ref 162], h4, 198, sl) = some R := hh
        obtain ⟨n, fr', lo', r1, hr1, hh⟩ := rn_call (w := 0) (t := 193) rfl rfl hh
        obtain ⟨d1, d2, d3, d4⟩ := cod_run b2 hr1
        obtain ⟨rv, h5, s5⟩ := r1
        dsimp only at d1 d2 d3 d4
        subst d1
        subst d4
        have g5 := d3 _ g4
        have hh : pm_run PT n fr lo 195 (100, [some (.ref 162), some (.int (nI 1)), some (.int 1), some (.int (nI j))], [], h5, 198, sl) = some R := hh
        obtain ⟨n, hh⟩ := rn_i rfl rfl rfl rfl hh
        obtain ⟨n, hh⟩ := rn_if (cc := .le) (off := 7) (t := 108) rfl rfl hh
        have hh : pm_run PT n fr lo 195 (104, [some (.ref 162), some (.int (nI 1)), some (.int 1), some (.int (nI j))], [], h5, 198, sl) = some R := hh
        obtain ⟨n, hh⟩ := rn_i rfl rfl rfl rfl hh
        obtain ⟨n, hh⟩ := rn_i rfl rfl rfl rfl hh
        obtain ⟨n, hh⟩ := rn_i rfl rfl rfl rfl hh
        obtain ⟨n, hh⟩ := rn_i rfl rfl rfl rfl hh
        have hh : pm_run PT n fr lo 195 (24, [some (.ref 162), some (.int (nI 1)), some (.int 1), some (.int (nI j))], [], h5, 198, sl) = some R := hh
        exact absurd hl y
  | succ k ihk =>
    intro p n x3 h hk hp q h18 hh
    obtain ⟨n, hh⟩ := rn_i rfl rfl rfl rfl hh
    obtain ⟨n, hh⟩ := rn_if (cc := .eq) (off := 88) (t := 113) rfl rfl hh
    have hh : pm_run PT n fr lo 195 (28, [some (.ref 162), some (.int (nI 1)), some (.int 1), x3], [], h, 198, sl) = some R := hh
    obtain ⟨n, hh⟩ := rn_i rfl rfl rfl rfl hh
    obtain ⟨n, hh⟩ := rn_i rfl rfl rfl rfl hh
    obtain ⟨n, hh⟩ := rn_if (cc := .ne) (off := 8) (t := 38) rfl rfl hh
    have hh : pm_run PT n fr lo 195 (38, [some (.ref 162), some (.int (nI 1)), some (.int 1), x3], [.ref 162], h, 198, sl) = some R := hh
    obtain ⟨n, hh⟩ := rn_i rfl rfl rfl rfl hh
    obtain ⟨n, hh⟩ := rn_i rfl rfl rfl rfl hh
    obtain ⟨n, hh⟩ := rn_icmp (cc := .ne) (off := 8) (t := 48) rfl rfl hh
    have hh : pm_run PT n fr lo 195 (43, [some (.ref 162), some (.int (nI 1)), some (.int 1), x3], [.ref 162], h, 198, sl) = some R := hh
    obtain ⟨n, hh⟩ := rn_i rfl rfl rfl rfl hh
    obtain ⟨n, hh⟩ := rn_i rfl rfl rfl rfl hh
    have hh : pm_run PT n fr lo 195 (50, [some (.ref 162), some (.int (nI 1)), some (.int 1), x3], [.retAddr 2, .ref 162], h, 198, sl) = some R := hh
    obtain ⟨n, fr', lo', r1, hr1, hh⟩ := rn_call (w := 0) (t := 183) rfl rfl hh
    have er := to_run (i := 2) (by decide) ht hp q hr1
    have el : (tko 2 tp p t (st_tx 2).length 0).isSome = (decide (p < t) && zlev 1 (tp p)) := by
      by_cases y : p < t
      · rw [decide_eq_true y, Bool.true_and]
        exact tk_l1 y
      · rw [decide_eq_false y, Bool.false_and]
        exact tk_no y
    show zM R t sl ns tp (cond (decide (p < t) && zlev 1 (tp p)) (cond (pz tp t m 2 ns (p + 1)).1 (zlp (pz tp t m 2 ns) tp t 1 k (pz tp t m 2 ns (p + 1)).2) (false, (pz tp t m 2 ns (p + 1)).2)) (true, p))
    rw [← el]
    cases zt : tko 2 tp p t (st_tx 2).length 0 with
    | none =>
      rw [zt] at er
      have er : r1 = (some (.int (-1)), h, 198, sl) := er
      subst er
      have hh : pm_run PT n fr lo 195 (53, [some (.ref 162), some (.int (nI 1)), some (.int 1), x3], [.int (-1)], h, 198, sl) = some R := hh
      obtain ⟨n, hh⟩ := rn_i rfl rfl rfl rfl hh
      obtain ⟨n, hh⟩ := rn_i rfl rfl rfl rfl hh
      have hh : pm_run PT n fr lo 195 (55, [some (.ref 162), some (.int (nI 1)), some (.int 1), some (.int (-1))], [.int (-1)], h, 198, sl) = some R := hh
      obtain ⟨n, hh⟩ := rn_if (cc := .ge) (off := 5) (t := 60) rfl rfl hh
      have hh : pm_run PT n fr lo 195 (58, [some (.ref 162), some (.int (nI 1)), some (.int 1), some (.int (-1))], [], h, 198, sl) = some R := hh
      obtain ⟨n, hh⟩ := rn_i rfl rfl rfl rfl hh
      have e := (rn_ret rfl (Or.inr rfl) hh).2
      rw [e]
      exact ⟨rfl, q, fun _ => h18, rfl⟩
    | some j =>
      have hj := tko_some zt
      have hl : p < t := hj.1
      rw [zt] at er
      have er : r1 = (some (.int (nI j)), mset h 16 (.int (nI (p + 1))), 198, sl) := er
      subst er
      have hj2 : j < 2 := by
        have : (st_tx 2).length = 2 := by decide +kernel
        omega
      have q2 := qM_16 (p' := p + 1) q
      have g2 : mF (mset h 16 (.int (nI (p + 1)))) 18 (.int (nI ns)) := mF_ne (by decide) h18
      have hh : pm_run PT n fr lo 195 (53, [some (.ref 162), some (.int (nI 1)), some (.int 1), x3], [.int (nI j)], (mset h 16 (.int (nI (p + 1)))), 198, sl) = some R := hh
      generalize mset h 16 (.int (nI (p + 1))) = h2 at hh q2 g2
      have hh : pm_run PT n fr lo 195 (53, [some (.ref 162), some (.int (nI 1)), some (.int 1), x3], [.int (nI j)], h2, 198, sl) = some R := hh
      obtain ⟨n, hh⟩ := rn_i rfl rfl rfl rfl hh
      obtain ⟨n, hh⟩ := rn_i rfl rfl rfl rfl hh
      have hh : pm_run PT n fr lo 195 (55, [some (.ref 162), some (.int (nI 1)), some (.int 1), some (.int (nI j))], [.int (nI j)], h2, 198, sl) = some R := hh
      obtain ⟨n, hh⟩ := rn_if (cc := .ge) (off := 5) (t := 60) rfl rfl hh
      rw [ge0_val (by rw [nI_toInt (by omega)]; omega)] at hh
      have hh : pm_run PT n fr lo 195 (60, [some (.ref 162), some (.int (nI 1)), some (.int 1), some (.int (nI j))], [], h2, 198, sl) = some R := hh
      obtain ⟨n, hh⟩ := rn_i rfl rfl rfl rfl hh
      obtain ⟨n, hh⟩ := rn_i rfl rfl rfl rfl hh
      obtain ⟨n, hh⟩ := rn_i rfl rfl rfl rfl hh
      obtain ⟨n, hh⟩ := rn_i rfl rfl rfl rfl hh
      have hh : pm_run PT n fr lo 195 (64, [some (.ref 162), some (.int (nI 1)), some (.int 1), some (.int (nI j))], [.int (nI 2), .ref 162], h2, 198, sl) = some R := hh
      obtain ⟨n, fr', lo', r1, hr1, hh⟩ := rn_call (w := 0) (t := 195) rfl rfl hh
      obtain ⟨b1, b2, b3, b4⟩ := ih 2 ns (p + 1) _ _ _ _ _ _ (by omega) hns (by omega) (by omega) q2 g2 hr1
      obtain ⟨rv, h4, s4⟩ := r1
      dsimp only at b1 b2 b3 b4
      subst b1
      subst b4
      have hle := pz_le (f := tp) (t := t) m 2 ns (p + 1) (by omega)
      have hge := pz_ge (f := tp) (t := t) m 2 ns (p + 1)
      have hh : pm_run PT n fr lo 195 (67, [some (.ref 162), some (.int (nI 1)), some (.int 1), some (.int (nI j))], [.int (cond (pz tp t m 2 ns (p + 1)).1 1 0)], h4, 198, sl) = some R := hh
      obtain ⟨n, hh⟩ := rn_if (cc := .ne) (off := 5) (t := 72) rfl rfl hh
      cases zr : (pz tp t m 2 ns (p + 1)).1 with
      | false =>
        rw [zr] at hh
        have hh : pm_run PT n fr lo 195 (70, [some (.ref 162), some (.int (nI 1)), some (.int 1), some (.int (nI j))], [], h4, 198, sl) = some R := hh
        obtain ⟨n, hh⟩ := rn_i rfl rfl rfl rfl hh
        have e := (rn_ret rfl (Or.inr rfl) hh).2
        rw [e]
        exact ⟨rfl, b2, fun e => (by cases e), rfl⟩
      | true =>
        rw [zr] at hh b3
        have g4 := b3 rfl
        have hh : pm_run PT n fr lo 195 (72, [some (.ref 162), some (.int (nI 1)), some (.int 1), some (.int (nI j))], [], h4, 198, sl) = some R := hh
        obtain ⟨n, hh⟩ := rn_i rfl rfl rfl rfl hh
        obtain ⟨n, hh⟩ := rn_i rfl rfl rfl rfl hh
        obtain ⟨n, hh⟩ := rn_i rfl rfl rfl rfl hh
        obtain ⟨n, hh⟩ := rn_i rfl rfl rfl rfl hh
        obtain ⟨n, hh⟩ := rn_i rfl rfl rfl rfl hh
        have hh : pm_run PT n fr lo 195 (79, [some (.ref 162), some (.int (nI 1)), some (.int 1), some (.int (nI j))], [.int (nI 1), .int (2000 + (nI j)), .ref 162], h4, 198, sl) = some R := hh
        obtain ⟨n, hh⟩ := rn_if (cc := .ne) (off := 7) (t := 86) rfl rfl hh
        have hh : pm_run PT n fr lo 195 (86, [some (.ref 162), some (.int (nI 1)), some (.int 1), some (.int (nI j))], [.int (2000 + (nI j)), .ref 162], h4, 198, sl) = some R := hh
        obtain ⟨n, hh⟩ := rn_i rfl rfl rfl rfl hh
        obtain ⟨n, hh⟩ := rn_i rfl rfl rfl rfl hh
        obtain ⟨n, hh⟩ := rn_icmp (cc := .ne) (off := 7) (t := 95) rfl rfl hh
        have hh : pm_run PT n fr lo 195 (91, [some (.ref 162), some (.int (nI 1)), some (.int 1), some (.int (nI j))], [.int (2000 + (nI j)), .ref 162], h4, 198, sl) = some R := hh
        obtain ⟨n, hh⟩ := rn_i rfl rfl rfl rfl hh
        obtain ⟨n, hh⟩ := rn_i rfl rfl rfl rfl hh
        have hh : pm_run PT n fr lo 195 (96, [some (.ref 162), some (.int (nI 1)), some (.int 1), some (.int (nI j))], [.int 3, .int (2000 + (nI j)), .ref 162], h4, 198, sl) = some R := hh
        obtain ⟨n, hh⟩ := rn_i rfl rfl rfl rfl hh
        have hh : pm_run PT n fr lo 195 (97, [some (.ref 162), some (.int (nI 1)), some (.int 1), some (.int (nI j))], [.int ((2000 + (nI j)) + 3), .ref 162], h4, 198, sl) = some R := hh
        obtain ⟨n, fr', lo', r1, hr1, hh⟩ := rn_call (w := 0) (t := 193) rfl rfl hh
        obtain ⟨d1, d2, d3, d4⟩ := cod_run b2 hr1
        obtain ⟨rv, h5, s5⟩ := r1
        dsimp only at d1 d2 d3 d4
        subst d1
        subst d4
        have g5 := d3 _ g4
        have hh : pm_run PT n fr lo 195 (100, [some (.ref 162), some (.int (nI 1)), some (.int 1), some (.int (nI j))], [], h5, 198, sl) = some R := hh
        obtain ⟨n, hh⟩ := rn_i rfl rfl rfl rfl hh
        obtain ⟨n, hh⟩ := rn_if (cc := .le) (off := 7) (t := 108) rfl rfl hh
        have hh : pm_run PT n fr lo 195 (104, [some (.ref 162), some (.int (nI 1)), some (.int 1), some (.int (nI j))], [], h5, 198, sl) = some R := hh
        obtain ⟨n, hh⟩ := rn_i rfl rfl rfl rfl hh
        obtain ⟨n, hh⟩ := rn_i rfl rfl rfl rfl hh
        obtain ⟨n, hh⟩ := rn_i rfl rfl rfl rfl hh
        obtain ⟨n, hh⟩ := rn_i rfl rfl rfl rfl hh
        have hh : pm_run PT n fr lo 195 (24, [some (.ref 162), some (.int (nI 1)), some (.int 1), some (.int (nI j))], [], h5, 198, sl) = some R := hh
        exact ihk _ n _ h5 (by omega) hle d2 g5 hh
theorem lpm_2 {m ns : Nat} {tp : Nat → Int32} (ht : t ≤ 40) (ih : rM m t tp) (hns : ns ≤ 4) (hm : 1 + 4 * (4 - ns) ≤ m) : ∀ (k p n : Nat) (x3 : Option Value) (h : pm_H), t ≤ p + k → p ≤ t → qM h p t tp → mF h 18 (.int (nI ns)) → pm_run PT n fr lo 195 (24, [some (.ref 162), some (.int (nI 2)), some (.int 1), x3], [], h, 198, sl) = some R → zM R t sl ns tp (zlp (pz tp t m 3 ns) tp t 2 k p) := by
  have stop : ∀ (k p : Nat), ¬ p < t → zlp (pz tp t m 3 ns) tp t 2 k p = (true, p) := by
    intro k p y
    cases k with
    | zero => rfl
    | succ k =>
      show cond (decide (p < t) && zlev 2 (tp p)) _ (true, p) = (true, p)
      rw [decide_eq_false y]
      rfl
  intro k
  induction k with
  | zero =>
    intro p n x3 h hk hp q h18 hh
    rw [show zlp (pz tp t m 3 ns) tp t 2 0 p = zlp (pz tp t m 3 ns) tp t 2 1 p from (stop 0 p (by omega)).trans (stop 1 p (by omega)).symm]
    have y : ¬ p < t := by omega
    obtain ⟨n, hh⟩ := rn_i rfl rfl rfl rfl hh
    obtain ⟨n, hh⟩ := rn_if (cc := .eq) (off := 88) (t := 113) rfl rfl hh
    have hh : pm_run PT n fr lo 195 (28, [some (.ref 162), some (.int (nI 2)), some (.int 1), x3], [], h, 198, sl) = some R := hh
    obtain ⟨n, hh⟩ := rn_i rfl rfl rfl rfl hh
    obtain ⟨n, hh⟩ := rn_i rfl rfl rfl rfl hh
    obtain ⟨n, hh⟩ := rn_if (cc := .ne) (off := 8) (t := 38) rfl rfl hh
    have hh : pm_run PT n fr lo 195 (38, [some (.ref 162), some (.int (nI 2)), some (.int 1), x3], [.ref 162], h, 198, sl) = some R := hh
    obtain ⟨n, hh⟩ := rn_i rfl rfl rfl rfl hh
    obtain ⟨n, hh⟩ := rn_i rfl rfl rfl rfl hh
    obtain ⟨n, hh⟩ := rn_icmp (cc := .ne) (off := 8) (t := 48) rfl rfl hh
    have hh : pm_run PT n fr lo 195 (48, [some (.ref 162), some (.int (nI 2)), some (.int 1), x3], [.ref 162], h, 198, sl) = some R := hh
    obtain ⟨n, hh⟩ := rn_i rfl rfl rfl rfl hh
    have hh : pm_run PT n fr lo 195 (50, [some (.ref 162), some (.int (nI 2)), some (.int 1), x3], [.retAddr 3, .ref 162], h, 198, sl) = some R := hh
    obtain ⟨n, fr', lo', r1, hr1, hh⟩ := rn_call (w := 0) (t := 183) rfl rfl hh
    have er := to_run (i := 3) (by decide) ht hp q hr1
    have el : (tko 3 tp p t (st_tx 3).length 0).isSome = (decide (p < t) && zlev 2 (tp p)) := by
      by_cases y : p < t
      · rw [decide_eq_true y, Bool.true_and]
        exact tk_l2 y
      · rw [decide_eq_false y, Bool.false_and]
        exact tk_no y
    show zM R t sl ns tp (cond (decide (p < t) && zlev 2 (tp p)) (cond (pz tp t m 3 ns (p + 1)).1 (zlp (pz tp t m 3 ns) tp t 2 0 (pz tp t m 3 ns (p + 1)).2) (false, (pz tp t m 3 ns (p + 1)).2)) (true, p))
    rw [← el]
    cases zt : tko 3 tp p t (st_tx 3).length 0 with
    | none =>
      rw [zt] at er
      have er : r1 = (some (.int (-1)), h, 198, sl) := er
      subst er
      have hh : pm_run PT n fr lo 195 (53, [some (.ref 162), some (.int (nI 2)), some (.int 1), x3], [.int (-1)], h, 198, sl) = some R := hh
      obtain ⟨n, hh⟩ := rn_i rfl rfl rfl rfl hh
      obtain ⟨n, hh⟩ := rn_i rfl rfl rfl rfl hh
      have hh : pm_run PT n fr lo 195 (55, [some (.ref 162), some (.int (nI 2)), some (.int 1), some (.int (-1))], [.int (-1)], h, 198, sl) = some R := hh
      obtain ⟨n, hh⟩ := rn_if (cc := .ge) (off := 5) (t := 60) rfl rfl hh
      have hh : pm_run PT n fr lo 195 (58, [some (.ref 162), some (.int (nI 2)), some (.int 1), some (.int (-1))], [], h, 198, sl) = some R := hh
      obtain ⟨n, hh⟩ := rn_i rfl rfl rfl rfl hh
      have e := (rn_ret rfl (Or.inr rfl) hh).2
      rw [e]
      exact ⟨rfl, q, fun _ => h18, rfl⟩
    | some j =>
      have hj := tko_some zt
      have hl : p < t := hj.1
      rw [zt] at er
      have er : r1 = (some (.int (nI j)), mset h 16 (.int (nI (p + 1))), 198, sl) := er
      subst er
      have hj2 : j < 2 := by
        have : (st_tx 3).length = 2 := by decide +kernel
        omega
      have q2 := qM_16 (p' := p + 1) q
      have g2 : mF (mset h 16 (.int (nI (p + 1)))) 18 (.int (nI ns)) := mF_ne (by decide) h18
      have hh : pm_run PT n fr lo 195 (53, [some (.ref 162), some (.int (nI 2)), some (.int 1), x3], [.int (nI j)], (mset h 16 (.int (nI (p + 1)))), 198, sl) = some R := hh
      generalize mset h 16 (.int (nI (p + 1))) = h2 at hh q2 g2
      have hh : pm_run PT n fr lo 195 (53, [some (.ref 162), some (.int (nI 2)), some (.int 1), x3], [.int (nI j)], h2, 198, sl) = some R := hh
      obtain ⟨n, hh⟩ := rn_i rfl rfl rfl rfl hh
      obtain ⟨n, hh⟩ := rn_i rfl rfl rfl rfl hh
      have hh : pm_run PT n fr lo 195 (55, [some (.ref 162), some (.int (nI 2)), some (.int 1), some (.int (nI j))], [.int (nI j)], h2, 198, sl) = some R := hh
      obtain ⟨n, hh⟩ := rn_if (cc := .ge) (off := 5) (t := 60) rfl rfl hh
      rw [ge0_val (by rw [nI_toInt (by omega)]; omega)] at hh
      have hh : pm_run PT n fr lo 195 (60, [some (.ref 162), some (.int (nI 2)), some (.int 1), some (.int (nI j))], [], h2, 198, sl) = some R := hh
      obtain ⟨n, hh⟩ := rn_i rfl rfl rfl rfl hh
      obtain ⟨n, hh⟩ := rn_i rfl rfl rfl rfl hh
      obtain ⟨n, hh⟩ := rn_i rfl rfl rfl rfl hh
      obtain ⟨n, hh⟩ := rn_i rfl rfl rfl rfl hh
      have hh : pm_run PT n fr lo 195 (64, [some (.ref 162), some (.int (nI 2)), some (.int 1), some (.int (nI j))], [.int (nI 3), .ref 162], h2, 198, sl) = some R := hh
      obtain ⟨n, fr', lo', r1, hr1, hh⟩ := rn_call (w := 0) (t := 195) rfl rfl hh
      obtain ⟨b1, b2, b3, b4⟩ := ih 3 ns (p + 1) _ _ _ _ _ _ (by omega) hns (by omega) (by omega) q2 g2 hr1
      obtain ⟨rv, h4, s4⟩ := r1
      dsimp only at b1 b2 b3 b4
      subst b1
      subst b4
      have hle := pz_le (f := tp) (t := t) m 3 ns (p + 1) (by omega)
      have hge := pz_ge (f := tp) (t := t) m 3 ns (p + 1)
      have hh : pm_run PT n fr lo 195 (67, [some (.ref 162), some (.int (nI 2)), some (.int 1), some (.int (nI j))], [.int (cond (pz tp t m 3 ns (p + 1)).1 1 0)], h4, 198, sl) = some R := hh
      obtain ⟨n, hh⟩ := rn_if (cc := .ne) (off := 5) (t := 72) rfl rfl hh
      cases zr : (pz tp t m 3 ns (p + 1)).1 with
      | false =>
        rw [zr] at hh
        have hh : pm_run PT n fr lo 195 (70, [some (.ref 162), some (.int (nI 2)), some (.int 1), some (.int (nI j))], [], h4, 198, sl) = some R := hh
        obtain ⟨n, hh⟩ := rn_i rfl rfl rfl rfl hh
        have e := (rn_ret rfl (Or.inr rfl) hh).2
        rw [e]
        exact ⟨rfl, b2, fun e => (by cases e), rfl⟩
      | true =>
        rw [zr] at hh b3
        have g4 := b3 rfl
        have hh : pm_run PT n fr lo 195 (72, [some (.ref 162), some (.int (nI 2)), some (.int 1), some (.int (nI j))], [], h4, 198, sl) = some R := hh
        obtain ⟨n, hh⟩ := rn_i rfl rfl rfl rfl hh
        obtain ⟨n, hh⟩ := rn_i rfl rfl rfl rfl hh
        obtain ⟨n, hh⟩ := rn_i rfl rfl rfl rfl hh
        obtain ⟨n, hh⟩ := rn_i rfl rfl rfl rfl hh
        obtain ⟨n, hh⟩ := rn_i rfl rfl rfl rfl hh
        have hh : pm_run PT n fr lo 195 (79, [some (.ref 162), some (.int (nI 2)), some (.int 1), some (.int (nI j))], [.int (nI 2), .int (2000 + (nI j)), .ref 162], h4, 198, sl) = some R := hh
        obtain ⟨n, hh⟩ := rn_if (cc := .ne) (off := 7) (t := 86) rfl rfl hh
        have hh : pm_run PT n fr lo 195 (86, [some (.ref 162), some (.int (nI 2)), some (.int 1), some (.int (nI j))], [.int (2000 + (nI j)), .ref 162], h4, 198, sl) = some R := hh
        obtain ⟨n, hh⟩ := rn_i rfl rfl rfl rfl hh
        obtain ⟨n, hh⟩ := rn_i rfl rfl rfl rfl hh
        obtain ⟨n, hh⟩ := rn_icmp (cc := .ne) (off := 7) (t := 95) rfl rfl hh
        have hh : pm_run PT n fr lo 195 (95, [some (.ref 162), some (.int (nI 2)), some (.int 1), some (.int (nI j))], [.int (2000 + (nI j)), .ref 162], h4, 198, sl) = some R := hh
        obtain ⟨n, hh⟩ := rn_i rfl rfl rfl rfl hh
        have hh : pm_run PT n fr lo 195 (96, [some (.ref 162), some (.int (nI 2)), some (.int 1), some (.int (nI j))], [.int 5, .int (2000 + (nI j)), .ref 162], h4, 198, sl) = some R := hh
        obtain ⟨n, hh⟩ := rn_i rfl rfl rfl rfl hh
        have hh : pm_run PT n fr lo 195 (97, [some (.ref 162), some (.int (nI 2)), some (.int 1), some (.int (nI j))], [.int ((2000 + (nI j)) + 5), .ref 162], h4, 198, sl) = some R := hh
        obtain ⟨n, fr', lo', r1, hr1, hh⟩ := rn_call (w := 0) (t := 193) rfl rfl hh
        obtain ⟨d1, d2, d3, d4⟩ := cod_run b2 hr1
        obtain ⟨rv, h5, s5⟩ := r1
        dsimp only at d1 d2 d3 d4
        subst d1
        subst d4
        have g5 := d3 _ g4
        have hh : pm_run PT n fr lo 195 (100, [some (.ref 162), some (.int (nI 2)), some (.int 1), some (.int (nI j))], [], h5, 198, sl) = some R := hh
        obtain ⟨n, hh⟩ := rn_i rfl rfl rfl rfl hh
        obtain ⟨n, hh⟩ := rn_if (cc := .le) (off := 7) (t := 108) rfl rfl hh
        have hh : pm_run PT n fr lo 195 (104, [some (.ref 162), some (.int (nI 2)), some (.int 1), some (.int (nI j))], [], h5, 198, sl) = some R := hh
        obtain ⟨n, hh⟩ := rn_i rfl rfl rfl rfl hh
        obtain ⟨n, hh⟩ := rn_i rfl rfl rfl rfl hh
        obtain ⟨n, hh⟩ := rn_i rfl rfl rfl rfl hh
        obtain ⟨n, hh⟩ := rn_i rfl rfl rfl rfl hh
        have hh : pm_run PT n fr lo 195 (24, [some (.ref 162), some (.int (nI 2)), some (.int 1), some (.int (nI j))], [], h5, 198, sl) = some R := hh
        exact absurd hl y
  | succ k ihk =>
    intro p n x3 h hk hp q h18 hh
    obtain ⟨n, hh⟩ := rn_i rfl rfl rfl rfl hh
    obtain ⟨n, hh⟩ := rn_if (cc := .eq) (off := 88) (t := 113) rfl rfl hh
    have hh : pm_run PT n fr lo 195 (28, [some (.ref 162), some (.int (nI 2)), some (.int 1), x3], [], h, 198, sl) = some R := hh
    obtain ⟨n, hh⟩ := rn_i rfl rfl rfl rfl hh
    obtain ⟨n, hh⟩ := rn_i rfl rfl rfl rfl hh
    obtain ⟨n, hh⟩ := rn_if (cc := .ne) (off := 8) (t := 38) rfl rfl hh
    have hh : pm_run PT n fr lo 195 (38, [some (.ref 162), some (.int (nI 2)), some (.int 1), x3], [.ref 162], h, 198, sl) = some R := hh
    obtain ⟨n, hh⟩ := rn_i rfl rfl rfl rfl hh
    obtain ⟨n, hh⟩ := rn_i rfl rfl rfl rfl hh
    obtain ⟨n, hh⟩ := rn_icmp (cc := .ne) (off := 8) (t := 48) rfl rfl hh
    have hh : pm_run PT n fr lo 195 (48, [some (.ref 162), some (.int (nI 2)), some (.int 1), x3], [.ref 162], h, 198, sl) = some R := hh
    obtain ⟨n, hh⟩ := rn_i rfl rfl rfl rfl hh
    have hh : pm_run PT n fr lo 195 (50, [some (.ref 162), some (.int (nI 2)), some (.int 1), x3], [.retAddr 3, .ref 162], h, 198, sl) = some R := hh
    obtain ⟨n, fr', lo', r1, hr1, hh⟩ := rn_call (w := 0) (t := 183) rfl rfl hh
    have er := to_run (i := 3) (by decide) ht hp q hr1
    have el : (tko 3 tp p t (st_tx 3).length 0).isSome = (decide (p < t) && zlev 2 (tp p)) := by
      by_cases y : p < t
      · rw [decide_eq_true y, Bool.true_and]
        exact tk_l2 y
      · rw [decide_eq_false y, Bool.false_and]
        exact tk_no y
    show zM R t sl ns tp (cond (decide (p < t) && zlev 2 (tp p)) (cond (pz tp t m 3 ns (p + 1)).1 (zlp (pz tp t m 3 ns) tp t 2 k (pz tp t m 3 ns (p + 1)).2) (false, (pz tp t m 3 ns (p + 1)).2)) (true, p))
    rw [← el]
    cases zt : tko 3 tp p t (st_tx 3).length 0 with
    | none =>
      rw [zt] at er
      have er : r1 = (some (.int (-1)), h, 198, sl) := er
      subst er
      have hh : pm_run PT n fr lo 195 (53, [some (.ref 162), some (.int (nI 2)), some (.int 1), x3], [.int (-1)], h, 198, sl) = some R := hh
      obtain ⟨n, hh⟩ := rn_i rfl rfl rfl rfl hh
      obtain ⟨n, hh⟩ := rn_i rfl rfl rfl rfl hh
      have hh : pm_run PT n fr lo 195 (55, [some (.ref 162), some (.int (nI 2)), some (.int 1), some (.int (-1))], [.int (-1)], h, 198, sl) = some R := hh
      obtain ⟨n, hh⟩ := rn_if (cc := .ge) (off := 5) (t := 60) rfl rfl hh
      have hh : pm_run PT n fr lo 195 (58, [some (.ref 162), some (.int (nI 2)), some (.int 1), some (.int (-1))], [], h, 198, sl) = some R := hh
      obtain ⟨n, hh⟩ := rn_i rfl rfl rfl rfl hh
      have e := (rn_ret rfl (Or.inr rfl) hh).2
      rw [e]
      exact ⟨rfl, q, fun _ => h18, rfl⟩
    | some j =>
      have hj := tko_some zt
      have hl : p < t := hj.1
      rw [zt] at er
      have er : r1 = (some (.int (nI j)), mset h 16 (.int (nI (p + 1))), 198, sl) := er
      subst er
      have hj2 : j < 2 := by
        have : (st_tx 3).length = 2 := by decide +kernel
        omega
      have q2 := qM_16 (p' := p + 1) q
      have g2 : mF (mset h 16 (.int (nI (p + 1)))) 18 (.int (nI ns)) := mF_ne (by decide) h18
      have hh : pm_run PT n fr lo 195 (53, [some (.ref 162), some (.int (nI 2)), some (.int 1), x3], [.int (nI j)], (mset h 16 (.int (nI (p + 1)))), 198, sl) = some R := hh
      generalize mset h 16 (.int (nI (p + 1))) = h2 at hh q2 g2
      have hh : pm_run PT n fr lo 195 (53, [some (.ref 162), some (.int (nI 2)), some (.int 1), x3], [.int (nI j)], h2, 198, sl) = some R := hh
      obtain ⟨n, hh⟩ := rn_i rfl rfl rfl rfl hh
      obtain ⟨n, hh⟩ := rn_i rfl rfl rfl rfl hh
      have hh : pm_run PT n fr lo 195 (55, [some (.ref 162), some (.int (nI 2)), some (.int 1), some (.int (nI j))], [.int (nI j)], h2, 198, sl) = some R := hh
      obtain ⟨n, hh⟩ := rn_if (cc := .ge) (off := 5) (t := 60) rfl rfl hh
      rw [ge0_val (by rw [nI_toInt (by omega)]; omega)] at hh
      have hh : pm_run PT n fr lo 195 (60, [some (.ref 162), some (.int (nI 2)), some (.int 1), some (.int (nI j))], [], h2, 198, sl) = some R := hh
      obtain ⟨n, hh⟩ := rn_i rfl rfl rfl rfl hh
      obtain ⟨n, hh⟩ := rn_i rfl rfl rfl rfl hh
      obtain ⟨n, hh⟩ := rn_i rfl rfl rfl rfl hh
      obtain ⟨n, hh⟩ := rn_i rfl rfl rfl rfl hh
      have hh : pm_run PT n fr lo 195 (64, [some (.ref 162), some (.int (nI 2)), some (.int 1), some (.int (nI j))], [.int (nI 3), .ref 162], h2, 198, sl) = some R := hh
      obtain ⟨n, fr', lo', r1, hr1, hh⟩ := rn_call (w := 0) (t := 195) rfl rfl hh
      obtain ⟨b1, b2, b3, b4⟩ := ih 3 ns (p + 1) _ _ _ _ _ _ (by omega) hns (by omega) (by omega) q2 g2 hr1
      obtain ⟨rv, h4, s4⟩ := r1
      dsimp only at b1 b2 b3 b4
      subst b1
      subst b4
      have hle := pz_le (f := tp) (t := t) m 3 ns (p + 1) (by omega)
      have hge := pz_ge (f := tp) (t := t) m 3 ns (p + 1)
      have hh : pm_run PT n fr lo 195 (67, [some (.ref 162), some (.int (nI 2)), some (.int 1), some (.int (nI j))], [.int (cond (pz tp t m 3 ns (p + 1)).1 1 0)], h4, 198, sl) = some R := hh
      obtain ⟨n, hh⟩ := rn_if (cc := .ne) (off := 5) (t := 72) rfl rfl hh
      cases zr : (pz tp t m 3 ns (p + 1)).1 with
      | false =>
        rw [zr] at hh
        have hh : pm_run PT n fr lo 195 (70, [some (.ref 162), some (.int (nI 2)), some (.int 1), some (.int (nI j))], [], h4, 198, sl) = some R := hh
        obtain ⟨n, hh⟩ := rn_i rfl rfl rfl rfl hh
        have e := (rn_ret rfl (Or.inr rfl) hh).2
        rw [e]
        exact ⟨rfl, b2, fun e => (by cases e), rfl⟩
      | true =>
        rw [zr] at hh b3
        have g4 := b3 rfl
        have hh : pm_run PT n fr lo 195 (72, [some (.ref 162), some (.int (nI 2)), some (.int 1), some (.int (nI j))], [], h4, 198, sl) = some R := hh
        obtain ⟨n, hh⟩ := rn_i rfl rfl rfl rfl hh
        obtain ⟨n, hh⟩ := rn_i rfl rfl rfl rfl hh
        obtain ⟨n, hh⟩ := rn_i rfl rfl rfl rfl hh
        obtain ⟨n, hh⟩ := rn_i rfl rfl rfl rfl hh
        obtain ⟨n, hh⟩ := rn_i rfl rfl rfl rfl hh
        have hh : pm_run PT n fr lo 195 (79, [some (.ref 162), some (.int (nI 2)), some (.int 1), some (.int (nI j))], [.int (nI 2), .int (2000 + (nI j)), .ref 162], h4, 198, sl) = some R := hh
        obtain ⟨n, hh⟩ := rn_if (cc := .ne) (off := 7) (t := 86) rfl rfl hh
        have hh : pm_run PT n fr lo 195 (86, [some (.ref 162), some (.int (nI 2)), some (.int 1), some (.int (nI j))], [.int (2000 + (nI j)), .ref 162], h4, 198, sl) = some R := hh
        obtain ⟨n, hh⟩ := rn_i rfl rfl rfl rfl hh
        obtain ⟨n, hh⟩ := rn_i rfl rfl rfl rfl hh
        obtain ⟨n, hh⟩ := rn_icmp (cc := .ne) (off := 7) (t := 95) rfl rfl hh
        have hh : pm_run PT n fr lo 195 (95, [some (.ref 162), some (.int (nI 2)), some (.int 1), some (.int (nI j))], [.int (2000 + (nI j)), .ref 162], h4, 198, sl) = some R := hh
        obtain ⟨n, hh⟩ := rn_i rfl rfl rfl rfl hh
        have hh : pm_run PT n fr lo 195 (96, [some (.ref 162), some (.int (nI 2)), some (.int 1), some (.int (nI j))], [.int 5, .int (2000 + (nI j)), .ref 162], h4, 198, sl) = some R := hh
        obtain ⟨n, hh⟩ := rn_i rfl rfl rfl rfl hh
        have hh : pm_run PT n fr lo 195 (97, [some (.ref 162), some (.int (nI 2)), some (.int 1), some (.int (nI j))], [.int ((2000 + (nI j)) + 5), .ref 162], h4, 198, sl) = some R := hh
        obtain ⟨n, fr', lo', r1, hr1, hh⟩ := rn_call (w := 0) (t := 193) rfl rfl hh
        obtain ⟨d1, d2, d3, d4⟩ := cod_run b2 hr1
        obtain ⟨rv, h5, s5⟩ := r1
        dsimp only at d1 d2 d3 d4
        subst d1
        subst d4
        have g5 := d3 _ g4
        have hh : pm_run PT n fr lo 195 (100, [some (.ref 162), some (.int (nI 2)), some (.int 1), some (.int (nI j))], [], h5, 198, sl) = some R := hh
        obtain ⟨n, hh⟩ := rn_i rfl rfl rfl rfl hh
        obtain ⟨n, hh⟩ := rn_if (cc := .le) (off := 7) (t := 108) rfl rfl hh
        have hh : pm_run PT n fr lo 195 (104, [some (.ref 162), some (.int (nI 2)), some (.int 1), some (.int (nI j))], [], h5, 198, sl) = some R := hh
        obtain ⟨n, hh⟩ := rn_i rfl rfl rfl rfl hh
        obtain ⟨n, hh⟩ := rn_i rfl rfl rfl rfl hh
        obtain ⟨n, hh⟩ := rn_i rfl rfl rfl rfl hh
        obtain ⟨n, hh⟩ := rn_i rfl rfl rfl rfl hh
        have hh : pm_run PT n fr lo 195 (24, [some (.ref 162), some (.int (nI 2)), some (.int 1), some (.int (nI j))], [], h5, 198, sl) = some R := hh
        exact ihk _ n _ h5 (by omega) hle d2 g5 hh
theorem rM_all {tp : Nat → Int32} (ht : t ≤ 40) : ∀ m, rM m t tp
  | 0 => by
    intro lv ns p n fr lo sl h R h1 h2 h3 hp q h18 hh
    omega
  | m + 1 => by
    intro lv ns p n fr lo sl h R h1 h2 h3 hp q h18 hh
    have ih := rM_all (tp := tp) ht m
    rcases (by omega : lv = 3 ∨ lv = 0 ∨ lv = 1 ∨ lv = 2) with rfl | rfl | rfl | rfl
    · show zM R t sl ns tp (zth (pz tp t m 0 (ns + 1)) tp t ns (zmi tp t 40 p))
      obtain ⟨n, hh⟩ := rn_i rfl rfl rfl rfl hh
      obtain ⟨n, hh⟩ := rn_i rfl rfl rfl rfl hh
      obtain ⟨n, hh⟩ := rn_icmp (cc := .ne) (off := 8) (t := 10) rfl rfl hh
      have hh : pm_run PT n fr lo 195 (5, [some (.ref 162), some (.int (nI 3)), none, none], [], h, 198, sl) = some R := hh
      obtain ⟨n, hh⟩ := rn_i rfl rfl rfl rfl hh
      obtain ⟨n, fr', lo', r1, hr1, hh⟩ := rn_call (w := 0) (t := 194) rfl rfl hh
      obtain ⟨b1, b2, b3, b4⟩ := thm_run ht ih h2 (by omega) t p _ _ _ _ h _ (by omega) hp q h18 hr1
      obtain ⟨rv, h3, s3⟩ := r1
      dsimp only at b1 b2 b3 b4
      subst b1
      subst b4
      have hh : pm_run PT n fr lo 195 (9, [some (.ref 162), some (.int (nI 3)), none, none], [.int (cond (zth (pz tp t m 0 (ns + 1)) tp t ns (zmi tp t 40 p)).1 1 0)], h3, 198, sl) = some R := hh
      have e := (rn_ret rfl (Or.inr rfl) hh).2
      rw [e]
      exact ⟨rfl, b2, b3, rfl⟩
    · show zM R t sl ns tp (cond (pz tp t m 1 ns p).1 (zlp (pz tp t m 1 ns) tp t 0 1 (pz tp t m 1 ns p).2) (false, (pz tp t m 1 ns p).2))
      obtain ⟨n, hh⟩ := rn_i rfl rfl rfl rfl hh
      obtain ⟨n, hh⟩ := rn_i rfl rfl rfl rfl hh
      obtain ⟨n, hh⟩ := rn_icmp (cc := .ne) (off := 8) (t := 10) rfl rfl hh
      have hh : pm_run PT n fr lo 195 (10, [some (.ref 162), some (.int (nI 0)), none, none], [], h, 198, sl) = some R := hh
      obtain ⟨n, hh⟩ := rn_i rfl rfl rfl rfl hh
      obtain ⟨n, hh⟩ := rn_i rfl rfl rfl rfl hh
      obtain ⟨n, hh⟩ := rn_i rfl rfl rfl rfl hh
      obtain ⟨n, hh⟩ := rn_i rfl rfl rfl rfl hh
      have hh : pm_run PT n fr lo 195 (14, [some (.ref 162), some (.int (nI 0)), none, none], [.int (nI 1), .ref 162], h, 198, sl) = some R := hh
      obtain ⟨n, fr', lo', r1, hr1, hh⟩ := rn_call (w := 0) (t := 195) rfl rfl hh
      obtain ⟨b1, b2, b3, b4⟩ := ih 1 ns p _ _ _ _ _ _ (by omega) h2 (by omega) hp q h18 hr1
      obtain ⟨rv, h3, s3⟩ := r1
      dsimp only at b1 b2 b3 b4
      subst b1
      subst b4
      have hle := pz_le (f := tp) (t := t) m 1 ns p hp
      have hh : pm_run PT n fr lo 195 (17, [some (.ref 162), some (.int (nI 0)), none, none], [.int (cond (pz tp t m 1 ns p).1 1 0)], h3, 198, sl) = some R := hh
      obtain ⟨n, hh⟩ := rn_if (cc := .ne) (off := 5) (t := 22) rfl rfl hh
      cases zr : (pz tp t m 1 ns p).1 with
      | false =>
        rw [zr] at hh
        have hh : pm_run PT n fr lo 195 (20, [some (.ref 162), some (.int (nI 0)), none, none], [], h3, 198, sl) = some R := hh
        obtain ⟨n, hh⟩ := rn_i rfl rfl rfl rfl hh
        have e := (rn_ret rfl (Or.inr rfl) hh).2
        rw [e]
        exact ⟨rfl, b2, fun e => (by cases e), rfl⟩
      | true =>
        rw [zr] at hh b3
        have g3 := b3 rfl
        have hh : pm_run PT n fr lo 195 (22, [some (.ref 162), some (.int (nI 0)), none, none], [], h3, 198, sl) = some R := hh
        obtain ⟨n, hh⟩ := rn_i rfl rfl rfl rfl hh
        obtain ⟨n, hh⟩ := rn_i rfl rfl rfl rfl hh
        have hh : pm_run PT n fr lo 195 (24, [some (.ref 162), some (.int (nI 0)), some (.int 1), none], [], h3, 198, sl) = some R := hh
        exact lpm_0 ht ih h2 (by omega) hle b2 g3 hh
    · show zM R t sl ns tp (cond (pz tp t m 2 ns p).1 (zlp (pz tp t m 2 ns) tp t 1 40 (pz tp t m 2 ns p).2) (false, (pz tp t m 2 ns p).2))
      obtain ⟨n, hh⟩ := rn_i rfl rfl rfl rfl hh
      obtain ⟨n, hh⟩ := rn_i rfl rfl rfl rfl hh
      obtain ⟨n, hh⟩ := rn_icmp (cc := .ne) (off := 8) (t := 10) rfl rfl hh
      have hh : pm_run PT n fr lo 195 (10, [some (.ref 162), some (.int (nI 1)), none, none], [], h, 198, sl) = some R := hh
      obtain ⟨n, hh⟩ := rn_i rfl rfl rfl rfl hh
      obtain ⟨n, hh⟩ := rn_i rfl rfl rfl rfl hh
      obtain ⟨n, hh⟩ := rn_i rfl rfl rfl rfl hh
      obtain ⟨n, hh⟩ := rn_i rfl rfl rfl rfl hh
      have hh : pm_run PT n fr lo 195 (14, [some (.ref 162), some (.int (nI 1)), none, none], [.int (nI 2), .ref 162], h, 198, sl) = some R := hh
      obtain ⟨n, fr', lo', r1, hr1, hh⟩ := rn_call (w := 0) (t := 195) rfl rfl hh
      obtain ⟨b1, b2, b3, b4⟩ := ih 2 ns p _ _ _ _ _ _ (by omega) h2 (by omega) hp q h18 hr1
      obtain ⟨rv, h3, s3⟩ := r1
      dsimp only at b1 b2 b3 b4
      subst b1
      subst b4
      have hle := pz_le (f := tp) (t := t) m 2 ns p hp
      have hh : pm_run PT n fr lo 195 (17, [some (.ref 162), some (.int (nI 1)), none, none], [.int (cond (pz tp t m 2 ns p).1 1 0)], h3, 198, sl) = some R := hh
      obtain ⟨n, hh⟩ := rn_if (cc := .ne) (off := 5) (t := 22) rfl rfl hh
      cases zr : (pz tp t m 2 ns p).1 with
      | false =>
        rw [zr] at hh
        have hh : pm_run PT n fr lo 195 (20, [some (.ref 162), some (.int (nI 1)), none, none], [], h3, 198, sl) = some R := hh
        obtain ⟨n, hh⟩ := rn_i rfl rfl rfl rfl hh
        have e := (rn_ret rfl (Or.inr rfl) hh).2
        rw [e]
        exact ⟨rfl, b2, fun e => (by cases e), rfl⟩
      | true =>
        rw [zr] at hh b3
        have g3 := b3 rfl
        have hh : pm_run PT n fr lo 195 (22, [some (.ref 162), some (.int (nI 1)), none, none], [], h3, 198, sl) = some R := hh
        obtain ⟨n, hh⟩ := rn_i rfl rfl rfl rfl hh
        obtain ⟨n, hh⟩ := rn_i rfl rfl rfl rfl hh
        have hh : pm_run PT n fr lo 195 (24, [some (.ref 162), some (.int (nI 1)), some (.int 1), none], [], h3, 198, sl) = some R := hh
        exact lpm_1 ht ih h2 (by omega) 40 _ n _ h3 (by omega) hle b2 g3 hh
    · show zM R t sl ns tp (cond (pz tp t m 3 ns p).1 (zlp (pz tp t m 3 ns) tp t 2 40 (pz tp t m 3 ns p).2) (false, (pz tp t m 3 ns p).2))
      obtain ⟨n, hh⟩ := rn_i rfl rfl rfl rfl hh
      obtain ⟨n, hh⟩ := rn_i rfl rfl rfl rfl hh
      obtain ⟨n, hh⟩ := rn_icmp (cc := .ne) (off := 8) (t := 10) rfl rfl hh
      have hh : pm_run PT n fr lo 195 (10, [some (.ref 162), some (.int (nI 2)), none, none], [], h, 198, sl) = some R := hh
      obtain ⟨n, hh⟩ := rn_i rfl rfl rfl rfl hh
      obtain ⟨n, hh⟩ := rn_i rfl rfl rfl rfl hh
      obtain ⟨n, hh⟩ := rn_i rfl rfl rfl rfl hh
      obtain ⟨n, hh⟩ := rn_i rfl rfl rfl rfl hh
      have hh : pm_run PT n fr lo 195 (14, [some (.ref 162), some (.int (nI 2)), none, none], [.int (nI 3), .ref 162], h, 198, sl) = some R := hh
      obtain ⟨n, fr', lo', r1, hr1, hh⟩ := rn_call (w := 0) (t := 195) rfl rfl hh
      obtain ⟨b1, b2, b3, b4⟩ := ih 3 ns p _ _ _ _ _ _ (by omega) h2 (by omega) hp q h18 hr1
      obtain ⟨rv, h3, s3⟩ := r1
      dsimp only at b1 b2 b3 b4
      subst b1
      subst b4
      have hle := pz_le (f := tp) (t := t) m 3 ns p hp
      have hh : pm_run PT n fr lo 195 (17, [some (.ref 162), some (.int (nI 2)), none, none], [.int (cond (pz tp t m 3 ns p).1 1 0)], h3, 198, sl) = some R := hh
      obtain ⟨n, hh⟩ := rn_if (cc := .ne) (off := 5) (t := 22) rfl rfl hh
      cases zr : (pz tp t m 3 ns p).1 with
      | false =>
        rw [zr] at hh
        have hh : pm_run PT n fr lo 195 (20, [some (.ref 162), some (.int (nI 2)), none, none], [], h3, 198, sl) = some R := hh
        obtain ⟨n, hh⟩ := rn_i rfl rfl rfl rfl hh
        have e := (rn_ret rfl (Or.inr rfl) hh).2
        rw [e]
        exact ⟨rfl, b2, fun e => (by cases e), rfl⟩
      | true =>
        rw [zr] at hh b3
        have g3 := b3 rfl
        have hh : pm_run PT n fr lo 195 (22, [some (.ref 162), some (.int (nI 2)), none, none], [], h3, 198, sl) = some R := hh
        obtain ⟨n, hh⟩ := rn_i rfl rfl rfl rfl hh
        obtain ⟨n, hh⟩ := rn_i rfl rfl rfl rfl hh
        have hh : pm_run PT n fr lo 195 (24, [some (.ref 162), some (.int (nI 2)), some (.int 1), none], [], h3, 198, sl) = some R := hh
        exact lpm_2 ht ih h2 (by omega) 40 _ n _ h3 (by omega) hle b2 g3 hh
end ZRM
