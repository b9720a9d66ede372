/-! sheet, and the questions that write nothing of SR: value, where, swaps, feeds, starves -/
section QSR
variable {sl cc gc g c : Nat} {q : QT} {h h1 h2 hx hm hx' hm' : pm_H} {v w x y k m e s : Int32} {W : List Nat} {V : List (Nat × Nat)}
def srF (W : List Nat) (V : List (Nat × Nat)) : Bool := SA.all (fun a => !(W.elem a)) && (SFs.all (fun p => isO p.1 && !(V.elem p)) && !(W.elem 0))
/-- SRq is kept by what writes nothing of it -/
theorem SR_fr (hc : HC q cc gc h) (s : SRq q cc gc h) (f : frm W V h h1) (k : srF W V = true) : SRq q cc gc h1 := by
  unfold srF at k
  rw [Bool.and_eq_true, Bool.and_eq_true] at k
  obtain ⟨k1, k2, k3⟩ := k
  refine SRq_keep hc.qq (fun a e => Ar_e (f.1 a (nel (List.all_eq_true.mp k1 a (List.elem_iff.mp e))))) (fun c g e => ?_) (fun fs p e1 e2 => ⟨fs, (f.1 0 (nel k3)).trans e1, e2⟩) s
  have z := List.all_eq_true.mp k2 (c, g) (List.elem_iff.mp e)
  rw [Bool.and_eq_true] at z
  exact f.2 c g z.1 (nel2 z.2)
/-- what a gift is worth is the same on both sides -/
def VE (q : QT) (cc gc : Nat) (hx hm : pm_H) : Prop := (HC q cc gc hx ∧ HC q cc gc hm) ∧ VR q cc gc (Ar hx (q.1 + 1)) (Ar hm 174) ∧ RMm cc gc hx hm ∧ RS cc gc (Ar hx 14) (Ar hx 15) (Ar hx 16) (Ar hx 17) (Ar hx 18) (Fi hx 13 5) (Fi hx 13 6) (Ar hm 170) ∧ RI cc gc (Ar hm 170)
theorem VE_0 (hc : HC q cc gc h) (s : SRq q cc gc h) : VE q cc gc h h := ⟨⟨hc, hc⟩, s.1.1, s.2.2.1, s.2.1.1, s.2.1.2⟩
def veX (W : List Nat) : Bool := [6, 7, 9, 10, 11, 13, 14, 15, 16, 17, 18, 143, 146].all (fun a => !(W.elem a))
def veM (W : List Nat) : Bool := [164, 165, 166, 167, 168, 170, 174].all (fun a => !(W.elem a))
theorem VE_x (z : VE q cc gc hx hm) (hc : HC q cc gc hx') (f : frm W V hx hx') (k : veX W = true) : VE q cc gc hx' hm := by
  obtain ⟨⟨z1, z2⟩, z3, z4, z5, z6⟩ := z
  have ce : ∀ a, List.elem a [6, 7, 9, 10, 11, 13, 14, 15, 16, 17, 18, 143, 146] = true → hx' a = hx a := fun a e => f.1 a (nel (List.all_eq_true.mp k a (List.elem_iff.mp e)))
  have eq1 : Ar hx' (q.1 + 1) = Ar hx (q.1 + 1) := by
    rcases z1.qq with e | e
    · rw [e]
      exact Ar_e (ce 143 rfl)
    · rw [e]
      exact Ar_e (ce 146 rfl)
  refine ⟨⟨hc, z2⟩, ?_, ?_, ?_, z6⟩
  · rw [eq1]
    exact z3
  · unfold RMm
    rw [Ar_e (ce 6 rfl), Ar_e (ce 7 rfl), Ar_e (ce 9 rfl), Ar_e (ce 10 rfl), Ar_e (ce 11 rfl)]
    exact z4
  · rw [Ar_e (ce 14 rfl), Ar_e (ce 15 rfl), Ar_e (ce 16 rfl), Ar_e (ce 17 rfl), Ar_e (ce 18 rfl), Fi_e (ce 13 rfl), Fi_e (ce 13 rfl)]
    exact z5
theorem VE_m (z : VE q cc gc hx hm) (hc : HC q cc gc hm') (f : frm W V hm hm') (k : veM W = true) : VE q cc gc hx hm' := by
  obtain ⟨⟨z1, z2⟩, z3, z4, z5, z6⟩ := z
  have ce : ∀ a, List.elem a [164, 165, 166, 167, 168, 170, 174] = true → hm' a = hm a := fun a e => f.1 a (nel (List.all_eq_true.mp k a (List.elem_iff.mp e)))
  refine ⟨⟨z1, hc⟩, ?_, ?_, ?_, ?_⟩
  · rw [Ar_e (ce 174 rfl)]
    exact z3
  · unfold RMm
    rw [Ar_e (ce 164 rfl), Ar_e (ce 165 rfl), Ar_e (ce 166 rfl), Ar_e (ce 167 rfl), Ar_e (ce 168 rfl)]
    exact z4
  · rw [Ar_e (ce 170 rfl)]
    exact z5
  · rw [Ar_e (ce 170 rfl)]
    exact z6
theorem VE_val (z : VE q cc gc hx hm) (hg : g < gc) (hc : c < cc) : (v39 q cc gc hx g c).1 = (v201 q cc gc hm g c).1 := val_eq z.1.1 z.1.2 z.2.1 z.2.2.1 z.2.2.2.1 z.2.2.2.2.2.2.2.1 hg hc
theorem VE_39 (z : VE q cc gc hx hm) (g c : Nat) : VE q cc gc (v39 q cc gc hx g c).2 hm := by
  obtain ⟨c1, f1⟩ := v39_fr (g := g) (c := c) z.1.1
  exact VE_x z c1 f1 rfl
theorem VE_201 (z : VE q cc gc hx hm) (g c : Nat) : VE q cc gc hx (v201 q cc gc hm g c).2 := by
  obtain ⟨c1, f1⟩ := v201_fr (g := g) (c := c) z.1.2
  exact VE_m z c1 f1 rfl
/-- from the class's call to where the reference begins -/
theorem VE_go (hc : HC q cc gc h) (s : SRq q cc gc h) (c1 : HC q cc gc h1) (f : frm W V h h1) (k : veM W = true) : VE q cc gc h (fset h1 162 0 (.int (nI 0))) := by
  have cF : HC q cc gc (fset h1 162 0 (.int (nI 0))) := hc_f rfl rfl (by decide) rfl c1
  exact VE_m (W := [162]) (V := [(162, 0)]) (VE_m (VE_0 hc s) c1 f k) cF (fr_f rfl rfl fr_0) rfl
theorem imax_c {a b : Int32} : imax a b = cond (pm_cmp .le b a) a b := by
  unfold imax
  show _ = cond (decide (b ≤ a)) a b
  by_cases z : a < b
  · rw [if_pos z, decide_eq_false (fun z2 => by rw [Int32.lt_iff_toInt_lt] at z; rw [Int32.le_iff_toInt_le] at z2; omega)]
    rfl
  · rw [if_neg z, decide_eq_true (by rw [Int32.lt_iff_toInt_lt] at z; rw [Int32.le_iff_toInt_le]; omega)]
    rfl
/-- value -/
theorem sr_value (pr : prun sl 102 230 [x, y] h h1 h2 v w) (s : SR h) : v = w ∧ SR h2 := by
  obtain ⟨⟨m1, r1⟩, ⟨f1, i1⟩, ⟨m2, r2⟩, -, -⟩ := pr
  obtain ⟨q, cc, gc, hc, s⟩ := s
  have h6 := hc.cb
  have h8 := hc.gb
  cases zx : cB gc x with
  | false =>
    have a1 := v102w1_ok hc zx r1
    cases a1
    obtain ⟨a2, c2, g2⟩ := v230w1_ok hc zx r2
    cases a2
    exact ⟨rfl, q, cc, gc, c2, SR_fr hc s g2 (by decide +kernel)⟩
  | true =>
    cases zy : cB cc y with
    | false =>
      have a1 := v102w2_ok hc zx zy r1
      cases a1
      obtain ⟨a2, c2, g2⟩ := v230w2_ok hc zx zy r2
      cases a2
      exact ⟨rfl, q, cc, gc, c2, SR_fr hc s g2 (by decide +kernel)⟩
    | true =>
      obtain ⟨g, hg, rfl⟩ := cB_iv zx
      obtain ⟨c, hcc, rfl⟩ := cB_iv zy
      obtain ⟨a1, c1, g1⟩ := v102_ok hc (by omega) (by omega) r1
      injection a1 with b1 b2
      injection b1 with b1
      injection b1 with b1
      injection b2 with b2 b3
      rw [← b2] at c1 g1
      obtain ⟨a2, c2, g2⟩ := v230_ok c1 (by omega) (by omega) r2
      injection a2 with d1 d2
      injection d1 with d1
      injection d1 with d1
      injection d2 with d2 d3
      have ve := VE_go hc s c1 g1 rfl
      have ev := VE_val ve hg hcc
      have e1 : (v102 q cc gc h g c).1 = (v39 q cc gc h g c).1 := by
        unfold v102
        rw [decide_eq_true hg, decide_eq_true hcc]
        rfl
      have e2 : (v230 q cc gc h1 g c).1 = (v201 q cc gc (fset h1 162 0 (.int (nI 0))) g c).1 := by
        unfold v230
        rw [decide_eq_true hg, decide_eq_true hcc]
        rfl
      rw [b1, d1, e1, e2, d2]
      exact ⟨ev, q, cc, gc, c2, SR_fr c1 (SR_fr hc s g1 (by decide +kernel)) g2 (by decide +kernel)⟩
/-- where -/
theorem whe_lp (z : VE q cc gc hx hm) (hg : g < gc) {a1 a2 a3 b3 : Int32} (n : Nat) (hn : n ≤ cc) : (fun (k : Nat) (a b : Int32 × Int32 × Int32 × pm_H) => a.1 = b.1 ∧ a.2.1 = b.2.1 ∧ VE q cc gc a.2.2.2 b.2.2.2) (0 + n) (v103_26 q cc gc g n 0 (a1, a2, a3, hx)) (v231_28 q cc gc g n 0 (a1, a2, b3, hm)) := by
  refine lp_rl (f := fun i a => v103_26b q cc gc a.2.2.2 g i a.1 a.2.1 a.2.2.1) (f' := fun i a => v231_28b q cc gc a.2.2.2 g i a.1 a.2.1 a.2.2.1) (P := fun k a b => a.1 = b.1 ∧ a.2.1 = b.2.1 ∧ VE q cc gc a.2.2.2 b.2.2.2) n 0 (a1, a2, a3, hx) (a1, a2, b3, hm) ⟨rfl, rfl, z⟩ (fun k a b _ hk p => ?_)
  obtain ⟨x1, x2, x3, x4⟩ := a
  obtain ⟨y1, y2, y3, y4⟩ := b
  obtain ⟨p1, p2, p3⟩ := p
  dsimp only at p1 p2 p3 ⊢
  subst p1
  subst p2
  have e17 : Ar x4 17 g = Ar y4 170 (78 + g) := p3.2.2.2.1.2.2.2.1 g hg
  have ev := VE_val (g := g) (c := k) p3 hg (by omega)
  have v1 := VE_201 (VE_39 p3 g k) g k
  unfold v103_26b v231_28b
  rw [e17]
  cases pm_cmp .eq (nI k) (Ar y4 170 (78 + g)) with
  | true =>
    dsimp only [cond]
    exact ⟨rfl, rfl, p3⟩
  | false =>
    dsimp only [cond]
    rw [ev, imax_c]
    exact ⟨rfl, rfl, v1⟩
theorem sr_where (pr : prun sl 103 231 [x] h h1 h2 v w) (s : SR h) : v = w ∧ SR h2 := by
  obtain ⟨⟨m1, r1⟩, ⟨f1, i1⟩, ⟨m2, r2⟩, -, -⟩ := pr
  obtain ⟨q, cc, gc, hc, s⟩ := s
  have h8 := hc.gb
  cases zx : cB gc x with
  | false =>
    have a1 := v103w_ok hc zx r1
    cases a1
    obtain ⟨a2, c2, g2⟩ := v231w_ok hc zx r2
    cases a2
    exact ⟨rfl, q, cc, gc, c2, SR_fr hc s g2 (by decide +kernel)⟩
  | true =>
    obtain ⟨g, hg, rfl⟩ := cB_iv zx
    obtain ⟨a1, c1, g1⟩ := v103_ok hc (by omega) r1
    injection a1 with b1 b2
    injection b1 with b1
    injection b1 with b1
    injection b2 with b2 b3
    rw [← b2] at c1 g1
    obtain ⟨a2, c2, g2⟩ := v231_ok c1 (by omega) r2
    injection a2 with d1 d2
    injection d1 with d1
    injection d1 with d1
    injection d2 with d2 d3
    have ve := VE_go hc s c1 g1 rfl
    have lp := whe_lp (a1 := Int32.ofInt (-2)) (a2 := Int32.ofInt (-1)) (a3 := nI 999) (b3 := nI 1000000) ve hg cc (Nat.le_refl _)
    obtain ⟨l1, -, -⟩ := lp
    have e1 : (v103 q cc gc h g).1 = (v103_26 q cc gc g cc 0 ((Int32.ofInt (-2)), (Int32.ofInt (-1)), (nI 999), h)).1 := by
      unfold v103
      rw [decide_eq_true hg]
      show (cond _ _ _ : Int32 × pm_H).1 = _
      cases pm_cmp .lt ((v103_26 q cc gc g cc 0 ((Int32.ofInt (-2)), (Int32.ofInt (-1)), (nI 999), h)).1) 0 <;> rfl
    have e2 : (v231 q cc gc h1 g).1 = (v231_28 q cc gc g cc 0 ((Int32.ofInt (-2)), (Int32.ofInt (-1)), (nI 1000000), fset h1 162 0 (.int (nI 0)))).1 := by
      unfold v231
      rw [decide_eq_true hg]
      show (cond _ _ _ : Int32 × pm_H).1 = _
      cases pm_cmp .lt ((v231_28 q cc gc g cc 0 ((Int32.ofInt (-2)), (Int32.ofInt (-1)), (nI 1000000), fset h1 162 0 (.int (nI 0)))).1) 0 <;> rfl
    rw [b1, d1, e1, e2, d2]
    exact ⟨l1, q, cc, gc, c2, SR_fr c1 (SR_fr hc s g1 (by decide +kernel)) g2 (by decide +kernel)⟩
/-- swaps, feeds, starves: what they leave -/
theorem st_swaps (pr : prun sl 107 236 [] h h1 h2 v w) (hI : mInv h) (s : SR h) : SR h2 := by
  obtain ⟨⟨m1, r1⟩, ⟨f1, i1⟩, ⟨m2, r2⟩, -, -⟩ := pr
  obtain ⟨q, cc, gc, hc, s⟩ := s
  obtain ⟨a1, c1, g1⟩ := v107_ok hc (na_17 hI.1) r1
  cases a1
  obtain ⟨a2, c2, g2⟩ := v236_ok c1 (na_170 i1.1) r2
  cases a2
  exact ⟨q, cc, gc, c2, SR_fr c1 (SR_fr hc s g1 (by decide +kernel)) g2 (by decide +kernel)⟩
theorem st_feeds (pr : prun sl 111 242 [x] h h1 h2 v w) (s : SR h) : SR h2 := by
  obtain ⟨⟨m1, r1⟩, ⟨f1, i1⟩, ⟨m2, r2⟩, -, -⟩ := pr
  obtain ⟨q, cc, gc, hc, s⟩ := s
  have h6 := hc.cb
  cases zx : cB cc x with
  | false =>
    have a1 := v111w_ok hc zx r1
    cases a1
    obtain ⟨a2, c2, g2⟩ := v242w_ok hc zx r2
    cases a2
    exact ⟨q, cc, gc, c2, SR_fr hc s g2 (by decide +kernel)⟩
  | true =>
    obtain ⟨c, hcc, rfl⟩ := cB_iv zx
    obtain ⟨a1, c1, g1⟩ := v111_ok hc (by omega) r1
    cases a1
    obtain ⟨a2, c2, g2⟩ := v242_ok c1 (by omega) r2
    cases a2
    exact ⟨q, cc, gc, c2, SR_fr c1 (SR_fr hc s g1 (by decide +kernel)) g2 (by decide +kernel)⟩
theorem st_starves (pr : prun sl 112 243 [x, y] h h1 h2 v w) (s : SR h) : SR h2 := by
  obtain ⟨⟨m1, r1⟩, ⟨f1, i1⟩, ⟨m2, r2⟩, -, -⟩ := pr
  obtain ⟨q, cc, gc, hc, s⟩ := s
  have h6 := hc.cb
  cases zp : pP cc x y with
  | false =>
    have a1 := v112w_ok hc zp r1
    cases a1
    obtain ⟨a2, c2, g2⟩ := v243w_ok hc zp r2
    cases a2
    exact ⟨q, cc, gc, c2, SR_fr hc s g2 (by decide +kernel)⟩
  | true =>
    obtain ⟨a, b, ha, hb, hab, rfl, rfl⟩ := pP_iv zp
    obtain ⟨a1, c1, g1⟩ := v112_ok hc (by omega) (by omega) r1
    cases a1
    obtain ⟨a2, c2, g2⟩ := v243_ok c1 (by omega) (by omega) r2
    cases a2
    exact ⟨q, cc, gc, c2, SR_fr c1 (SR_fr hc s g1 (by decide +kernel)) g2 (by decide +kernel)⟩
/-- sheet -/
theorem sht_lp (s0 : ∀ t, t < 6 → Ar hx 14 t = Ar hm 170 t) (t : Nat) (ht : t < 6) : Ar (v95_44 q cc gc k m e s (cond (pm_cmp .ne k (nI 3)) false true) cc 0 hx) 14 t = Ar ((v210_43 q cc gc k m e s cc 0 (e, fset hm 162 0 (.int (nI 0)))).2) 170 t := by
  rw [sx_loop, sm_loop cc 0 e _ t (by rw [show nI 0 = 0 from rfl, Int32.zero_mul, Int32.add_zero])]
  by_cases z : 0 ≤ t ∧ t < 0 + cc
  · rw [if_pos z, if_pos z, sf_eq]
  · rw [if_neg z, if_neg z, Ar_f]
    exact s0 t ht
theorem sht_hi (h6 : cc ≤ 6) (t : Nat) (ht : 6 ≤ t) : Ar ((v210_43 q cc gc k m e s cc 0 (e, fset hm 162 0 (.int (nI 0)))).2) 170 t = Ar hm 170 t := by
  rw [sm_loop cc 0 e _ t (by rw [show nI 0 = 0 from rfl, Int32.zero_mul, Int32.add_zero]), if_neg (by omega), Ar_f]
theorem sht_st (h6 : cc ≤ 6) (s0 : ∀ t, t < 6 → Ar hx 14 t = Ar hm 170 t) : (∀ t, t < 6 → Ar (v95 q cc gc hx k m e s).2 14 t = Ar (v210 q cc gc hm k m e s).2 170 t) ∧ ∀ t, 6 ≤ t → Ar (v210 q cc gc hm k m e s).2 170 t = Ar hm 170 t := by
  have l1 := sht_lp (q := q) (cc := cc) (gc := gc) (k := k) (m := m) (e := e) (s := s) s0
  have l2 := sht_hi (q := q) (cc := cc) (gc := gc) (k := k) (m := m) (e := e) (s := s) (hm := hm) h6
  have s1 : ∀ t, t < 6 → Ar hx 14 t = Ar (fset hm 162 0 (.int (nI 0))) 170 t := fun t ht => (s0 t ht).trans (congrFun Ar_f t).symm
  have s2 : ∀ t, 6 ≤ t → Ar (fset hm 162 0 (.int (nI 0))) 170 t = Ar hm 170 t := fun t _ => congrFun Ar_f t
  unfold v95 v210
  rw [sht_in]
  generalize v36 q cc gc (Ar (v95_44 q cc gc k m e s (cond (pm_cmp .ne k (nI 3)) false true) cc 0 hx) 14) = u1
  generalize v177 q cc gc (Ar ((v210_43 q cc gc k m e s cc 0 (e, fset hm 162 0 (.int (nI 0)))).2) 170) = u2
  generalize v95_44 q cc gc k m e s (cond (pm_cmp .ne k (nI 3)) false true) cc 0 hx = L at *
  generalize (v210_43 q cc gc k m e s cc 0 (e, fset hm 162 0 (.int (nI 0)))).2 = M at *
  cases pm_cmp .lt k 0 with
  | true => exact ⟨s1, s2⟩
  | false =>
    cases pm_cmp .gt k (nI 3) with
    | true => exact ⟨s1, s2⟩
    | false =>
      cases pm_cmp .le m (nI 6) with
      | false => exact ⟨s1, s2⟩
      | true =>
        rw [i_ne]
        cases pm_cmp .eq k (nI 3) with
        | true => exact ⟨l1, l2⟩
        | false =>
          cases pm_cmp .ge m 0 with
          | true => exact ⟨l1, l2⟩
          | false => exact ⟨s1, s2⟩
theorem asR_g : (List.range 6).all (fun j => decide (asR[j]? = some ((0, 0, 999) : av))) = true := by decide +kernel
theorem ty_170 (hI : ah_ok bB 198 [] h) : ∀ (j : Nat) (a : av), asR[j]? = some a → av_ok (.int (Ar h 170 j)) a := by
  have e0 := wt_a (wt_of hI) (by decide) (show wd (bB 170) = .inl (0, 96, ai_top) from rfl) (by decide)
  have b0 : ac_ok (h 170) (.inr (1000, asR)) := hI 170 (by decide)
  rw [e0] at b0
  have b0 : 1000 = 1000 + 0 ∧ 96 = asR.length ∧ ∀ (j : Nat) (a : av), asR[j]? = some a → av_ok (.int (Ar h 170 j)) a := b0
  exact b0.2.2
theorem CK_sh : CK.all (fun a => decide (a ≠ 14 ∧ a ≠ 162 ∧ a ≠ 170)) = true := by decide +kernel
theorem sr_sheet (pr : prun sl 95 210 [k, m, e, s] h h1 h2 v w) (z : SR h) : SR h2 := by
  obtain ⟨⟨n1, r1⟩, ⟨f1, i1⟩, ⟨n2, r2⟩, -, i2⟩ := pr
  obtain ⟨q, cc, gc, fi, si, hc, z, hfi, hsi, e1, e2, e3, pa⟩ := SR_open z
  have h6 := hc.cb
  obtain ⟨a1, c1, g1⟩ := v95_ok hc r1
  injection a1 with b1 b2
  injection b2 with b2 b3
  rw [← b2] at c1 g1
  obtain ⟨a2, c2, g2⟩ := v210_ok c1 r2
  injection a2 with d1 d2
  injection d2 with d2 d3
  have s0 : ∀ t, t < 6 → Ar h 14 t = Ar h1 170 t := fun t ht => (z.2.1.1.1 t ht).trans (congrFun (Ar_e (g1.1 170 rfl)) t).symm
  obtain ⟨t1, t2⟩ := sht_st (q := q) (cc := cc) (gc := gc) (k := k) (m := m) (e := e) (s := s) (hx := h) (hm := h1) h6 s0
  rw [← d2] at t1 t2 c2 g2
  rw [← b2] at t1
  have lo : ∀ a, a ≠ 14 → a ≠ 162 → a ≠ 170 → h2 a = h a := fun a n1 n2 n3 => (g2.1 a (by
    cases y : List.elem a [162, 170] with
    | false => rfl
    | true =>
      have y := List.elem_iff.mp y
      simp at y
      omega)).trans (g1.1 a (by
    cases y : List.elem a [14] with
    | false => rfl
    | true =>
      have y := List.elem_iff.mp y
      simp at y
      omega))
  have hi : ∀ t, 6 ≤ t → Ar h2 170 t = Ar h 170 t := fun t ht => (t2 t ht).trans (congrFun (Ar_e (g1.1 170 rfl)) t)
  have s14 : ∀ t, t < 6 → Ar h2 14 t = Ar h2 170 t := fun t ht => (congrFun (Ar_e (g2.1 14 rfl)) t).trans (t1 t ht)
  have fi2 : ∀ g, g ≠ 0 → Fi h2 162 g = Fi h 162 g := fun g hg => (g2.2 162 g rfl (by
    cases y : List.elem (162, g) [(162, 0)] with
    | false => rfl
    | true =>
      have y := List.elem_iff.mp y
      simp at y
      exact absurd y hg)).trans (Fi_e (g1.1 162 rfl))
  have cs : ∀ a, CK.elem a = true → h2 a = h a := fun a e => by
    have w := of_decide_eq_true (List.all_eq_true.mp CK_sh a (List.elem_iff.mp e))
    exact lo a w.1 w.2.1 w.2.2
  have ka : kpt AK h h2 := fun a e => Ar_e (cs a (List.elem_iff.mpr (List.mem_append_left _ (List.elem_iff.mp e))))
  have kf : kpf FK h h2 := by
    intro c g e
    have e := List.elem_iff.mp e
    simp only [FK, List.mem_cons, Prod.mk.injEq, List.not_mem_nil, or_false] at e
    rcases e with ⟨rfl, rfl⟩ | ⟨rfl, rfl⟩ | ⟨rfl, rfl⟩ | ⟨rfl, rfl⟩ | ⟨rfl, rfl⟩ | ⟨rfl, rfl⟩ | ⟨rfl, rfl⟩ | ⟨rfl, rfl⟩ | ⟨rfl, rfl⟩ | ⟨rfl, rfl⟩ | ⟨rfl, rfl⟩
    · exact Fi_e (cs 0 rfl)
    · exact Fi_e (cs 5 rfl)
    · exact Fi_e (cs 5 rfl)
    · exact Fi_e (cs 159 rfl)
    · exact fi2 47 (by decide)
    · exact Fi_e (cs 124 rfl)
    · exact Fi_e (cs 124 rfl)
    · exact Fi_e (cs 130 rfl)
    · exact Fi_e (cs 130 rfl)
    · exact Fi_e (cs 136 rfl)
    · exact Fi_e (cs 136 rfl)
  obtain ⟨⟨y1, y2, y3, y4, y5, y6, y7⟩, u1, u2, u3, u4, u5⟩ := z.2.1
  have e13 := lo 13 (by decide) (by decide) (by decide)
  refine SR_act c2 hc.qq z ka kf (fun fs p e1 e2 => ⟨fs, (cs 0 rfl).trans e1, e2⟩) ⟨⟨s14, fun a b ha hb hn => ?_, fun a b ha hb => ?_, fun j hj => ?_, fun j hj => ?_, ?_, ?_⟩, ⟨fun c hcl => ?_, fun a b ha hb hn => ?_, fun a b ha hb => ?_, fun j hj => ?_, fun k hk hk2 => ?_⟩⟩ ⟨fi, si, hfi, hsi, ⟨(Fi_e (lo 25 (by decide) (by decide) (by decide))).trans e1, (Fi_e (lo 25 (by decide) (by decide) (by decide))).trans e2, (fi2 27 (by decide)).trans e3⟩, fun j hj => ?_⟩
  · rw [Ar_e (lo (13 + 2) (by decide) (by decide) (by decide)), hi _ (by omega)]
    exact y2 a b ha hb hn
  · rw [Ar_e (lo (13 + 3) (by decide) (by decide) (by decide)), hi _ (by omega)]
    exact y3 a b ha hb
  · rw [Ar_e (lo (13 + 4) (by decide) (by decide) (by decide)), hi _ (by omega)]
    exact y4 j hj
  · rw [Ar_e (lo (13 + 5) (by decide) (by decide) (by decide)), hi _ (by omega)]
    exact y5 j hj
  · rw [Fi_e e13, hi 94 (by decide)]
    exact y6
  · rw [Fi_e e13, hi 95 (by decide)]
    exact y7
  · have q1 := ty_170 i2.1 c _ (of_decide_eq_true (List.all_eq_true.mp asR_g c (List.mem_range.mpr hcl)))
    exact ⟨q1.2.1, q1.2.2⟩
  · rw [hi _ (by omega)]
    exact u2 a b ha hb hn
  · rw [hi _ (by omega)]
    exact u3 a b ha hb
  · rw [hi _ (by omega)]
    exact u4 j hj
  · rw [hi 94 (by decide)]
    exact u5 k hk hk2
  · obtain ⟨q1, q2⟩ := pa j hj
    rw [Ar_e (lo 178 (by decide) (by decide) (by decide))]
    exact ⟨RSb_e (fun i h1 h2 => lo i (by omega) (by omega) (by omega)) q1, q2⟩
end QSR
