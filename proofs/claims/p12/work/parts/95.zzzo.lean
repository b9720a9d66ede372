/-! questions: both sides answer alike -/
section QE8
variable {sl cc gc g c : Nat} {q : QT} {h h1 h2 : pm_H} {v w x y : Int32}
/-- net -/
theorem eq_net (pr : prun sl 113 244 [x] h h1 h2 v w) (s : SR h) : v = w := by
  obtain ⟨⟨m1, r1⟩, ⟨f1, i1⟩, ⟨m2, r2⟩, -, -⟩ := pr
  obtain ⟨q, cc, gc, hc, s⟩ := s
  have h6 := hc.cb
  have e170 : Ar h1 170 = Ar h 170 := Ar_e (f1.1 170 rfl)
  cases zx : cB cc x with
  | false =>
    have a1 := v113w_ok hc zx r1
    cases a1
    obtain ⟨a2, -, -⟩ := v244w_ok hc zx r2
    cases a2
    rfl
  | true =>
    obtain ⟨c, hcl, rfl⟩ := cB_iv zx
    obtain ⟨a1, c1, -⟩ := v113_ok hc (by omega) r1
    injection a1 with b1 b2
    injection b1 with b1
    injection b1 with b1
    injection b2 with b2 b3
    rw [← b2] at c1
    obtain ⟨a2, -, -⟩ := v244_ok c1 (by omega) r2
    injection a2 with d1 d2
    injection d1 with d1
    injection d1 with d1
    have e1 : (v113 q cc gc h c).1 = v8 q cc gc (Ar h 16) c - v7 q cc gc (Ar h 16) c := by
      unfold v113
      rw [decide_eq_true hcl]
      rfl
    have e2 : (v244 q cc gc h1 c).1 = v205 q cc gc (Ar h1 170) c - v204 q cc gc (Ar h1 170) c := by
      unfold v244
      rw [decide_eq_true hcl]
      rfl
    rw [b1, d1, e1, e2, e170, eq_8 hcl h6 s.2.1.1, eq_7 hcl h6 s.2.1.1]
/-- swaps -/
theorem v39_rg : 0 ≤ (v39 q cc gc h g c).1.toInt ∧ (v39 q cc gc h g c).1.toInt ≤ 999 := by
  rw [v39_val]
  exact clamp_i (by decide)
theorem le_ff {a : Int32} (z : pm_cmp .le a 0 = false) : 0 < a.toInt := by
  have z : ¬ a ≤ 0 := of_decide_eq_false z
  rw [Int32.le_iff_toInt_le, show (0 : Int32).toInt = 0 by decide] at z
  omega
theorem sw_pos {a b c d : Int32} (ha : 0 ≤ a.toInt ∧ a.toInt ≤ 999) (hb : 0 ≤ b.toInt ∧ b.toInt ≤ 999) (hc : 0 ≤ c.toInt ∧ c.toInt ≤ 999) (hd : 0 ≤ d.toInt ∧ d.toInt ≤ 999) (h1 : pm_cmp .le (a - b) 0 = false) (h2 : pm_cmp .le (c - d) 0 = false) : pm_cmp .le ((a - b) + (c - d)) 0 = false := by
  have e1 : (a - b).toInt = a.toInt - b.toInt := by
    rw [Int32.toInt_sub, Int.bmod_eq_of_le] <;> omega
  have e2 : (c - d).toInt = c.toInt - d.toInt := by
    rw [Int32.toInt_sub, Int.bmod_eq_of_le] <;> omega
  have p1 := le_ff h1
  have p2 := le_ff h2
  have e3 : ((a - b) + (c - d)).toInt = (a - b).toInt + (c - d).toInt := by
    rw [Int32.toInt_add, Int.bmod_eq_of_le] <;> omega
  refine decide_eq_false (fun z => ?_)
  rw [Int32.le_iff_toInt_le, show (0 : Int32).toInt = 0 by decide] at z
  omega
theorem v107_1 {m i : Nat} {x1 x2 : Int32} : (v107_29b q cc gc h m i x1 x2).1 = cond (pm_cmp .le (v146 q cc gc h m i).1 0) x1 (x1 + Int32.ofInt 1) := by
  unfold v107_29b
  generalize v146 q cc gc h m i = V
  cases pm_cmp .le V.1 x2 <;> rfl
theorem v146_1 {m i F K : Nat} (eF : (Ar h 17 m).toNatClampNeg = F) (eK : (Ar h 17 i).toNatClampNeg = K) : (v146 q cc gc h m i).1 = cond (decide (¬ F = K)) (cond (pm_cmp .le ((v39 q cc gc h i F).1 - (v39 q cc gc (v39 q cc gc h i F).2 m F).1) 0) (nI 0) (cond (pm_cmp .le ((v39 q cc gc (v39 q cc gc (v39 q cc gc h i F).2 m F).2 m K).1 - (v39 q cc gc (v39 q cc gc (v39 q cc gc (v39 q cc gc h i F).2 m F).2 m K).2 i K).1) 0) (nI 0) (((v39 q cc gc h i F).1 - (v39 q cc gc (v39 q cc gc h i F).2 m F).1) + ((v39 q cc gc (v39 q cc gc (v39 q cc gc h i F).2 m F).2 m K).1 - (v39 q cc gc (v39 q cc gc (v39 q cc gc (v39 q cc gc h i F).2 m F).2 m K).2 i K).1)))) (nI 0) := by
  unfold v146
  rw [eF, eK]
  cases decide (¬ F = K) with
  | true => rw [cond_true, p1s, cond_true]
  | false => rw [cond_false, p1s, cond_false]
theorem v236_1 {m i F K : Nat} {x1 x2 x3 x4 : Int32} (eF : (Ar h 170 (78 + m)).toNatClampNeg = F) (eK : (Ar h 170 (78 + i)).toNatClampNeg = K) : (v236_32b q cc gc h m i x1 x2 x3 x4).1 = cond (decide (F = K)) x1 (cond (pm_cmp .le ((v201 q cc gc h i F).1 - (v201 q cc gc (v201 q cc gc h i F).2 m F).1) 0) x1 (cond (pm_cmp .le ((v201 q cc gc (v201 q cc gc (v201 q cc gc h i F).2 m F).2 m K).1 - (v201 q cc gc (v201 q cc gc (v201 q cc gc (v201 q cc gc h i F).2 m F).2 m K).2 i K).1) 0) x1 (x1 + Int32.ofInt 1))) := by
  unfold v236_32b
  rw [eF, eK, p1s]
theorem sw_st {hx hm : pm_H} {m i : Nat} {x1 x2 y2 y3 y4 : Int32} (z : VE q cc gc hx hm) (hg : m < gc) (hi : i < gc) : (v107_29b q cc gc hx m i x1 x2).1 = (v236_32b q cc gc hm m i x1 y2 y3 y4).1 := by
  obtain ⟨F, hF, eF⟩ := z.2.2.2.2.2.2.2.1 m hg
  obtain ⟨K, hK, eK⟩ := z.2.2.2.2.2.2.2.1 i hi
  have h6 := z.1.1.cb
  have nF : (Ar hm 170 (78 + m)).toNatClampNeg = F := by
    rw [eF]
    exact nI_clamp (by omega)
  have nK : (Ar hm 170 (78 + i)).toNatClampNeg = K := by
    rw [eK]
    exact nI_clamp (by omega)
  have xF : (Ar hx 17 m).toNatClampNeg = F := by
    rw [z.2.2.2.1.2.2.2.1 m hg]
    exact nF
  have xK : (Ar hx 17 i).toNatClampNeg = K := by
    rw [z.2.2.2.1.2.2.2.1 i hi]
    exact nK
  have z1 := VE_201 (VE_39 z i F) i F
  have z2 := VE_201 (VE_39 z1 m F) m F
  have z3 := VE_201 (VE_39 z2 m K) m K
  have r1 := v39_rg (q := q) (cc := cc) (gc := gc) (h := hx) (g := i) (c := F)
  have r2 := v39_rg (q := q) (cc := cc) (gc := gc) (h := (v39 q cc gc hx i F).2) (g := m) (c := F)
  have r3 := v39_rg (q := q) (cc := cc) (gc := gc) (h := (v39 q cc gc (v39 q cc gc hx i F).2 m F).2) (g := m) (c := K)
  have r4 := v39_rg (q := q) (cc := cc) (gc := gc) (h := (v39 q cc gc (v39 q cc gc (v39 q cc gc hx i F).2 m F).2 m K).2) (g := i) (c := K)
  rw [v107_1, v146_1 xF xK, v236_1 nF nK, ← VE_val z hi hF, ← VE_val z1 hg hF, ← VE_val z2 hg hK, ← VE_val z3 hi hK]
  generalize (v39 q cc gc hx i F).1 = X1 at *
  generalize (v39 q cc gc (v39 q cc gc hx i F).2 m F).1 = X2 at *
  generalize (v39 q cc gc (v39 q cc gc (v39 q cc gc hx i F).2 m F).2 m K).1 = X3 at *
  generalize (v39 q cc gc (v39 q cc gc (v39 q cc gc (v39 q cc gc hx i F).2 m F).2 m K).2 i K).1 = X4 at *
  have n0 : pm_cmp .le (nI 0) 0 = true := by decide
  by_cases y : F = K
  · rw [decide_eq_false (fun w : ¬ F = K => w y), decide_eq_true y, cond_false, cond_true, n0, cond_true]
  · rw [decide_eq_true y, decide_eq_false y, cond_true, cond_false]
    cases y1 : pm_cmp .le (X1 - X2) 0 with
    | true => rw [cond_true, cond_true, n0, cond_true]
    | false =>
      rw [cond_false, cond_false]
      cases y2 : pm_cmp .le (X3 - X4) 0 with
      | true => rw [cond_true, cond_true, n0, cond_true]
      | false => rw [cond_false, cond_false, sw_pos r1 r2 r3 r4 y1 y2, cond_false]
theorem sw_in {hx hm : pm_H} {m : Nat} {x1 x2 y2 y3 y4 : Int32} (z : VE q cc gc hx hm) (hg : m < gc) (n i : Nat) (hn : i + n ≤ gc) : (v107_29 q cc gc m n i (x1, x2, hx)).1 = (v236_32 q cc gc m n i (x1, y2, y3, y4, hm)).1 ∧ VE q cc gc (v107_29 q cc gc m n i (x1, x2, hx)).2.2 (v236_32 q cc gc m n i (x1, y2, y3, y4, hm)).2.2.2.2 := by
  refine lp_rl (f := fun i a => v107_29b q cc gc a.2.2 m i a.1 a.2.1) (f' := fun i a => v236_32b q cc gc a.2.2.2.2 m i a.1 a.2.1 a.2.2.1 a.2.2.2.1) (P := fun _ (a : Int32 × Int32 × pm_H) (b : Int32 × Int32 × Int32 × Int32 × pm_H) => a.1 = b.1 ∧ VE q cc gc a.2.2 b.2.2.2.2) n i (x1, x2, hx) (x1, y2, y3, y4, hm) ⟨rfl, z⟩ (fun k a b _ hk p => ?_)
  obtain ⟨a1, a2, a3⟩ := a
  obtain ⟨b1, b2, b3, b4, b5⟩ := b
  obtain ⟨p1, p2⟩ := p
  dsimp only at p1 p2 ⊢
  subst p1
  obtain ⟨c1, f1⟩ := v107_29_fb (m3 := m) (i := k) (x1 := a1) (x2 := a2) p2.1.1
  obtain ⟨c2, f2⟩ := v236_32_fb (m5 := m) (i := k) (x1 := a1) (x2 := b2) (x3 := b3) (x4 := b4) p2.1.2
  exact ⟨sw_st p2 hg (by omega), VE_m (VE_x p2 c1 f1 rfl) c2 f2 rfl⟩
theorem sw_out {hx hm : pm_H} {x1 x2 y2 y3 y4 : Int32} (z : VE q cc gc hx hm) (n : Nat) (hn : n ≤ gc) : (v107_13 q cc gc n 0 (x1, x2, hx)).1 = (v236_17 q cc gc n 0 (x1, y2, y3, y4, hm)).1 := by
  have y := lp_rl (f := fun i a => v107_13b q cc gc a.2.2 i a.1 a.2.1) (f' := fun i a => v236_17b q cc gc a.2.2.2.2 i a.1 a.2.1 a.2.2.1 a.2.2.2.1) (P := fun _ (a : Int32 × Int32 × pm_H) (b : Int32 × Int32 × Int32 × Int32 × pm_H) => a.1 = b.1 ∧ VE q cc gc a.2.2 b.2.2.2.2) n 0 (x1, x2, hx) (x1, y2, y3, y4, hm) ⟨rfl, z⟩ (fun k a b _ hk p => by
    obtain ⟨a1, a2, a3⟩ := a
    obtain ⟨b1, b2, b3, b4, b5⟩ := b
    obtain ⟨p1, p2⟩ := p
    dsimp only at p1 p2 ⊢
    subst p1
    exact sw_in p2 (by omega) (gc - (k + 1)) (k + 1) (by omega))
  exact y.1
theorem eq_swaps (pr : prun sl 107 236 [] h h1 h2 v w) (hI : mInv h) (s : SR h) : v = w := by
  obtain ⟨⟨m1, r1⟩, ⟨f1, i1⟩, ⟨m2, r2⟩, -, -⟩ := pr
  obtain ⟨q, cc, gc, hc, s⟩ := s
  obtain ⟨a1, c1, g1⟩ := v107_ok hc (na_17 hI.1) r1
  injection a1 with b1 b2
  injection b1 with b1
  injection b1 with b1
  injection b2 with b2 b3
  rw [← b2] at c1 g1
  obtain ⟨a2, -, -⟩ := v236_ok c1 (na_170 i1.1) r2
  injection a2 with d1 d2
  injection d1 with d1
  injection d1 with d1
  have ve := VE_go hc s c1 g1 rfl
  obtain ⟨c3, f3⟩ := v53_fr hc
  have ve2 := VE_x ve c3 f3 rfl
  have e1 : (v107 q cc gc h).1 = (v107_13 q cc gc gc 0 ((nI 0), (nI 0), v53 q cc gc h)).1 := by
    unfold v107
    rw [p1s]
  have e2 : (v236 q cc gc h1).1 = (v236_17 q cc gc gc 0 ((nI 0), (nI 0), (nI 0), (nI 0), fset h1 162 0 (.int (nI 0)))).1 := by
    unfold v236
    generalize v236_17 q cc gc gc 0 ((nI 0), (nI 0), (nI 0), (nI 0), fset h1 162 0 (.int (nI 0))) = V
    cases pm_cmp .le V.1 0 <;> rfl
  rw [b1, d1, e1, e2]
  exact sw_out ve2 gc (Nat.le_refl _)
/-- fits: all clues of one gift -/
def allP (P : Nat → Bool) : Nat → Nat → Bool
  | 0, _ => true
  | j + 1, i => P i && allP P j (i + 1)
theorem fit_x {P : Nat → Bool} : ∀ (j i : Nat), (Sum.elim (fun _ => true) (fun r => r) (lpE (fun i (_ : Unit) => (cond (P i) (.inl ()) (.inr false) : Unit ⊕ Bool)) j i ())) = allP P j i
  | 0, _ => rfl
  | j + 1, i => by
    cases z : P i with
    | true =>
      rw [lpE_l (f := fun i (_ : Unit) => (cond (P i) (.inl ()) (.inr false) : Unit ⊕ Bool)) (b := ()) (by rw [z]; rfl), fit_x j (i + 1)]
      show allP P j (i + 1) = (P i && allP P j (i + 1))
      rw [z, Bool.true_and]
    | false =>
      rw [lpE_r (f := fun i (_ : Unit) => (cond (P i) (.inl ()) (.inr false) : Unit ⊕ Bool)) (r := false) (by rw [z]; rfl)]
      show false = (P i && allP P j (i + 1))
      rw [z, Bool.false_and]
theorem fit_m {P : Nat → Bool} : ∀ (j i : Nat) (b : Bool), lp (fun i x3 => (cond (cond (pm_cmp .eq x3 0) false (cond (P i) true false)) 1 0 : Int32)) j i (cond b 1 0) = cond (b && allP P j i) 1 0
  | 0, _, b => by
    show (cond b 1 0 : Int32) = cond (b && true) 1 0
    rw [Bool.and_true]
  | j + 1, i, b => by
    show lp (fun i x3 => (cond (cond (pm_cmp .eq x3 0) false (cond (P i) true false)) 1 0 : Int32)) j (i + 1) (cond (cond (pm_cmp .eq (cond b 1 0) 0) false (cond (P i) true false)) 1 0) = cond (b && (P i && allP P j (i + 1))) 1 0
    have e : (cond (pm_cmp .eq (cond b 1 0 : Int32) 0) false (cond (P i) true false)) = (b && P i) := by
      cases b <;> cases P i <;> decide
    rw [e, fit_m j (i + 1) (b && P i), Bool.and_assoc]
theorem allP_cg {P Q : Nat → Bool} : ∀ (j i : Nat), (∀ k, i ≤ k → k < i + j → P k = Q k) → allP P j i = allP Q j i
  | 0, _, _ => rfl
  | j + 1, i, e => by
    show (P i && allP P j (i + 1)) = (Q i && allP Q j (i + 1))
    rw [e i (Nat.le_refl _) (by omega), allP_cg j (i + 1) (fun k h1 h2 => e k (by omega) (by omega))]
theorem v2_3 {a b : Int32} (h0 : pm_cmp .eq a (nI 0) = false) (h1 : pm_cmp .eq a (nI 1) = false) (h2 : pm_cmp .eq a (nI 2) = false) (z : v2 (0, 0, 0) 0 0 a b = true) : b = 0 ∨ b = nI 1 := by
  unfold v2 at z
  rw [h0, h1, h2, cond_false, cond_false, cond_false] at z
  cases h3 : pm_cmp .eq a (nI 3) with
  | false =>
    rw [h3, cond_false] at z
    cases z
  | true =>
    rw [h3, cond_true] at z
    cases h4 : pm_cmp .eq b 0 with
    | true => exact Or.inl (of_decide_eq_true h4)
    | false =>
      rw [h4, cond_false] at z
      cases h5 : pm_cmp .ne b (nI 1) with
      | true =>
        rw [h5] at z
        cases z
      | false => exact Or.inr (Decidable.not_not.mp (of_decide_eq_false h5))
theorem bt_75i {ha : Nat → Int32} {k : Nat} {b : Int32} : v75i q cc gc ha k b = v164 q cc gc (ha k) b := by
  unfold v75i v164
  rcases and1 (shr (ha k) b) with z | z <;> (rw [z]; decide)
theorem eq_5 {hx : pm_H} {a b : Int32} (rs : RS cc gc (Ar hx 14) (Ar hx 15) (Ar hx 16) (Ar hx 17) (Ar hx 18) (Fi hx 13 5) (Fi hx 13 6) (Ar hx 170)) (rm : RMm cc gc hx hx) (hg : g < gc) (z : v2 (0, 0, 0) 0 0 a b = true) : v5 q cc gc (Ar hx 9) (Ar hx 10) (Ar hx 18) (Fi hx 13 5) g a b = v253 q cc gc (Ar hx 166) (Ar hx 167) (Ar hx 170) g a b := by
  unfold v5 v253
  rw [(rm.2 g hg).1.1, (rm.2 g hg).2.1, eq_74 rs g, bt_75i, rs.2.2.2.2.1 g hg]
  cases h0 : pm_cmp .eq a (nI 0) with
  | true => rw [cond_true, cond_true]
  | false =>
    rw [cond_false, cond_false]
    cases h1 : pm_cmp .eq a (nI 1) with
    | true => rw [cond_true, cond_true]
    | false =>
      rw [cond_false, cond_false]
      cases h2 : pm_cmp .eq a (nI 2) with
      | true => rw [cond_true, cond_true]
      | false =>
        rw [cond_false, cond_false]
        rcases v2_3 h0 h1 h2 z with rfl | rfl
        · cases v173 q cc gc (Ar hx 170) g <;> decide
        · cases v173 q cc gc (Ar hx 170) g <;> decide
theorem eq_4 {hx : pm_H} {m : Nat} (rs : RS cc gc (Ar hx 14) (Ar hx 15) (Ar hx 16) (Ar hx 17) (Ar hx 18) (Fi hx 13 5) (Fi hx 13 6) (Ar hx 170)) (rm : RMm cc gc hx hx) (hg : g < gc) (cl : ∀ j, j < m → Ar hx 160 j = Ar hx 191 j ∧ Ar hx 161 j = Ar hx 192 j ∧ v2 (0, 0, 0) 0 0 (Ar hx 160 j) (Ar hx 161 j) = true) {t : Int32} : cond (v4 q cc gc (Ar hx 9) (Ar hx 10) (Ar hx 18) (Ar hx 160) (Ar hx 161) (Fi hx 13 5) m g) 1 0 = v254_17 q cc gc (Ar hx 166) (Ar hx 167) (Ar hx 170) (Ar hx 191) (Ar hx 192) m t g m 0 (nI 1) := by
  have e1 : v4 q cc gc (Ar hx 9) (Ar hx 10) (Ar hx 18) (Ar hx 160) (Ar hx 161) (Fi hx 13 5) m g = allP (fun i => v5 q cc gc (Ar hx 9) (Ar hx 10) (Ar hx 18) (Fi hx 13 5) g (Ar hx 160 i) (Ar hx 161 i)) m 0 := fit_x (P := fun i => v5 q cc gc (Ar hx 9) (Ar hx 10) (Ar hx 18) (Fi hx 13 5) g (Ar hx 160 i) (Ar hx 161 i)) m 0
  have e2 : v254_17 q cc gc (Ar hx 166) (Ar hx 167) (Ar hx 170) (Ar hx 191) (Ar hx 192) m t g m 0 (nI 1) = cond (true && allP (fun i => v253 q cc gc (Ar hx 166) (Ar hx 167) (Ar hx 170) g (Ar hx 191 i) (Ar hx 192 i)) m 0) 1 0 := fit_m (P := fun i => v253 q cc gc (Ar hx 166) (Ar hx 167) (Ar hx 170) g (Ar hx 191 i) (Ar hx 192 i)) m 0 true
  rw [e1, e2, Bool.true_and, allP_cg (Q := fun i => v253 q cc gc (Ar hx 166) (Ar hx 167) (Ar hx 170) g (Ar hx 191 i) (Ar hx 192 i)) m 0 (fun k _ hk => by
    obtain ⟨c1, c2, c3⟩ := cl k (by omega)
    rw [eq_5 rs rm hg c3, c1, c2])]
theorem eq_3 {hx : pm_H} {m : Nat} (rs : RS cc gc (Ar hx 14) (Ar hx 15) (Ar hx 16) (Ar hx 17) (Ar hx 18) (Fi hx 13 5) (Fi hx 13 6) (Ar hx 170)) (rm : RMm cc gc hx hx) (cl : ∀ j, j < m → Ar hx 160 j = Ar hx 191 j ∧ Ar hx 161 j = Ar hx 192 j ∧ v2 (0, 0, 0) 0 0 (Ar hx 160 j) (Ar hx 161 j) = true) : v3 q cc gc (Ar hx 9) (Ar hx 10) (Ar hx 18) (Ar hx 160) (Ar hx 161) (Fi hx 13 5) m = v254 q cc gc (Ar hx 166) (Ar hx 167) (Ar hx 170) (Ar hx 191) (Ar hx 192) m := by
  unfold v3 v254 v3_4 v254_4
  refine lp_cg _ _ _ (fun k b _ hk => ?_)
  unfold v3_4b v254_4b
  rw [← eq_4 rs rm (g := k) (by omega) cl]
  cases v4 q cc gc (Ar hx 9) (Ar hx 10) (Ar hx 18) (Ar hx 160) (Ar hx 161) (Fi hx 13 5) m k with
  | true =>
    rw [cond_true, cond_true, show pm_cmp .eq (1 : Int32) 0 = false by decide, cond_false]
  | false =>
    rw [cond_false, cond_false, show pm_cmp .eq (0 : Int32) 0 = true by decide, cond_true, or_0]
theorem eq_fits (pr : prun sl 120 255 [] h h1 h2 v w) (s : SR h) : v = w := by
  obtain ⟨⟨m1, r1⟩, ⟨f1, i1⟩, ⟨m2, r2⟩, -, -⟩ := pr
  obtain ⟨q, cc, gc, hc, s⟩ := s
  obtain ⟨m, hm, ⟨z1, z2⟩, z3⟩ := id s.2.2.2.2.2
  obtain ⟨a1, c1, -⟩ := v120_ok hc hm z1 r1
  injection a1 with b1 b2
  injection b1 with b1
  injection b1 with b1
  injection b2 with b2 b3
  rw [← b2] at c1
  obtain ⟨a2, -, -⟩ := v255_ok c1 hm ((Fi_e (f1.1 162 rfl)).trans z2) r2
  injection a2 with d1 d2
  injection d1 with d1
  injection d1 with d1
  have e1 : (v120 q cc gc h m).1 = v3 q cc gc (Ar h 9) (Ar h 10) (Ar h 18) (Ar h 160) (Ar h 161) (Fi h 13 5) m := by
    unfold v120
    rw [p1s]
  have e2 : (v255 q cc gc h1 m).1 = v254 q cc gc (Ar h1 166) (Ar h1 167) (Ar h1 170) (Ar h1 191) (Ar h1 192) m := by
    unfold v255
    rw [p1s]
  have k166 : Ar h1 166 = Ar h 166 := Ar_e (f1.1 166 rfl)
  have k167 : Ar h1 167 = Ar h 167 := Ar_e (f1.1 167 rfl)
  have k170 : Ar h1 170 = Ar h 170 := Ar_e (f1.1 170 rfl)
  have k191 : Ar h1 191 = Ar h 191 := Ar_e (f1.1 191 rfl)
  have k192 : Ar h1 192 = Ar h 192 := Ar_e (f1.1 192 rfl)
  rw [b1, d1, e1, e2, k166, k167, k170, k191, k192]
  exact eq_3 s.2.1.1 s.2.2.1 z3
theorem eq8_net (pr : prun sl 113 244 [x] h h1 h2 v w) (hI : LI8 h) : v = w := eq_net pr hI.2.2
theorem eq8_swaps (pr : prun sl 107 236 [] h h1 h2 v w) (hI : LI8 h) : v = w := eq_swaps pr hI.1 hI.2.2
theorem eq8_fits (pr : prun sl 120 255 [] h h1 h2 v w) (hI : LI8 h) : v = w := eq_fits pr hI.2.2
end QE8
