/-! unseen: both sides answer alike -/
section QU8
variable {sl cc gc g c : Nat} {q : QT} {h h1 h2 : pm_H} {v w x y : Int32} {e r G D hd ha : Nat → Int32} {dx mx : Int32}
theorem bt_b {k : Nat} (hk : k < 8) : v164 q cc gc x (nI k) = bit x k := (bt_eq x k).trans (bit_74 hk)
theorem allP_iff {P : Nat → Bool} : ∀ (j i : Nat), (∀ k, i ≤ k → k < i + j → P k = true) → allP P j i = true
  | 0, _, _ => rfl
  | j + 1, i, z => by
    show (P i && allP P j (i + 1)) = true
    rw [z i (Nat.le_refl _) (by omega), allP_iff j (i + 1) (fun k h1 h2 => z k (by omega) (by omega))]
    rfl
theorem allP_at {P : Nat → Bool} : ∀ (j i : Nat), allP P j i = true → ∀ k, i ≤ k → k < i + j → P k = true
  | 0, _, _, k, h1, h2 => by omega
  | j + 1, i, z, k, h1, h2 => by
    have z : (P i && allP P j (i + 1)) = true := z
    rw [Bool.and_eq_true] at z
    by_cases y : k = i
    · rw [y]
      exact z.1
    · exact allP_at j (i + 1) z.2 k (by omega) (by omega)
theorem fit_m2 {P : Nat → Bool} : ∀ (j i : Nat) (b : Bool), lp (fun i x3 => (cond (cond (pm_cmp .eq x3 0) false (P i)) 1 0 : Int32)) j i (cond b 1 0) = cond (b && allP P j i) 1 0
  | 0, _, b => by
    show (cond b 1 0 : Int32) = cond (b && true) 1 0
    rw [Bool.and_true]
  | j + 1, i, b => by
    show lp (fun i x3 => (cond (cond (pm_cmp .eq x3 0) false (P i)) 1 0 : Int32)) j (i + 1) (cond (cond (pm_cmp .eq (cond b 1 0) 0) false (P i)) 1 0) = cond (b && (P i && allP P j (i + 1))) 1 0
    have e : (cond (pm_cmp .eq (cond b 1 0 : Int32) 0) false (P i)) = (b && P i) := by
      cases b <;> cases P i <;> decide
    rw [e, fit_m2 j (i + 1) (b && P i), Bool.and_assoc]
theorem fr_bit (h6 : cc ≤ 6) : ∀ k, k < 32 → bit (v202 q cc gc r c) k = (decide (k < cc) && v175 q cc gc r c k) := by
  have y := lp_in (f := fun i a => v202_4b q cc gc r c i a) (P := fun n (x : Int32) => ∀ k, k < 32 → bit x k = (decide (k < n) && v175 q cc gc r c k)) cc 0 (nI 0) (fun k _ => by
    rw [bit_0, decide_eq_false (Nat.not_lt_zero k)]
    rfl) (fun i x _ hi p k hk => by
    have p := p k hk
    unfold v202_4b
    rw [bit_or, p]
    by_cases z : k = i
    · subst z
      rw [decide_eq_false (Nat.lt_irrefl k), decide_eq_true (Nat.lt_succ_self k)]
      cases v175 q cc gc r c k with
      | true =>
        rw [cond_true, bit_shl (by omega) hk, decide_eq_true rfl]
        rfl
      | false =>
        rw [cond_false, bit_0]
        rfl
    · have e1 : bit (cond (v175 q cc gc r c i) (shl (nI 1) (nI i)) (nI 0)) k = false := by
        cases v175 q cc gc r c i with
        | true => rw [cond_true, bit_shl (by omega) hk, decide_eq_false z]
        | false => rw [cond_false, bit_0]
      rw [e1, Bool.or_false, show decide (k < i + 1) = decide (k < i) from decide_eq_decide.mpr ⟨fun a => by omega, fun a => by omega⟩])
  intro k hk
  have y := y k hk
  rw [Nat.zero_add] at y
  exact y
/-- whom a COURT tells: nobody who knows the GIFT but its HOLDER -/
theorem un_eq {F i : Nat} {B : Int32} (h6 : cc ≤ 6) (hF : F < cc) : pm_cmp .eq ((v202 q cc gc r i) &&& (B &&& ((shl (nI 1) (nI F)) ^^^ (Int32.ofInt (-1))))) 0 = allP (fun j => cond (v164 q cc gc B (nI j)) (cond (pm_cmp .eq (nI j) (nI F)) true (cond (v175 q cc gc r i j) false true)) true) cc 0 := by
  have X : ∀ k, k < 32 → bit ((v202 q cc gc r i) &&& (B &&& ((shl (nI 1) (nI F)) ^^^ (Int32.ofInt (-1))))) k = ((decide (k < cc) && v175 q cc gc r i k) && (bit B k && !(decide (k = F)))) := fun k hk => by
    rw [bit_and, bit_and, bit_not hk, fr_bit h6 k hk, bit_shl (by omega) hk]
  cases z : allP (fun j => cond (v164 q cc gc B (nI j)) (cond (pm_cmp .eq (nI j) (nI F)) true (cond (v175 q cc gc r i j) false true)) true) cc 0 with
  | true =>
    refine decide_eq_true (bit_ext (fun k hk => ?_))
    rw [X k hk, show bit (0 : Int32) k = false from bit_0]
    by_cases y : k < cc
    · have p := allP_at cc 0 z k (Nat.zero_le _) (by omega)
      rw [bt_b (by omega), show pm_cmp .eq (nI k) (nI F) = decide (k = F) from hI_eq (by omega) (by omega)] at p
      cases e1 : bit B k with
      | false => rw [Bool.false_and, Bool.and_false]
      | true =>
        rw [e1, cond_true] at p
        cases e2 : decide (k = F) with
        | true => rw [Bool.not_true, Bool.and_false, Bool.and_false]
        | false =>
          rw [e2, cond_false] at p
          cases e3 : v175 q cc gc r i k with
          | true =>
            rw [e3] at p
            cases p
          | false => rw [Bool.and_false, Bool.false_and]
    · rw [decide_eq_false y, Bool.false_and, Bool.false_and]
  | false =>
    refine decide_eq_false (fun e => ?_)
    have a := allP_iff (P := fun j => cond (v164 q cc gc B (nI j)) (cond (pm_cmp .eq (nI j) (nI F)) true (cond (v175 q cc gc r i j) false true)) true) cc 0 (fun k _ hk => by
      have p := X k (by omega)
      rw [e, show bit (0 : Int32) k = false from bit_0, decide_eq_true (show k < cc by omega), Bool.true_and] at p
      rw [bt_b (by omega), show pm_cmp .eq (nI k) (nI F) = decide (k = F) from hI_eq (by omega) (by omega)]
      cases e1 : bit B k with
      | false => rw [cond_false]
      | true =>
        rw [cond_true]
        cases e2 : decide (k = F) with
        | true => rw [cond_true]
        | false =>
          rw [cond_false]
          rw [e1, e2] at p
          cases e3 : v175 q cc gc r i k with
          | true =>
            rw [e3] at p
            cases p
          | false => rw [cond_false])
    rw [a] at z
    cases z
theorem eq_uns (s : RS cc gc G e D hd ha dx mx r) (ri : RI cc gc r) (h6 : cc ≤ 6) (hg : g < gc) : v106_42 q cc gc e ha g ((ha g) &&& ((shl (nI 1) (hd g)) ^^^ (Int32.ofInt (-1)))) cc 0 (nI 0) = v235_19 q cc gc r g cc 0 (nI 0) := by
  obtain ⟨F, hF, eF⟩ := ri.2.2.2.1 g hg
  unfold v106_42 v235_19
  refine lp_cg _ _ _ (fun k b _ hk => ?_)
  unfold v106_42b v235_19b
  have fl : v235_53 q cc gc r g b k cc 0 (cond (cond (v164 q cc gc (r (86 + g)) (nI k)) false true) 1 0) = cond (cond (v164 q cc gc (r (86 + g)) (nI k)) false true && allP (fun j => cond (v164 q cc gc (r (86 + g)) (nI j)) (cond (pm_cmp .eq (nI j) (r (78 + g))) true (cond (v175 q cc gc r k j) false true)) true) cc 0) 1 0 := fit_m2 (P := fun j => cond (v164 q cc gc (r (86 + g)) (nI j)) (cond (pm_cmp .eq (nI j) (r (78 + g))) true (cond (v175 q cc gc r k j) false true)) true) cc 0 (cond (v164 q cc gc (r (86 + g)) (nI k)) false true)
  rw [fl, eq_75 s hg k, eq_31 (by omega) s, s.2.2.2.2.1 g hg, s.2.2.2.1 g hg, eF, un_eq h6 hF]
  cases v164 q cc gc (r (86 + g)) (nI k) with
  | true =>
    rw [cond_true, cond_true, Bool.false_and, cond_false, show pm_cmp .eq (0 : Int32) 0 = true by decide, cond_true, or_0]
  | false =>
    rw [cond_false, cond_false, Bool.true_and]
    cases allP (fun j => cond (v164 q cc gc (r (86 + g)) (nI j)) (cond (pm_cmp .eq (nI j) (nI F)) true (cond (v175 q cc gc r k j) false true)) true) cc 0 with
    | true => rw [cond_true, cond_false, cond_true, show pm_cmp .eq (1 : Int32) 0 = false by decide, cond_false]
    | false => rw [cond_false, cond_true, cond_false, show pm_cmp .eq (0 : Int32) 0 = true by decide, cond_true, or_0]
theorem eq_unseen (pr : prun sl 106 235 [x] h h1 h2 v w) (s : SR h) : v = w := by
  obtain ⟨⟨m1, r1⟩, ⟨f1, i1⟩, ⟨m2, r2⟩, -, -⟩ := pr
  obtain ⟨q, cc, gc, hc, s⟩ := s
  have h6 := hc.cb
  have h8 := hc.gb
  have e170 : Ar h1 170 = Ar h 170 := Ar_e (f1.1 170 rfl)
  cases zx : cB gc x with
  | false =>
    have a1 := v106w_ok hc zx r1
    cases a1
    obtain ⟨a2, -, -⟩ := v235w_ok hc zx r2
    cases a2
    rfl
  | true =>
    obtain ⟨g, hg, rfl⟩ := cB_iv zx
    obtain ⟨a1, c1, -⟩ := v106_ok hc (by omega) r1
    injection a1 with b1 b2
    injection b1 with b1
    injection b1 with b1
    injection b2 with b2 b3
    rw [← b2] at c1
    obtain ⟨a2, -, -⟩ := v235_ok c1 (by omega) r2
    injection a2 with d1 d2
    injection d1 with d1
    injection d1 with d1
    have e1 : (v106 q cc gc h g).1 = v106_42 q cc gc (Ar h 15) (Ar h 18) g (((Ar h 18) g) &&& ((shl (nI 1) ((Ar h 17) g)) ^^^ (Int32.ofInt (-1)))) cc 0 (nI 0) := by
      unfold v106
      rw [decide_eq_true hg, cond_true, p1s]
    have e2 : (v235 q cc gc h1 g).1 = v235_19 q cc gc (Ar h1 170) g cc 0 (nI 0) := by
      unfold v235
      rw [decide_eq_true hg, cond_true, p1s]
    rw [b1, d1, e1, e2, e170, eq_uns s.2.1.1 s.2.1.2 h6 hg]
theorem eq8_unseen (pr : prun sl 106 235 [x] h h1 h2 v w) (hI : LI8 h) : v = w := eq_unseen pr hI.2.2
end QU8
