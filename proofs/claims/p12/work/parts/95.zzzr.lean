/-! league: both sides answer alike -/
section QL8
variable {sl cc gc g c : Nat} {q : QT} {h h1 h2 : pm_H} {v w x y : Int32} {e r G D hd ha : Nat → Int32} {dx mx : Int32}
theorem fit_e {P : Nat → Bool} : ∀ (j i : Nat) (b : Bool), Sum.elim (fun (a : Int32) => a) (fun (a : Int32) => a) (lpE (fun i (x3 : Int32) => (cond (pm_cmp .eq x3 0) (.inr x3) (.inl (cond (P i) 1 0)) : Int32 ⊕ Int32)) j i (cond b 1 0)) = cond (b && allP P j i) 1 0
  | 0, _, b => by
    show (cond b 1 0 : Int32) = cond (b && true) 1 0
    rw [Bool.and_true]
  | j + 1, i, true => by
    rw [lpE_l (f := fun i (x3 : Int32) => (cond (pm_cmp .eq x3 0) (.inr x3) (.inl (cond (P i) 1 0)) : Int32 ⊕ Int32)) (b := cond (P i) 1 0) (by rw [show pm_cmp .eq (cond true 1 0 : Int32) 0 = false by decide]; rfl), fit_e j (i + 1) (P i)]
    show _ = cond (true && (P i && allP P j (i + 1))) 1 0
    rw [Bool.true_and]
  | j + 1, i, false => by
    rw [lpE_r (f := fun i (x3 : Int32) => (cond (pm_cmp .eq x3 0) (.inr x3) (.inl (cond (P i) 1 0)) : Int32 ⊕ Int32)) (r := cond false 1 0) (by rw [show pm_cmp .eq (cond false 1 0 : Int32) 0 = true by decide]; rfl)]
    rfl
theorem lgu_sh : ∀ j, j < 6 → shl (nI 1) (nI j) = nI (2 ^ j) := by decide +kernel
/-- all in a bunch think well of each other -/
def lgP (q : QT) (cc gc : Nat) (r : Nat → Int32) (m j : Nat) : Bool := cond (v164 q cc gc (nI m) (nI j)) (cond (pm_cmp .ne (((nI m) &&& ((nI (2 ^ j)) ^^^ (Int32.ofInt (-1)))) &&& ((v202 q cc gc r j) ^^^ (Int32.ofInt (-1)))) 0) false true) true
theorem lgu_x (s : RS cc gc G e D hd ha dx mx r) (h6 : cc ≤ 6) {m : Nat} : v148 q cc gc e (nI m) = allP (lgP q cc gc r m) cc 0 := by
  have e1 : v148 q cc gc e (nI m) = Sum.elim (fun _ => true) (fun r => r) (lpE (fun i (_ : Unit) => (cond (cond (pm_cmp .eq ((shr (nI m) (nI i)) &&& (nI 1)) 0) true (pm_cmp .eq (((nI m) &&& ((shl (nI 1) (nI i)) ^^^ (Int32.ofInt (-1)))) &&& ((v31 q cc gc e i) ^^^ (Int32.ofInt (-1)))) 0)) (.inl ()) (.inr false) : Unit ⊕ Bool)) cc 0 ()) := by
    have ef : (fun i (_ : Unit) => v148_2b q cc gc e (nI m) i) = (fun i (_ : Unit) => (cond (cond (pm_cmp .eq ((shr (nI m) (nI i)) &&& (nI 1)) 0) true (pm_cmp .eq (((nI m) &&& ((shl (nI 1) (nI i)) ^^^ (Int32.ofInt (-1)))) &&& ((v31 q cc gc e i) ^^^ (Int32.ofInt (-1)))) 0)) (.inl ()) (.inr false) : Unit ⊕ Bool)) := by
      funext i u
      unfold v148_2b
      cases pm_cmp .eq ((shr (nI m) (nI i)) &&& (nI 1)) 0 with
      | true => rw [cond_true, cond_true, cond_true]
      | false => rw [cond_false, cond_false]
    unfold v148 v148_2
    rw [ef]
  rw [e1, fit_x]
  refine allP_cg cc 0 (fun k _ hk => ?_)
  unfold lgP v164
  rw [lgu_sh k (by omega), eq_31 (by omega) s]
  rcases and1 (shr (nI m) (nI k)) with z | z
  · rw [z]
    rfl
  · rw [z, show pm_cmp .eq (nI 1) 0 = false by decide, show pm_cmp .ne (nI 1) (nI 1) = false by decide, cond_false, cond_false, cond_true]
    show decide (_ = (0 : Int32)) = cond (decide (_ ≠ (0 : Int32))) false true
    by_cases y : ((nI m) &&& ((nI (2 ^ k)) ^^^ (Int32.ofInt (-1)))) &&& ((v202 q cc gc r k) ^^^ (Int32.ofInt (-1))) = 0
    · rw [decide_eq_true y, decide_eq_false (fun w => w y), cond_false]
    · rw [decide_eq_false y, decide_eq_true y, cond_true]
theorem lgu_m {m : Nat} {t : Int32} {b : Bool} : Sum.elim (fun a8 => cond (pm_cmp .eq a8 0) t (nI m)) (fun r9 => cond (pm_cmp .eq r9 0) t (nI m)) (v250_39 q cc gc r t m cc 0 (cond b 1 0)) = cond (b && allP (lgP q cc gc r m) cc 0) (nI m) t := by
  have z := fit_e (P := lgP q cc gc r m) cc 0 b
  have z : Sum.elim (fun (a : Int32) => a) (fun (a : Int32) => a) (v250_39 q cc gc r t m cc 0 (cond b 1 0)) = cond (b && allP (lgP q cc gc r m) cc 0) 1 0 := z
  generalize v250_39 q cc gc r t m cc 0 (cond b 1 0) = X at *
  have fin : ∀ a : Int32, a = cond (b && allP (lgP q cc gc r m) cc 0) 1 0 → cond (pm_cmp .eq a 0) t (nI m) = cond (b && allP (lgP q cc gc r m) cc 0) (nI m) t := by
    intro a ea
    rw [ea]
    cases b && allP (lgP q cc gc r m) cc 0 with
    | true => rw [cond_true, cond_true, show pm_cmp .eq (1 : Int32) 0 = false by decide, cond_false]
    | false => rw [cond_false, cond_false, show pm_cmp .eq (0 : Int32) 0 = true by decide, cond_true]
  cases X with
  | inl a => exact fin a z
  | inr a => exact fin a z
theorem lgu_st (s : RS cc gc G e D hd ha dx mx r) (h6 : cc ≤ 6) {m : Nat} {t : Int32} : v117_4b q cc gc e m t = v250_9b q cc gc r m t := by
  unfold v117_4b v250_9b
  rw [lgu_m, lgu_x s h6]
  cases pm_cmp .le (v270 q cc gc (nI m)) (v270 q cc gc t) with
  | true => rw [cond_true, cond_true, Bool.false_and, cond_false]
  | false => rw [cond_false, cond_false, Bool.true_and]
theorem lgu_le {a : Int32} : pm_cmp .le a a = true := by
  simp only [pm_cmp]
  exact decide_eq_true (Int32.le_refl _)
theorem eq_lg (s : RS cc gc G e D hd ha dx mx r) (h6 : cc ≤ 6) : v117_4 q cc gc e (2 ^ cc - 1) 1 (nI 0) = v250_9 q cc gc r (2 ^ cc) 0 (nI 0) := by
  have p : 0 < 2 ^ cc := Nat.two_pow_pos cc
  obtain ⟨n, hn⟩ : ∃ n, 2 ^ cc = n + 1 := ⟨2 ^ cc - 1, by omega⟩
  rw [hn, show n + 1 - 1 = n by omega]
  have e1 : v250_9 q cc gc r (n + 1) 0 (nI 0) = v250_9 q cc gc r n 1 (v250_9b q cc gc r 0 (nI 0)) := by
    unfold v250_9
    exact lp_s
  have e2 : v250_9b q cc gc r 0 (nI 0) = nI 0 := by
    rw [← lgu_st s h6]
    unfold v117_4b
    rw [lgu_le (a := v270 q cc gc (nI 0)), cond_true]
  rw [e1, e2]
  unfold v117_4 v250_9
  exact lp_cg _ _ _ (fun k b _ _ => lgu_st s h6)
theorem eq_league (pr : prun sl 117 250 [] h h1 h2 v w) (s : SR h) : v = w := by
  obtain ⟨⟨m1, r1⟩, ⟨f1, i1⟩, ⟨m2, r2⟩, -, -⟩ := pr
  obtain ⟨q, cc, gc, hc, s⟩ := s
  have h6 := hc.cb
  obtain ⟨a1, c1, -⟩ := v117_ok hc r1
  injection a1 with b1 b2
  injection b1 with b1
  injection b1 with b1
  injection b2 with b2 b3
  rw [← b2] at c1
  obtain ⟨a2, -, -⟩ := v250_ok c1 r2
  injection a2 with d1 d2
  injection d1 with d1
  injection d1 with d1
  have k170 : Ar h1 170 = Ar h 170 := Ar_e (f1.1 170 rfl)
  rw [b1, d1]
  unfold v117 v250
  rw [p1s, p1s, k170, eq_lg s.2.1.1 h6]
theorem eq8_league (pr : prun sl 117 250 [] h h1 h2 v w) (hI : LI8 h) : v = w := eq_league pr hI.2.2
end QL8
