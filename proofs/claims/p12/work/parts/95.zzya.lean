/-! what both sides tell of like states: functions alone -/
section PUR
variable {cc gc : Nat} {q : QT} {g e d hd ha r : Nat → Int32} {x m : Int32}
theorem lp_cg {α : Type} {f f' : Nat → α → α} : ∀ (j i : Nat) (a : α), (∀ k b, i ≤ k → k < i + j → f k b = f' k b) → lp f j i a = lp f' j i a
  | 0, _, _, _ => rfl
  | j + 1, i, a, h => by
    show lp f j (i + 1) (f i a) = lp f' j (i + 1) (f' i a)
    rw [h i a (Nat.le_refl _) (by omega)]
    exact lp_cg j (i + 1) _ (fun k b h1 h2 => h k b (by omega) (by omega))
theorem lp_rl {α β : Type} {f : Nat → α → α} {f' : Nat → β → β} {P : Nat → α → β → Prop} : ∀ (j i : Nat) (a : α) (b : β), P i a b → (∀ k a b, i ≤ k → k < i + j → P k a b → P (k + 1) (f k a) (f' k b)) → P (i + j) (lp f j i a) (lp f' j i b)
  | 0, _, _, _, h, _ => h
  | j + 1, i, a, b, h, s => by
    have q := lp_rl j (i + 1) (f i a) (f' i b) (s i a b (Nat.le_refl _) (by omega) h) (fun k a b h1 h2 => s k a b (by omega) (by omega))
    rw [show i + 1 + j = i + (j + 1) by omega] at q
    exact q
theorem lp_in {α : Type} {f : Nat → α → α} {P : Nat → α → Prop} : ∀ (j i : Nat) (a : α), P i a → (∀ k a, i ≤ k → k < i + j → P k a → P (k + 1) (f k a)) → P (i + j) (lp f j i a)
  | 0, _, _, h, _ => h
  | j + 1, i, a, h, s => by
    have q := lp_in j (i + 1) (f i a) (s i a (Nat.le_refl _) (by omega) h) (fun k a h1 h2 => s k a (by omega) (by omega))
    rw [show i + 1 + j = i + (j + 1) by omega] at q
    exact q
theorem and1 (x : Int32) : x &&& nI 1 = 0 ∨ x &&& nI 1 = nI 1 := by
  have e : (x &&& nI 1).toBitVec = BitVec.setWidth 32 (BitVec.ofBool (x.toBitVec.getLsbD 0)) := BitVec.and_one_eq_setWidth_ofBool_getLsbD
  cases z : x.toBitVec.getLsbD 0 with
  | false => rw [z] at e; exact Or.inl (Int32.toBitVec_inj.mp e)
  | true => rw [z] at e; exact Or.inr (Int32.toBitVec_inj.mp e)
theorem bt_eq (x : Int32) (k : Nat) : v164 q cc gc x (nI k) = v74 q cc gc x k := by
  unfold v164 v74
  rcases and1 (shr x (nI k)) with z | z <;> (rw [z]; decide)
theorem bt_75 (k : Nat) (c : Nat) : v75 q cc gc ha k c = v164 q cc gc (ha k) (nI c) := by
  unfold v75 v164
  rcases and1 (shr (ha k) (nI c)) with z | z <;> (rw [z]; decide)
/-- a state of the class tells what a row of the reference tells -/
def RS (cc gc : Nat) (g e d hd ha : Nat → Int32) (x m : Int32) (r : Nat → Int32) : Prop :=
  (∀ c, c < 6 → g c = r c) ∧ (∀ a b, a < cc → b < cc → a ≠ b → e (a * 6 + b) = r (6 + 6 * a + b)) ∧ (∀ a b, a < 6 → b < 6 → d (a * 6 + b) = r (42 + 6 * a + b)) ∧ (∀ j, j < gc → hd j = r (78 + j)) ∧ (∀ j, j < gc → ha j = r (86 + j)) ∧ x = r 94 ∧ m = r 95
theorem or_0 (x : Int32) : x ||| nI 0 = x := Int32.or_zero
theorem add_0 (x : Int32) : x + nI 0 = x := Int32.add_zero x
theorem eq_29 (s : RS cc gc g e d hd ha x m r) (c : Nat) : v29 q cc gc hd c = v174 q cc gc r c := by
  unfold v29 v174 v29_5 v174_5
  refine lp_cg _ _ _ (fun k b _ hk => ?_)
  unfold v29_5b v174_5b
  rw [s.2.2.2.1 k (by omega)]
  cases pm_cmp .ne (r (78 + k)) (nI c) with
  | true => exact (or_0 b).symm
  | false => rfl
theorem eq_36 (hc : cc ≤ 6) (s : RS cc gc g e d hd ha x m r) : v36 q cc gc g = v177 q cc gc r := by
  unfold v36 v177 v36_4 v177_4
  refine lp_cg _ _ _ (fun k b _ hk => ?_)
  unfold v36_4b v177_4b
  rw [s.1 k (by omega)]
theorem eq_31 {c : Nat} (hc : c < cc) (s : RS cc gc g e d hd ha x m r) : v31 q cc gc e c = v202 q cc gc r c := by
  unfold v31 v202 v31_5 v202_4
  refine lp_cg _ _ _ (fun k b _ hk => ?_)
  unfold v31_5b v202_4b v175
  by_cases z : k = c
  · rw [decide_eq_true z, decide_eq_true z.symm]
    exact (or_0 b).symm
  · rw [decide_eq_false z, decide_eq_false (fun y => z y.symm), s.2.1 c k hc (by omega) (fun y => z y.symm), s.2.1 k c (by omega) hc z]
    cases pm_cmp .lt (r (6 + 6 * c + k)) (nI 15) <;> cases pm_cmp .lt (r (6 + 6 * k + c)) (nI 15) <;> first | rfl | exact (or_0 b).symm
theorem eq_32 {c : Nat} (hc : c < cc) (s : RS cc gc g e d hd ha x m r) : v32 q cc gc e c = v203 q cc gc r c := by
  unfold v32 v203 v32_5 v203_4
  refine lp_cg _ _ _ (fun k b _ hk => ?_)
  unfold v32_5b v203_4b v176
  by_cases z : k = c
  · rw [decide_eq_true z, decide_eq_true z.symm]
    exact (or_0 b).symm
  · rw [decide_eq_false z, decide_eq_false (fun y => z y.symm), s.2.1 c k hc (by omega) (fun y => z y.symm), s.2.1 k c (by omega) hc z]
    cases pm_cmp .eq (r (6 + 6 * c + k)) 0 <;> cases pm_cmp .ne (r (6 + 6 * k + c)) 0 <;> first | rfl | exact (or_0 b).symm
theorem eq_37 {c : Nat} (hc : c < cc) (s : RS cc gc g e d hd ha x m r) : v37 q cc gc e c = v248 q cc gc r c := by
  unfold v37 v248 v37_5 v248_4
  refine lp_cg _ _ _ (fun k b _ hk => ?_)
  unfold v37_5b v248_4b
  by_cases z : k = c
  · rw [decide_eq_true z, decide_eq_false (fun y => y z)]
    exact (add_0 b).symm
  · rw [decide_eq_false z, decide_eq_true z, s.2.1 k c (by omega) hc z]
    rfl
theorem eq_7 {c : Nat} (hc : c < cc) (h6 : cc ≤ 6) (s : RS cc gc g e d hd ha x m r) : v7 q cc gc d c = v204 q cc gc r c := by
  unfold v7 v204 v7_5 v204_4
  refine lp_cg _ _ _ (fun k b _ hk => ?_)
  unfold v7_5b v204_4b
  rw [s.2.2.1 c k (by omega) (by omega)]
theorem eq_8 {c : Nat} (hc : c < cc) (h6 : cc ≤ 6) (s : RS cc gc g e d hd ha x m r) : v8 q cc gc d c = v205 q cc gc r c := by
  unfold v8 v205 v8_5 v205_4
  refine lp_cg _ _ _ (fun k b _ hk => ?_)
  unfold v8_5b v205_4b
  rw [s.2.2.1 k c (by omega) (by omega)]
theorem eq_74 (s : RS cc gc g e d hd ha x m r) (k : Nat) : v74 q cc gc x k = v173 q cc gc r k := by
  unfold v173
  rw [bt_eq, s.2.2.2.2.2.1]
theorem eq_75 (s : RS cc gc g e d hd ha x m r) {k : Nat} (hk : k < gc) (c : Nat) : v75 q cc gc ha k c = v164 q cc gc (r (86 + k)) (nI c) := by
  rw [bt_75, s.2.2.2.2.1 k hk]
end PUR
