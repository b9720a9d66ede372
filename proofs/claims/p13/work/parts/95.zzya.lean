/-! what both sides tell of like states: functions alone -/
section PUR
variable {cc gc : Nat} {q : QT} {g e d hd ha r : Nat → Int32} {x m : Int32}
theorem lp_rl {α β : Type} {f : Nat → α → α} {f' : Nat → β → β} {P : Nat → α → β → Prop} : ∀ (j i : Nat) (a : α) (b : β), P i a b → (∀ k a b, i ≤ k → k < i + j → P k a b → P (k + 1) (f k a) (f' k b)) → P (i + j) (lp f j i a) (lp f' j i b)
  | 0, _, _, _, h, _ => h
  | j + 1, i, a, b, h, s => by
    have q := lp_rl j (i + 1) (f i a) (f' i b) (s i a b (Nat.le_refl _) (by omega) h) (fun k a b h1 h2 => s k a b (by omega) (by omega))
    rw [show i + 1 + j = i + (j + 1) by omega] at q
    exact q
theorem lp_in {α : Type} {f : Nat → α → α} {P : Nat → α → Prop} : ∀ (j i : Nat) (a : α), P i a → (∀ k a, i ≤ k → k < i + j → P k a → P (k + 1) (f k a)) → P (i + j) (lp f j i a)
  | 0, _, _, h, _ => h
  | j + 1, i, a, h, s => by
    have q := lp_in j (i + 1) (f i a) (s i a (Nat.le_refl _) (by omega) h) (fun k a h1 h2 => s k a (by omega) (by omega))
    rw [show i + 1 + j = i + (j + 1) by omega] at q
    exact q
theorem and1 (x : Int32) : x &&& nI 1 = 0 ∨ x &&& nI 1 = nI 1 := by
  have e : (x &&& nI 1).toBitVec = BitVec.setWidth 32 (BitVec.ofBool (x.toBitVec.getLsbD 0)) := BitVec.and_one_eq_setWidth_ofBool_getLsbD
  cases z : x.toBitVec.getLsbD 0 with
  | false => rw [z] at e; exact Or.inl (Int32.toBitVec_inj.mp e)
  | true => rw [z] at e; exact Or.inr (Int32.toBitVec_inj.mp e)
theorem bt_eq (x : Int32) (k : Nat) : v164 q cc gc x (nI k) = v74 q cc gc x k := by
  unfold v164 v74
  rcases and1 (shr x (nI k)) with z | z <;> (rw [z]; decide)
theorem bt_75 (k : Nat) (c : Nat) : v75 q cc gc ha k c = v164 q cc gc (ha k) (nI c) := by
  unfold v75 v164
  rcases and1 (shr (ha k) (nI c)) with z | z <;> (rw [z]; decide)
/-- a state of the class tells what a row of the reference tells -/
def RS (cc gc : Nat) (g e d hd ha : Nat → Int32) (x m : Int32) (r : Nat → Int32) : Prop :=
  (∀ c, c < 6 → g c = r c) ∧ (∀ a b, a < cc → b < cc → a ≠ b → e (a * 6 + b) = r (6 + 6 * a + b)) ∧ (∀ a b, a < 6 → b < 6 → d (a * 6 + b) = r (42 + 6 * a + b)) ∧ (∀ j, j < gc → hd j = r (78 + j)) ∧ (∀ j, j < gc → ha j = r (86 + j)) ∧ x = r 94 ∧ m = r 95
theorem eq_74 (s : RS cc gc g e d hd ha x m r) (k : Nat) : v74 q cc gc x k = v173 q cc gc r k := by
  unfold v173
  rw [bt_eq, s.2.2.2.2.2.1]
theorem eq_75 (s : RS cc gc g e d hd ha x m r) {k : Nat} (hk : k < gc) (c : Nat) : v75 q cc gc ha k c = v164 q cc gc (r (86 + k)) (nI c) := by
  rw [bt_75, s.2.2.2.2.1 k hk]
end PUR
