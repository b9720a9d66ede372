section MG95zzyax0
/-! what both sides tell of like states: functions alone -/
section PUR
variable {cc gc : Nat} {q : QT} {g e d hd ha r : Nat → Int32} {x m : Int32}
theorem lp_rl {α β : Type} {f : Nat → α → α} {f' : Nat → β → β} {P : Nat → α → β → Prop} : ∀ (j i : Nat) (a : α) (b : β), P i a b → (∀ k a b, i ≤ k → k < i + j → P k a b → P (k + 1) (f k a) (f' k b)) → P (i + j) (lp f j i a) (lp f' j i b)
  | 0, _, _, _, h, _ => h
  | j + 1, i, a, b, h, s => by
    have q := lp_rl j (i + 1) (f i a) (f' i b) (s i a b (Nat.le_refl _) (by omega) h) (fun k a b h1 h2 => s k a b (by omega) (by omega))
    rw [show i + 1 + j = i + (j + 1) by omega] at q
    exact q
theorem lp_in {α : Type} {f : Nat → α → α} {P : Nat → α → Prop} : ∀ (j i : Nat) (a : α), P i a → (∀ k a, i ≤ k → k < i + j → P k a → P (k + 1) (f k a)) → P (i + j) (lp f j i a)
  | 0, _, _, h, _ => h
  | j + 1, i, a, h, s => by
    have q := lp_in j (i + 1) (f i a) (s i a (Nat.le_refl _) (by omega) h) (fun k a h1 h2 => s k a (by omega) (by omega))
    rw [show i + 1 + j = i + (j + 1) by omega] at q
    exact q
theorem and1 (x : Int32) : x &&& nI 1 = 0 ∨ x &&& nI 1 = nI 1 := by
  have e : (x &&& nI 1).toBitVec = BitVec.setWidth 32 (BitVec.ofBool (x.toBitVec.getLsbD 0)) := BitVec.and_one_eq_setWidth_ofBool_getLsbD
  cases z : x.toBitVec.getLsbD 0 with
  | false => rw [z] at e; exact Or.inl (Int32.toBitVec_inj.mp e)
  | true => rw [z] at e; exact Or.inr (Int32.toBitVec_inj.mp e)
theorem bt_eq (x : Int32) (k : Nat) : v164 q cc gc x (nI k) = v74 q cc gc x k := by
  unfold v164 v74
  rcases and1 (shr x (nI k)) with z | z <;> (rw [z]; decide)
theorem bt_75 (k : Nat) (c : Nat) : v75 q cc gc ha k c = v164 q cc gc (ha k) (nI c) := by
  unfold v75 v164
  rcases and1 (shr (ha k) (nI c)) with z | z <;> (rw [z]; decide)
/-- a state of the class tells what a row of the reference tells -/
def RS (cc gc : Nat) (g e d hd ha : Nat → Int32) (x m : Int32) (r : Nat → Int32) : Prop :=
  (∀ c, c < 6 → g c = r c) ∧ (∀ a b, a < cc → b < cc → a ≠ b → e (a * 6 + b) = r (6 + 6 * a + b)) ∧ (∀ a b, a < 6 → b < 6 → d (a * 6 + b) = r (42 + 6 * a + b)) ∧ (∀ j, j < gc → hd j = r (78 + j)) ∧ (∀ j, j < gc → ha j = r (86 + j)) ∧ x = r 94 ∧ m = r 95
theorem eq_74 (s : RS cc gc g e d hd ha x m r) (k : Nat) : v74 q cc gc x k = v173 q cc gc r k := by
  unfold v173
  rw [bt_eq, s.2.2.2.2.2.1]
theorem eq_75 (s : RS cc gc g e d hd ha x m r) {k : Nat} (hk : k < gc) (c : Nat) : v75 q cc gc ha k c = v164 q cc gc (r (86 + k)) (nI c) := by
  rw [bt_75, s.2.2.2.2.1 k hk]
end PUR
end MG95zzyax0
section MG95zzyax1
/-! both codes tell the same values -/
section DEN
variable {cc gc : Nat} {q : QT} {f : Nat → Int32} {t : Nat} {ds es d2 e2 : List Int32}
/-- a step of the class's evaluation, of the reference's, on a stack -/
def stO (q : QT) (cc gc : Nat) (s : List Int32) (c : Int32) : List Int32 := cond (pm_cmp .ne c (Int32.ofInt (-126))) (v71 q cc gc (-c) (s.tail.headD 0) (s.headD 0) :: s.tail.tail) (-(s.headD 0) :: s.tail)
def stX (q : QT) (cc gc : Nat) (A : Nat → Int32) (s : List Int32) (c : Int32) : List Int32 := cond (pm_cmp .lt c 0) (cond (pm_cmp .lt (v67 q cc gc (-c)) 0) (stO q cc gc s c) (cond (pm_cmp .ge (v67 q cc gc (-c)) (nI 7)) (stO q cc gc s c) (A (v67 q cc gc (-c)).toNatClampNeg :: s))) (c :: s)
def stM (q : QT) (cc gc : Nat) (A : Nat → Int32) (s : List Int32) (c : Int32) : List Int32 := cond (pm_cmp .ne c (nI 3000)) (cond (pm_cmp .lt c (nI 2000)) ((cond (pm_cmp .lt c (nI 1000)) c (A (c - nI 1000).toNatClampNeg)) :: s) (v199 q cc gc (c - nI 2000) (s.tail.headD 0) (s.headD 0) :: s.tail.tail)) (-(s.headD 0) :: s.tail)
def den (q : QT) (cc gc : Nat) (ds es : List Int32) : Prop := ∃ V : (Nat → Int32) → Int32, ∀ A s, ds.foldl (stX q cc gc A) s = V A :: s ∧ es.foldl (stM q cc gc A) s = V A :: s
def denL (q : QT) (cc gc : Nat) (ds es : List Int32) : Prop := ∃ W : (Nat → Int32) → Int32 → Int32, ∀ A v s, ds.foldl (stX q cc gc A) (v :: s) = W A v :: s ∧ es.foldl (stM q cc gc A) (v :: s) = W A v :: s
theorem den_app (h1 : den q cc gc ds es) (h2 : denL q cc gc d2 e2) : den q cc gc (ds ++ d2) (es ++ e2) := by
  obtain ⟨V, hV⟩ := h1
  obtain ⟨W, hW⟩ := h2
  refine ⟨fun A => W A (V A), fun A s => ?_⟩
  rw [List.foldl_append, List.foldl_append, (hV A s).1, (hV A s).2]
  exact hW A (V A) s
theorem denL_nil : denL q cc gc [] [] := ⟨fun _ v => v, fun _ _ _ => ⟨rfl, rfl⟩⟩
theorem denL_op {c c' : Int32} {J : Int32 → Int32 → Int32} (h1 : den q cc gc ds es) (hJ : ∀ A a b s, stX q cc gc A (b :: a :: s) c = J a b :: s ∧ stM q cc gc A (b :: a :: s) c' = J a b :: s) (h2 : denL q cc gc d2 e2) : denL q cc gc (ds ++ c :: d2) (es ++ c' :: e2) := by
  obtain ⟨V, hV⟩ := h1
  obtain ⟨W, hW⟩ := h2
  refine ⟨fun A v => W A (J v (V A)), fun A v s => ?_⟩
  rw [List.foldl_append, List.foldl_append, (hV A (v :: s)).1, (hV A (v :: s)).2, List.foldl_cons, List.foldl_cons, (hJ A v (V A) s).1, (hJ A v (V A) s).2]
  exact hW A _ s
theorem j71_60 (a b : Int32) : v71 q cc gc (nI 60) a b = cond (cond (pm_cmp .ge a b) false true) 1 0 := by
  unfold v71
  rw [show pm_cmp .eq (nI 60) (nI 42) = false from by decide, show pm_cmp .eq (nI 60) (nI 43) = false from by decide, show pm_cmp .eq (nI 60) (nI 45) = false from by decide, show pm_cmp .eq (nI 60) (nI 60) = true from by decide]
  try rfl
theorem j199_60 (a b : Int32) : v199 q cc gc (nI 0) a b = cond (cond (pm_cmp .ge a b) false true) 1 0 := by
  unfold v199
  rw [show pm_cmp .eq (nI 0) (nI 0) = true from by decide]
  try rfl
theorem op_60 (A : Nat → Int32) (a b : Int32) (s : List Int32) : stX q cc gc A (b :: a :: s) (-(nI 60)) = (cond (cond (pm_cmp .ge a b) false true) 1 0) :: s ∧ stM q cc gc A (b :: a :: s) (nI 2000) = (cond (cond (pm_cmp .ge a b) false true) 1 0) :: s := by
  constructor
  · unfold stX
    rw [show pm_cmp .lt (-(nI 60)) 0 = true from by decide, show -(-(nI 60)) = nI 60 from by decide]
    have e : v67 q cc gc (nI 60) = Int32.ofInt (-1) := by
      unfold v67
      rw [show pm_cmp .eq (nI 60) (nI 100) = false from by decide, show pm_cmp .eq (nI 60) (nI 101) = false from by decide, show pm_cmp .eq (nI 60) (nI 104) = false from by decide, show pm_cmp .eq (nI 60) (nI 107) = false from by decide, show pm_cmp .eq (nI 60) (nI 114) = false from by decide, show pm_cmp .eq (nI 60) (nI 115) = false from by decide, show pm_cmp .eq (nI 60) (nI 119) = false from by decide]
      rfl
    rw [e, show pm_cmp .lt (Int32.ofInt (-1)) 0 = true from by decide]
    show stO q cc gc (b :: a :: s) (-(nI 60)) = _
    unfold stO
    rw [show pm_cmp .ne (-(nI 60)) (Int32.ofInt (-126)) = true from by decide, show -(-(nI 60)) = nI 60 from by decide]
    show v71 q cc gc (nI 60) a b :: s = _
    rw [j71_60]
  · unfold stM
    rw [show pm_cmp .ne (nI 2000) (nI 3000) = true from by decide, show pm_cmp .lt (nI 2000) (nI 2000) = false from by decide, show nI 2000 - nI 2000 = nI 0 from by decide]
    show v199 q cc gc (nI 0) a b :: s = _
    rw [j199_60]
theorem j71_62 (a b : Int32) : v71 q cc gc (nI 62) a b = cond (cond (pm_cmp .le a b) false true) 1 0 := by
  unfold v71
  rw [show pm_cmp .eq (nI 62) (nI 42) = false from by decide, show pm_cmp .eq (nI 62) (nI 43) = false from by decide, show pm_cmp .eq (nI 62) (nI 45) = false from by decide, show pm_cmp .eq (nI 62) (nI 60) = false from by decide, show pm_cmp .eq (nI 62) (nI 61) = false from by decide, show pm_cmp .eq (nI 62) (nI 62) = true from by decide]
  try rfl
theorem j199_62 (a b : Int32) : v199 q cc gc (nI 1) a b = cond (cond (pm_cmp .le a b) false true) 1 0 := by
  unfold v199
  rw [show pm_cmp .eq (nI 1) (nI 0) = false from by decide, show pm_cmp .eq (nI 1) (nI 1) = true from by decide]
  try rfl
theorem op_62 (A : Nat → Int32) (a b : Int32) (s : List Int32) : stX q cc gc A (b :: a :: s) (-(nI 62)) = (cond (cond (pm_cmp .le a b) false true) 1 0) :: s ∧ stM q cc gc A (b :: a :: s) (nI 2001) = (cond (cond (pm_cmp .le a b) false true) 1 0) :: s := by
  constructor
  · unfold stX
    rw [show pm_cmp .lt (-(nI 62)) 0 = true from by decide, show -(-(nI 62)) = nI 62 from by decide]
    have e : v67 q cc gc (nI 62) = Int32.ofInt (-1) := by
      unfold v67
      rw [show pm_cmp .eq (nI 62) (nI 100) = false from by decide, show pm_cmp .eq (nI 62) (nI 101) = false from by decide, show pm_cmp .eq (nI 62) (nI 104) = false from by decide, show pm_cmp .eq (nI 62) (nI 107) = false from by decide, show pm_cmp .eq (nI 62) (nI 114) = false from by decide, show pm_cmp .eq (nI 62) (nI 115) = false from by decide, show pm_cmp .eq (nI 62) (nI 119) = false from by decide]
      rfl
    rw [e, show pm_cmp .lt (Int32.ofInt (-1)) 0 = true from by decide]
    show stO q cc gc (b :: a :: s) (-(nI 62)) = _
    unfold stO
    rw [show pm_cmp .ne (-(nI 62)) (Int32.ofInt (-126)) = true from by decide, show -(-(nI 62)) = nI 62 from by decide]
    show v71 q cc gc (nI 62) a b :: s = _
    rw [j71_62]
  · unfold stM
    rw [show pm_cmp .ne (nI 2001) (nI 3000) = true from by decide, show pm_cmp .lt (nI 2001) (nI 2000) = false from by decide, show nI 2001 - nI 2000 = nI 1 from by decide]
    show v199 q cc gc (nI 1) a b :: s = _
    rw [j199_62]
theorem j71_61 (a b : Int32) : v71 q cc gc (nI 61) a b = cond (cond (pm_cmp .ne a b) false true) 1 0 := by
  unfold v71
  rw [show pm_cmp .eq (nI 61) (nI 42) = false from by decide, show pm_cmp .eq (nI 61) (nI 43) = false from by decide, show pm_cmp .eq (nI 61) (nI 45) = false from by decide, show pm_cmp .eq (nI 61) (nI 60) = false from by decide, show pm_cmp .eq (nI 61) (nI 61) = true from by decide]
  try rfl
theorem j199_61 (a b : Int32) : v199 q cc gc (nI 2) a b = cond (cond (pm_cmp .ne a b) false true) 1 0 := by
  unfold v199
  rw [show pm_cmp .eq (nI 2) (nI 0) = false from by decide, show pm_cmp .eq (nI 2) (nI 1) = false from by decide, show pm_cmp .eq (nI 2) (nI 2) = true from by decide]
  try rfl
theorem op_61 (A : Nat → Int32) (a b : Int32) (s : List Int32) : stX q cc gc A (b :: a :: s) (-(nI 61)) = (cond (cond (pm_cmp .ne a b) false true) 1 0) :: s ∧ stM q cc gc A (b :: a :: s) (nI 2002) = (cond (cond (pm_cmp .ne a b) false true) 1 0) :: s := by
  constructor
  · unfold stX
    rw [show pm_cmp .lt (-(nI 61)) 0 = true from by decide, show -(-(nI 61)) = nI 61 from by decide]
    have e : v67 q cc gc (nI 61) = Int32.ofInt (-1) := by
      unfold v67
      rw [show pm_cmp .eq (nI 61) (nI 100) = false from by decide, show pm_cmp .eq (nI 61) (nI 101) = false from by decide, show pm_cmp .eq (nI 61) (nI 104) = false from by decide, show pm_cmp .eq (nI 61) (nI 107) = false from by decide, show pm_cmp .eq (nI 61) (nI 114) = false from by decide, show pm_cmp .eq (nI 61) (nI 115) = false from by decide, show pm_cmp .eq (nI 61) (nI 119) = false from by decide]
      rfl
    rw [e, show pm_cmp .lt (Int32.ofInt (-1)) 0 = true from by decide]
    show stO q cc gc (b :: a :: s) (-(nI 61)) = _
    unfold stO
    rw [show pm_cmp .ne (-(nI 61)) (Int32.ofInt (-126)) = true from by decide, show -(-(nI 61)) = nI 61 from by decide]
    show v71 q cc gc (nI 61) a b :: s = _
    rw [j71_61]
  · unfold stM
    rw [show pm_cmp .ne (nI 2002) (nI 3000) = true from by decide, show pm_cmp .lt (nI 2002) (nI 2000) = false from by decide, show nI 2002 - nI 2000 = nI 2 from by decide]
    show v199 q cc gc (nI 2) a b :: s = _
    rw [j199_61]
theorem j71_43 (a b : Int32) : v71 q cc gc (nI 43) a b = a + b := by
  unfold v71
  rw [show pm_cmp .eq (nI 43) (nI 42) = false from by decide, show pm_cmp .eq (nI 43) (nI 43) = true from by decide]
  try rfl
theorem j199_43 (a b : Int32) : v199 q cc gc (nI 3) a b = a + b := by
  unfold v199
  rw [show pm_cmp .eq (nI 3) (nI 0) = false from by decide, show pm_cmp .eq (nI 3) (nI 1) = false from by decide, show pm_cmp .eq (nI 3) (nI 2) = false from by decide, show pm_cmp .eq (nI 3) (nI 3) = true from by decide]
  try rfl
theorem op_43 (A : Nat → Int32) (a b : Int32) (s : List Int32) : stX q cc gc A (b :: a :: s) (-(nI 43)) = (a + b) :: s ∧ stM q cc gc A (b :: a :: s) (nI 2003) = (a + b) :: s := by
  constructor
  · unfold stX
    rw [show pm_cmp .lt (-(nI 43)) 0 = true from by decide, show -(-(nI 43)) = nI 43 from by decide]
    have e : v67 q cc gc (nI 43) = Int32.ofInt (-1) := by
      unfold v67
      rw [show pm_cmp .eq (nI 43) (nI 100) = false from by decide, show pm_cmp .eq (nI 43) (nI 101) = false from by decide, show pm_cmp .eq (nI 43) (nI 104) = false from by decide, show pm_cmp .eq (nI 43) (nI 107) = false from by decide, show pm_cmp .eq (nI 43) (nI 114) = false from by decide, show pm_cmp .eq (nI 43) (nI 115) = false from by decide, show pm_cmp .eq (nI 43) (nI 119) = false from by decide]
      rfl
    rw [e, show pm_cmp .lt (Int32.ofInt (-1)) 0 = true from by decide]
    show stO q cc gc (b :: a :: s) (-(nI 43)) = _
    unfold stO
    rw [show pm_cmp .ne (-(nI 43)) (Int32.ofInt (-126)) = true from by decide, show -(-(nI 43)) = nI 43 from by decide]
    show v71 q cc gc (nI 43) a b :: s = _
    rw [j71_43]
  · unfold stM
    rw [show pm_cmp .ne (nI 2003) (nI 3000) = true from by decide, show pm_cmp .lt (nI 2003) (nI 2000) = false from by decide, show nI 2003 - nI 2000 = nI 3 from by decide]
    show v199 q cc gc (nI 3) a b :: s = _
    rw [j199_43]
theorem j71_45 (a b : Int32) : v71 q cc gc (nI 45) a b = a - b := by
  unfold v71
  rw [show pm_cmp .eq (nI 45) (nI 42) = false from by decide, show pm_cmp .eq (nI 45) (nI 43) = false from by decide, show pm_cmp .eq (nI 45) (nI 45) = true from by decide]
  try rfl
theorem j199_45 (a b : Int32) : v199 q cc gc (nI 4) a b = a - b := by
  unfold v199
  rw [show pm_cmp .eq (nI 4) (nI 0) = false from by decide, show pm_cmp .eq (nI 4) (nI 1) = false from by decide, show pm_cmp .eq (nI 4) (nI 2) = false from by decide, show pm_cmp .eq (nI 4) (nI 3) = false from by decide, show pm_cmp .eq (nI 4) (nI 4) = true from by decide]
  try rfl
theorem op_45 (A : Nat → Int32) (a b : Int32) (s : List Int32) : stX q cc gc A (b :: a :: s) (-(nI 45)) = (a - b) :: s ∧ stM q cc gc A (b :: a :: s) (nI 2004) = (a - b) :: s := by
  constructor
  · unfold stX
    rw [show pm_cmp .lt (-(nI 45)) 0 = true from by decide, show -(-(nI 45)) = nI 45 from by decide]
    have e : v67 q cc gc (nI 45) = Int32.ofInt (-1) := by
      unfold v67
      rw [show pm_cmp .eq (nI 45) (nI 100) = false from by decide, show pm_cmp .eq (nI 45) (nI 101) = false from by decide, show pm_cmp .eq (nI 45) (nI 104) = false from by decide, show pm_cmp .eq (nI 45) (nI 107) = false from by decide, show pm_cmp .eq (nI 45) (nI 114) = false from by decide, show pm_cmp .eq (nI 45) (nI 115) = false from by decide, show pm_cmp .eq (nI 45) (nI 119) = false from by decide]
      rfl
    rw [e, show pm_cmp .lt (Int32.ofInt (-1)) 0 = true from by decide]
    show stO q cc gc (b :: a :: s) (-(nI 45)) = _
    unfold stO
    rw [show pm_cmp .ne (-(nI 45)) (Int32.ofInt (-126)) = true from by decide, show -(-(nI 45)) = nI 45 from by decide]
    show v71 q cc gc (nI 45) a b :: s = _
    rw [j71_45]
  · unfold stM
    rw [show pm_cmp .ne (nI 2004) (nI 3000) = true from by decide, show pm_cmp .lt (nI 2004) (nI 2000) = false from by decide, show nI 2004 - nI 2000 = nI 4 from by decide]
    show v199 q cc gc (nI 4) a b :: s = _
    rw [j199_45]
theorem j71_42 (a b : Int32) : v71 q cc gc (nI 42) a b = a * b := by
  unfold v71
  rw [show pm_cmp .eq (nI 42) (nI 42) = true from by decide]
  try rfl
theorem j199_42 (a b : Int32) : v199 q cc gc (nI 5) a b = a * b := by
  unfold v199
  rw [show pm_cmp .eq (nI 5) (nI 0) = false from by decide, show pm_cmp .eq (nI 5) (nI 1) = false from by decide, show pm_cmp .eq (nI 5) (nI 2) = false from by decide, show pm_cmp .eq (nI 5) (nI 3) = false from by decide, show pm_cmp .eq (nI 5) (nI 4) = false from by decide, show pm_cmp .eq (nI 5) (nI 5) = true from by decide]
  try rfl
theorem op_42 (A : Nat → Int32) (a b : Int32) (s : List Int32) : stX q cc gc A (b :: a :: s) (-(nI 42)) = (a * b) :: s ∧ stM q cc gc A (b :: a :: s) (nI 2005) = (a * b) :: s := by
  constructor
  · unfold stX
    rw [show pm_cmp .lt (-(nI 42)) 0 = true from by decide, show -(-(nI 42)) = nI 42 from by decide]
    have e : v67 q cc gc (nI 42) = Int32.ofInt (-1) := by
      unfold v67
      rw [show pm_cmp .eq (nI 42) (nI 100) = false from by decide, show pm_cmp .eq (nI 42) (nI 101) = false from by decide, show pm_cmp .eq (nI 42) (nI 104) = false from by decide, show pm_cmp .eq (nI 42) (nI 107) = false from by decide, show pm_cmp .eq (nI 42) (nI 114) = false from by decide, show pm_cmp .eq (nI 42) (nI 115) = false from by decide, show pm_cmp .eq (nI 42) (nI 119) = false from by decide]
      rfl
    rw [e, show pm_cmp .lt (Int32.ofInt (-1)) 0 = true from by decide]
    show stO q cc gc (b :: a :: s) (-(nI 42)) = _
    unfold stO
    rw [show pm_cmp .ne (-(nI 42)) (Int32.ofInt (-126)) = true from by decide, show -(-(nI 42)) = nI 42 from by decide]
    show v71 q cc gc (nI 42) a b :: s = _
    rw [j71_42]
  · unfold stM
    rw [show pm_cmp .ne (nI 2005) (nI 3000) = true from by decide, show pm_cmp .lt (nI 2005) (nI 2000) = false from by decide, show nI 2005 - nI 2000 = nI 5 from by decide]
    show v199 q cc gc (nI 5) a b :: s = _
    rw [j199_42]
theorem j71_47 (a b : Int32) : v71 q cc gc (nI 47) a b = cond (pm_cmp .ne b 0) (a / b) (nI 0) := by
  unfold v71
  rw [show pm_cmp .eq (nI 47) (nI 42) = false from by decide, show pm_cmp .eq (nI 47) (nI 43) = false from by decide, show pm_cmp .eq (nI 47) (nI 45) = false from by decide, show pm_cmp .eq (nI 47) (nI 60) = false from by decide, show pm_cmp .eq (nI 47) (nI 61) = false from by decide, show pm_cmp .eq (nI 47) (nI 62) = false from by decide]
  try rfl
theorem j199_47 (a b : Int32) : v199 q cc gc (nI 6) a b = cond (pm_cmp .ne b 0) (a / b) (nI 0) := by
  unfold v199
  rw [show pm_cmp .eq (nI 6) (nI 0) = false from by decide, show pm_cmp .eq (nI 6) (nI 1) = false from by decide, show pm_cmp .eq (nI 6) (nI 2) = false from by decide, show pm_cmp .eq (nI 6) (nI 3) = false from by decide, show pm_cmp .eq (nI 6) (nI 4) = false from by decide, show pm_cmp .eq (nI 6) (nI 5) = false from by decide]
  try rfl
theorem op_47 (A : Nat → Int32) (a b : Int32) (s : List Int32) : stX q cc gc A (b :: a :: s) (-(nI 47)) = (cond (pm_cmp .ne b 0) (a / b) (nI 0)) :: s ∧ stM q cc gc A (b :: a :: s) (nI 2006) = (cond (pm_cmp .ne b 0) (a / b) (nI 0)) :: s := by
  constructor
  · unfold stX
    rw [show pm_cmp .lt (-(nI 47)) 0 = true from by decide, show -(-(nI 47)) = nI 47 from by decide]
    have e : v67 q cc gc (nI 47) = Int32.ofInt (-1) := by
      unfold v67
      rw [show pm_cmp .eq (nI 47) (nI 100) = false from by decide, show pm_cmp .eq (nI 47) (nI 101) = false from by decide, show pm_cmp .eq (nI 47) (nI 104) = false from by decide, show pm_cmp .eq (nI 47) (nI 107) = false from by decide, show pm_cmp .eq (nI 47) (nI 114) = false from by decide, show pm_cmp .eq (nI 47) (nI 115) = false from by decide, show pm_cmp .eq (nI 47) (nI 119) = false from by decide]
      rfl
    rw [e, show pm_cmp .lt (Int32.ofInt (-1)) 0 = true from by decide]
    show stO q cc gc (b :: a :: s) (-(nI 47)) = _
    unfold stO
    rw [show pm_cmp .ne (-(nI 47)) (Int32.ofInt (-126)) = true from by decide, show -(-(nI 47)) = nI 47 from by decide]
    show v71 q cc gc (nI 47) a b :: s = _
    rw [j71_47]
  · unfold stM
    rw [show pm_cmp .ne (nI 2006) (nI 3000) = true from by decide, show pm_cmp .lt (nI 2006) (nI 2000) = false from by decide, show nI 2006 - nI 2000 = nI 6 from by decide]
    show v199 q cc gc (nI 6) a b :: s = _
    rw [j199_47]
theorem op_lev {o : Nat} {x : Int32} (ho : o < 3) (z : zlev o x = true) : ∃ J : Int32 → Int32 → Int32, ∀ A a b s, stX q cc gc A (b :: a :: s) (-x) = J a b :: s ∧ stM q cc gc A (b :: a :: s) (rop o x) = J a b :: s := by
  rcases (by omega : o = 0 ∨ o = 1 ∨ o = 2) with rfl | rfl | rfl
  · have z : x = nI 60 ∨ x = nI 61 ∨ x = nI 62 := of_decide_eq_true z
    rcases z with rfl | rfl | rfl
    · rw [show rop 0 (nI 60) = nI 2000 from by decide +kernel]
      exact ⟨_, fun A a b s => op_60 A a b s⟩
    · rw [show rop 0 (nI 61) = nI 2002 from by decide +kernel]
      exact ⟨_, fun A a b s => op_61 A a b s⟩
    · rw [show rop 0 (nI 62) = nI 2001 from by decide +kernel]
      exact ⟨_, fun A a b s => op_62 A a b s⟩
  · have z : x = nI 43 ∨ x = nI 45 := of_decide_eq_true z
    rcases z with rfl | rfl
    · rw [show rop 1 (nI 43) = nI 2003 from by decide +kernel]
      exact ⟨_, fun A a b s => op_43 A a b s⟩
    · rw [show rop 1 (nI 45) = nI 2004 from by decide +kernel]
      exact ⟨_, fun A a b s => op_45 A a b s⟩
  · have z : x = nI 42 ∨ x = nI 47 := of_decide_eq_true z
    rcases z with rfl | rfl
    · rw [show rop 2 (nI 42) = nI 2005 from by decide +kernel]
      exact ⟨_, fun A a b s => op_42 A a b s⟩
    · rw [show rop 2 (nI 47) = nI 2006 from by decide +kernel]
      exact ⟨_, fun A a b s => op_47 A a b s⟩
theorem let_119 (A : Nat → Int32) (s : List Int32) : stX q cc gc A s (-(nI 119)) = A 0 :: s ∧ stM q cc gc A s (nI 1000) = A 0 :: s := by
  constructor
  · unfold stX
    have e : v67 q cc gc (nI 119) = nI 0 := by
      unfold v67
      rw [show pm_cmp .eq (nI 119) (nI 100) = false from by decide, show pm_cmp .eq (nI 119) (nI 101) = false from by decide, show pm_cmp .eq (nI 119) (nI 104) = false from by decide, show pm_cmp .eq (nI 119) (nI 107) = false from by decide, show pm_cmp .eq (nI 119) (nI 114) = false from by decide, show pm_cmp .eq (nI 119) (nI 115) = false from by decide, show pm_cmp .eq (nI 119) (nI 119) = true from by decide]
      try rfl
    rw [show pm_cmp .lt (-(nI 119)) 0 = true from by decide, show -(-(nI 119)) = nI 119 from by decide, e, show pm_cmp .lt (nI 0) 0 = false from by decide, show pm_cmp .ge (nI 0) (nI 7) = false from by decide, show (nI 0).toNatClampNeg = 0 from by decide]
    rfl
  · unfold stM
    rw [show pm_cmp .ne (nI 1000) (nI 3000) = true from by decide, show pm_cmp .lt (nI 1000) (nI 2000) = true from by decide, show pm_cmp .lt (nI 1000) (nI 1000) = false from by decide, show (nI 1000 - nI 1000).toNatClampNeg = 0 from by decide]
    rfl
theorem let_107 (A : Nat → Int32) (s : List Int32) : stX q cc gc A s (-(nI 107)) = A 1 :: s ∧ stM q cc gc A s (nI 1001) = A 1 :: s := by
  constructor
  · unfold stX
    have e : v67 q cc gc (nI 107) = nI 1 := by
      unfold v67
      rw [show pm_cmp .eq (nI 107) (nI 100) = false from by decide, show pm_cmp .eq (nI 107) (nI 101) = false from by decide, show pm_cmp .eq (nI 107) (nI 104) = false from by decide, show pm_cmp .eq (nI 107) (nI 107) = true from by decide]
      try rfl
    rw [show pm_cmp .lt (-(nI 107)) 0 = true from by decide, show -(-(nI 107)) = nI 107 from by decide, e, show pm_cmp .lt (nI 1) 0 = false from by decide, show pm_cmp .ge (nI 1) (nI 7) = false from by decide, show (nI 1).toNatClampNeg = 1 from by decide]
    rfl
  · unfold stM
    rw [show pm_cmp .ne (nI 1001) (nI 3000) = true from by decide, show pm_cmp .lt (nI 1001) (nI 2000) = true from by decide, show pm_cmp .lt (nI 1001) (nI 1000) = false from by decide, show (nI 1001 - nI 1000).toNatClampNeg = 1 from by decide]
    rfl
theorem let_114 (A : Nat → Int32) (s : List Int32) : stX q cc gc A s (-(nI 114)) = A 2 :: s ∧ stM q cc gc A s (nI 1002) = A 2 :: s := by
  constructor
  · unfold stX
    have e : v67 q cc gc (nI 114) = nI 2 := by
      unfold v67
      rw [show pm_cmp .eq (nI 114) (nI 100) = false from by decide, show pm_cmp .eq (nI 114) (nI 101) = false from by decide, show pm_cmp .eq (nI 114) (nI 104) = false from by decide, show pm_cmp .eq (nI 114) (nI 107) = false from by decide, show pm_cmp .eq (nI 114) (nI 114) = true from by decide]
      try rfl
    rw [show pm_cmp .lt (-(nI 114)) 0 = true from by decide, show -(-(nI 114)) = nI 114 from by decide, e, show pm_cmp .lt (nI 2) 0 = false from by decide, show pm_cmp .ge (nI 2) (nI 7) = false from by decide, show (nI 2).toNatClampNeg = 2 from by decide]
    rfl
  · unfold stM
    rw [show pm_cmp .ne (nI 1002) (nI 3000) = true from by decide, show pm_cmp .lt (nI 1002) (nI 2000) = true from by decide, show pm_cmp .lt (nI 1002) (nI 1000) = false from by decide, show (nI 1002 - nI 1000).toNatClampNeg = 2 from by decide]
    rfl
theorem let_115 (A : Nat → Int32) (s : List Int32) : stX q cc gc A s (-(nI 115)) = A 3 :: s ∧ stM q cc gc A s (nI 1003) = A 3 :: s := by
  constructor
  · unfold stX
    have e : v67 q cc gc (nI 115) = nI 3 := by
      unfold v67
      rw [show pm_cmp .eq (nI 115) (nI 100) = false from by decide, show pm_cmp .eq (nI 115) (nI 101) = false from by decide, show pm_cmp .eq (nI 115) (nI 104) = false from by decide, show pm_cmp .eq (nI 115) (nI 107) = false from by decide, show pm_cmp .eq (nI 115) (nI 114) = false from by decide, show pm_cmp .eq (nI 115) (nI 115) = true from by decide]
      try rfl
    rw [show pm_cmp .lt (-(nI 115)) 0 = true from by decide, show -(-(nI 115)) = nI 115 from by decide, e, show pm_cmp .lt (nI 3) 0 = false from by decide, show pm_cmp .ge (nI 3) (nI 7) = false from by decide, show (nI 3).toNatClampNeg = 3 from by decide]
    rfl
  · unfold stM
    rw [show pm_cmp .ne (nI 1003) (nI 3000) = true from by decide, show pm_cmp .lt (nI 1003) (nI 2000) = true from by decide, show pm_cmp .lt (nI 1003) (nI 1000) = false from by decide, show (nI 1003 - nI 1000).toNatClampNeg = 3 from by decide]
    rfl
theorem let_104 (A : Nat → Int32) (s : List Int32) : stX q cc gc A s (-(nI 104)) = A 4 :: s ∧ stM q cc gc A s (nI 1004) = A 4 :: s := by
  constructor
  · unfold stX
    have e : v67 q cc gc (nI 104) = nI 4 := by
      unfold v67
      rw [show pm_cmp .eq (nI 104) (nI 100) = false from by decide, show pm_cmp .eq (nI 104) (nI 101) = false from by decide, show pm_cmp .eq (nI 104) (nI 104) = true from by decide]
      try rfl
    rw [show pm_cmp .lt (-(nI 104)) 0 = true from by decide, show -(-(nI 104)) = nI 104 from by decide, e, show pm_cmp .lt (nI 4) 0 = false from by decide, show pm_cmp .ge (nI 4) (nI 7) = false from by decide, show (nI 4).toNatClampNeg = 4 from by decide]
    rfl
  · unfold stM
    rw [show pm_cmp .ne (nI 1004) (nI 3000) = true from by decide, show pm_cmp .lt (nI 1004) (nI 2000) = true from by decide, show pm_cmp .lt (nI 1004) (nI 1000) = false from by decide, show (nI 1004 - nI 1000).toNatClampNeg = 4 from by decide]
    rfl
theorem let_101 (A : Nat → Int32) (s : List Int32) : stX q cc gc A s (-(nI 101)) = A 5 :: s ∧ stM q cc gc A s (nI 1005) = A 5 :: s := by
  constructor
  · unfold stX
    have e : v67 q cc gc (nI 101) = nI 5 := by
      unfold v67
      rw [show pm_cmp .eq (nI 101) (nI 100) = false from by decide, show pm_cmp .eq (nI 101) (nI 101) = true from by decide]
      try rfl
    rw [show pm_cmp .lt (-(nI 101)) 0 = true from by decide, show -(-(nI 101)) = nI 101 from by decide, e, show pm_cmp .lt (nI 5) 0 = false from by decide, show pm_cmp .ge (nI 5) (nI 7) = false from by decide, show (nI 5).toNatClampNeg = 5 from by decide]
    rfl
  · unfold stM
    rw [show pm_cmp .ne (nI 1005) (nI 3000) = true from by decide, show pm_cmp .lt (nI 1005) (nI 2000) = true from by decide, show pm_cmp .lt (nI 1005) (nI 1000) = false from by decide, show (nI 1005 - nI 1000).toNatClampNeg = 5 from by decide]
    rfl
theorem let_100 (A : Nat → Int32) (s : List Int32) : stX q cc gc A s (-(nI 100)) = A 6 :: s ∧ stM q cc gc A s (nI 1006) = A 6 :: s := by
  constructor
  · unfold stX
    have e : v67 q cc gc (nI 100) = nI 6 := by
      unfold v67
      rw [show pm_cmp .eq (nI 100) (nI 100) = true from by decide]
      try rfl
    rw [show pm_cmp .lt (-(nI 100)) 0 = true from by decide, show -(-(nI 100)) = nI 100 from by decide, e, show pm_cmp .lt (nI 6) 0 = false from by decide, show pm_cmp .ge (nI 6) (nI 7) = false from by decide, show (nI 6).toNatClampNeg = 6 from by decide]
    rfl
  · unfold stM
    rw [show pm_cmp .ne (nI 1006) (nI 3000) = true from by decide, show pm_cmp .lt (nI 1006) (nI 2000) = true from by decide, show pm_cmp .lt (nI 1006) (nI 1000) = false from by decide, show (nI 1006 - nI 1000).toNatClampNeg = 6 from by decide]
    rfl
theorem den_let {x : Int32} (z : zlet x = true) : den q cc gc [-x] [rlt x] := by
  have z : x = nI 119 ∨ x = nI 107 ∨ x = nI 114 ∨ x = nI 115 ∨ x = nI 104 ∨ x = nI 101 ∨ x = nI 100 := of_decide_eq_true z
  rcases z with rfl | rfl | rfl | rfl | rfl | rfl | rfl
  · rw [show rlt (nI 119) = nI 1000 from by decide +kernel]
    exact ⟨fun A => A 0, fun A s => let_119 A s⟩
  · rw [show rlt (nI 107) = nI 1001 from by decide +kernel]
    exact ⟨fun A => A 1, fun A s => let_107 A s⟩
  · rw [show rlt (nI 114) = nI 1002 from by decide +kernel]
    exact ⟨fun A => A 2, fun A s => let_114 A s⟩
  · rw [show rlt (nI 115) = nI 1003 from by decide +kernel]
    exact ⟨fun A => A 3, fun A s => let_115 A s⟩
  · rw [show rlt (nI 104) = nI 1004 from by decide +kernel]
    exact ⟨fun A => A 4, fun A s => let_104 A s⟩
  · rw [show rlt (nI 101) = nI 1005 from by decide +kernel]
    exact ⟨fun A => A 5, fun A s => let_101 A s⟩
  · rw [show rlt (nI 100) = nI 1006 from by decide +kernel]
    exact ⟨fun A => A 6, fun A s => let_100 A s⟩
theorem den_num {k : Nat} (hk : k < 1000) : den q cc gc [nI k] [nI k] := by
  refine ⟨fun _ => nI k, fun A s => ⟨?_, ?_⟩⟩
  · show stX q cc gc A s (nI k) = _
    unfold stX
    rw [show pm_cmp .lt (nI k) 0 = false from (hI_lt (a := k) (b := 0) (by omega) (by decide)).trans (decide_eq_false (by omega))]
    rfl
  · show stM q cc gc A s (nI k) = _
    unfold stM
    rw [show pm_cmp .ne (nI k) (nI 3000) = true from (hI_ne (by omega) (by decide)).trans (decide_eq_true (by omega)), show pm_cmp .lt (nI k) (nI 2000) = true from (hI_lt (by omega) (by decide)).trans (decide_eq_true (by omega)), show pm_cmp .lt (nI k) (nI 1000) = true from (hI_lt (by omega) (by decide)).trans (decide_eq_true (by omega))]
    rfl
theorem dg_nI {p : Nat} (z : dg f p t = true) : ∃ d, d < 10 ∧ f p - nI 48 = nI d := by
  obtain ⟨h1, h2⟩ := dg_val z
  obtain ⟨j, e, -, hj⟩ := hI_of h1
  exact ⟨j, by omega, e⟩
theorem num_s (a d : Nat) : (10 : Int32) * nI a + nI d = nI (10 * a + d) := by
  rw [show (10 : Int32) = nI 10 from rfl, hI_mul, nI_add]
theorem znv_1 (p a : Nat) (ha : a ≤ 99) : ∃ b, znv f t 1 p (nI a) = nI b ∧ b < 1000 := by
  show ∃ b, cond (dg f p t) (10 * nI a + (f p - nI 48)) (nI a) = nI b ∧ b < 1000
  cases z : dg f p t with
  | false => exact ⟨a, rfl, by omega⟩
  | true =>
    obtain ⟨d, hd, e⟩ := dg_nI z
    rw [e, num_s]
    exact ⟨10 * a + d, rfl, by omega⟩
theorem znv_2 (p a : Nat) (ha : a ≤ 9) : ∃ b, znv f t 2 p (nI a) = nI b ∧ b < 1000 := by
  show ∃ b, cond (dg f p t) (znv f t 1 (p + 1) (10 * nI a + (f p - nI 48))) (nI a) = nI b ∧ b < 1000
  cases z : dg f p t with
  | false => exact ⟨a, rfl, by omega⟩
  | true =>
    obtain ⟨d, hd, e⟩ := dg_nI z
    rw [e, num_s]
    exact znv_1 (p + 1) (10 * a + d) (by omega)
theorem znv_3 (p : Nat) : ∃ b, znv f t 3 p 0 = nI b ∧ b < 1000 := by
  show ∃ b, cond (dg f p t) (znv f t 2 (p + 1) (10 * 0 + (f p - nI 48))) 0 = nI b ∧ b < 1000
  cases z : dg f p t with
  | false => exact ⟨0, rfl, by omega⟩
  | true =>
    obtain ⟨d, hd, e⟩ := dg_nI z
    rw [e, show (0 : Int32) = nI 0 from rfl, num_s]
    exact znv_2 (p + 1) (10 * 0 + d) (by omega)
theorem znv_nbr : ∀ (k p : Nat) (v : Int32), (nbr f t k p v).2 = znv f t k p v
  | 0, _, _ => rfl
  | k + 1, p, v => by
    show (cond (dg f p t) (nbr f t k (p + 1) (10 * v + f p - 48)) (p, v)).2 = cond (dg f p t) (znv f t k (p + 1) (10 * v + (f p - nI 48))) v
    cases dg f p t with
    | false => rfl
    | true =>
      have e : 10 * v + f p - 48 = 10 * v + (f p - nI 48) := by
        rw [Int32.sub_eq_add_neg, Int32.sub_eq_add_neg, Int32.add_assoc]
        rfl
      rw [e]
      exact znv_nbr k (p + 1) _
/-- a thing -/
theorem den_th {st : Nat → Bool × Nat} {sc rc : Nat → List Int32} {ns p : Nat} (hs : ∀ p, (st p).1 = true → den q cc gc (sc p) (rc p)) (e : (zth st f t ns p).1 = true) : den q cc gc (cth sc f t p) (rth rc f t p) := by
  unfold zth at e
  unfold cth rth
  cases z1 : dg f p t with
  | true =>
    obtain ⟨b, eb, hb⟩ := znv_3 (f := f) (t := t) p
    show den q cc gc [znv f t 3 p 0] [(nbr f t 3 p 0).2]
    rw [znv_nbr, eb]
    exact den_num hb
  | false =>
    rw [z1] at e
    cases z2 : (decide (p < t) && zlet (f p)) with
    | true =>
      rw [Bool.and_eq_true] at z2
      exact den_let z2.2
    | false =>
      rw [z2] at e
      cases z3 : (decide (p < t ∧ f p = nI 40) && decide (ns < 4)) with
      | false =>
        rw [z3] at e
        cases e
      | true =>
        rw [z3] at e
        cases z4 : ((st (p + 1)).1 && decide ((st (p + 1)).2 < t ∧ f (st (p + 1)).2 = nI 41)) with
        | false =>
          rw [z4] at e
          cases e
        | true =>
          rw [Bool.and_eq_true] at z4
          exact hs (p + 1) z4.1
theorem neg_M (A : Nat → Int32) (v : Int32) (s : List Int32) : stM q cc gc A (v :: s) (nI 3000) = -v :: s := by
  unfold stM
  rw [show pm_cmp .ne (nI 3000) (nI 3000) = false from by decide]
  rfl
theorem neg_X (A : Nat → Int32) (v : Int32) (s : List Int32) : stX q cc gc A (v :: s) (Int32.ofInt (-126)) = -v :: s := by
  unfold stX
  have e : v67 q cc gc (-(Int32.ofInt (-126))) = Int32.ofInt (-1) := by
    rw [show -(Int32.ofInt (-126)) = nI 126 from by decide]
    unfold v67
    rw [show pm_cmp .eq (nI 126) (nI 100) = false from by decide, show pm_cmp .eq (nI 126) (nI 101) = false from by decide, show pm_cmp .eq (nI 126) (nI 104) = false from by decide, show pm_cmp .eq (nI 126) (nI 107) = false from by decide, show pm_cmp .eq (nI 126) (nI 114) = false from by decide, show pm_cmp .eq (nI 126) (nI 115) = false from by decide, show pm_cmp .eq (nI 126) (nI 119) = false from by decide]
    rfl
  rw [show pm_cmp .lt (Int32.ofInt (-126)) 0 = true from by decide, e, show pm_cmp .lt (Int32.ofInt (-1)) 0 = true from by decide]
  show stO q cc gc (v :: s) (Int32.ofInt (-126)) = _
  unfold stO
  rw [show pm_cmp .ne (Int32.ofInt (-126)) (Int32.ofInt (-126)) = false from by decide]
  rfl
theorem neg_neg32 (v : Int32) : -(-v) = v := Int32.neg_neg
theorem neg_rep (A : Nat → Int32) : ∀ (k : Nat) (v : Int32) (s : List Int32), (List.replicate k (nI 3000)).foldl (stM q cc gc A) (v :: s) = cond (decide (k % 2 = 1)) (-v) v :: s
  | 0, _, _ => rfl
  | k + 1, v, s => by
    rw [List.replicate_succ, List.foldl_cons, neg_M, neg_rep A k]
    by_cases z : k % 2 = 1
    · rw [decide_eq_true z, decide_eq_false (by omega)]
      show -(-v) :: s = v :: s
      rw [neg_neg32]
    · rw [decide_eq_false z, decide_eq_true (by omega)]
      rfl
theorem zng_par : ∀ (k p : Nat) (b : Bool), zng f t k p b = cond (decide ((zmi f t k p - p) % 2 = 1)) (!b) b
  | 0, p, b => by
    show b = cond (decide ((p - p) % 2 = 1)) (!b) b
    rw [Nat.sub_self]
    rfl
  | k + 1, p, b => by
    show cond (decide (p < t ∧ f p = nI 45)) (zng f t k (p + 1) (!b)) b = cond (decide ((cond (decide (p < t ∧ f p = nI 45)) (zmi f t k (p + 1)) p - p) % 2 = 1)) (!b) b
    cases decide (p < t ∧ f p = nI 45) with
    | false =>
      show b = cond (decide ((p - p) % 2 = 1)) (!b) b
      rw [Nat.sub_self]
      rfl
    | true =>
      show zng f t k (p + 1) (!b) = cond (decide ((zmi f t k (p + 1) - p) % 2 = 1)) (!b) b
      rw [zng_par k (p + 1) (!b)]
      have hg := zmi_ge (f := f) (t := t) k (p + 1)
      by_cases z : (zmi f t k (p + 1) - (p + 1)) % 2 = 1
      · rw [decide_eq_true z, decide_eq_false (by omega)]
        cases b <;> rfl
      · rw [decide_eq_false z, decide_eq_true (by omega)]
        rfl
theorem den_neg (k : Nat) : denL q cc gc (cond (decide (k % 2 = 1)) [Int32.ofInt (-126)] []) (List.replicate k (nI 3000)) := by
  refine ⟨fun _ v => cond (decide (k % 2 = 1)) (-v) v, fun A v s => ⟨?_, neg_rep A k v s⟩⟩
  cases decide (k % 2 = 1) with
  | true => exact neg_X (q := q) (cc := cc) (gc := gc) A v s
  | false => rfl
/-- operations of one level, one behind the other -/
theorem den_lp {st : Nat → Bool × Nat} {sc rc : Nat → List Int32} {o : Nat} (ho : o < 3) (hs : ∀ p, (st p).1 = true → den q cc gc (sc p) (rc p)) : ∀ (k p : Nat), (zlp st f t o k p).1 = true → denL q cc gc (clp sc st f t o k p) (rlp rc st f t o k p)
  | 0, _, _ => denL_nil
  | k + 1, p, e => by
    have e : (cond (decide (p < t) && zlev o (f p)) (cond (st (p + 1)).1 (zlp st f t o k (st (p + 1)).2) (false, (st (p + 1)).2)) (true, p)).1 = true := e
    show denL q cc gc (cond (decide (p < t) && zlev o (f p)) (sc (p + 1) ++ (-(f p)) :: clp sc st f t o k (st (p + 1)).2) []) (cond (decide (p < t) && zlev o (f p)) (rc (p + 1) ++ rop o (f p) :: rlp rc st f t o k (st (p + 1)).2) [])
    cases z1 : (decide (p < t) && zlev o (f p)) with
    | false => exact denL_nil
    | true =>
      rw [z1] at e
      cases z2 : (st (p + 1)).1 with
      | false =>
        rw [z2] at e
        cases e
      | true =>
        rw [z2] at e
        rw [Bool.and_eq_true] at z1
        obtain ⟨J, hJ⟩ := op_lev (q := q) (cc := cc) (gc := gc) ho z1.2
        exact denL_op (hs (p + 1) z2) hJ (den_lp ho hs k (st (p + 1)).2 e)
theorem den_all : ∀ (m o ns p : Nat), o ≤ 3 → (pz f t m o ns p).1 = true → den q cc gc (pc f t m o ns p) (pr f t m o ns p)
  | 0, _, _, _, _, e => by cases e
  | m + 1, o, ns, p, ho, e => by
    have e : (cond (Nat.ble 3 o) (zth (pz f t m 0 (ns + 1)) f t ns (zmi f t 40 p)) (cond (pz f t m (o + 1) ns p).1 (zlp (pz f t m (o + 1) ns) f t o (cond (Nat.beq o 0) 1 40) (pz f t m (o + 1) ns p).2) (false, (pz f t m (o + 1) ns p).2))).1 = true := e
    show den q cc gc (cond (Nat.ble 3 o) (cth (pc f t m 0 (ns + 1)) f t (zmi f t 40 p) ++ cond (zng f t 40 p false) [Int32.ofInt (-126)] []) (pc f t m (o + 1) ns p ++ clp (pc f t m (o + 1) ns) (pz f t m (o + 1) ns) f t o (cond (Nat.beq o 0) 1 40) (pz f t m (o + 1) ns p).2)) (cond (Nat.ble 3 o) (rth (pr f t m 0 (ns + 1)) f t (zmi f t 40 p) ++ List.replicate (zmi f t 40 p - p) (nI 3000)) (pr f t m (o + 1) ns p ++ rlp (pr f t m (o + 1) ns) (pz f t m (o + 1) ns) f t o (cond (Nat.beq o 0) 1 40) (pz f t m (o + 1) ns p).2))
    cases z1 : Nat.ble 3 o with
    | true =>
      rw [z1] at e
      have h1 := den_th (q := q) (cc := cc) (gc := gc) (sc := pc f t m 0 (ns + 1)) (rc := pr f t m 0 (ns + 1)) (fun p y => den_all m 0 (ns + 1) p (by omega) y) e
      have h2 : zng f t 40 p false = decide ((zmi f t 40 p - p) % 2 = 1) := by
        rw [zng_par]
        cases decide ((zmi f t 40 p - p) % 2 = 1) <;> rfl
      rw [h2]
      exact den_app h1 (den_neg _)
    | false =>
      rw [z1] at e
      have e : (cond (pz f t m (o + 1) ns p).1 (zlp (pz f t m (o + 1) ns) f t o (cond (Nat.beq o 0) 1 40) (pz f t m (o + 1) ns p).2) (false, (pz f t m (o + 1) ns p).2)).1 = true := e
      have ho2 : o < 3 := by
        rcases Nat.lt_or_ge o 3 with y | y
        · exact y
        · rw [Nat.ble_eq_true_of_le y] at z1
          cases z1
      cases z2 : (pz f t m (o + 1) ns p).1 with
      | false =>
        rw [z2] at e
        cases e
      | true =>
        rw [z2] at e
        exact den_app (den_all m (o + 1) ns p (by omega) z2) (den_lp ho2 (fun p y => den_all m (o + 1) ns p (by omega) y) _ _ e)
end DEN
end MG95zzyax1
section MG95zzyax2
/-! what evaluations answer -/
section EVA
variable {cc gc : Nat} {q : QT} {h : pm_H} {s : List Int32}
def stkX (o : Nat) (h : pm_H) (s : List Int32) : Prop := Fi h o 3 = nI s.length ∧ ∀ j, j < s.length → s[j]? = some (Ar h (o + 2) (s.length - 1 - j))
def evl (st : List Int32 → Int32 → List Int32) (C : Nat → Int32) : Nat → List Int32
  | 0 => []
  | i + 1 => st (evl st C i) (C i)
theorem stX_len {A : Nat → Int32} {c : Int32} : (stX q cc gc A s c).length ≤ s.length + 1 := by
  have opn : (stO q cc gc s c).length ≤ s.length + 1 := by
    unfold stO
    cases pm_cmp .ne c (Int32.ofInt (-126)) with
    | true =>
      show s.tail.tail.length + 1 ≤ _
      rw [List.length_tail, List.length_tail]
      omega
    | false =>
      show s.tail.length + 1 ≤ _
      rw [List.length_tail]
      omega
  unfold stX
  cases pm_cmp .lt c 0 with
  | false => exact Nat.le_refl _
  | true =>
    cases pm_cmp .lt (v67 q cc gc (-c)) 0 with
    | true => exact opn
    | false =>
      cases pm_cmp .ge (v67 q cc gc (-c)) (nI 7) with
      | true => exact opn
      | false => exact Nat.le_refl _
theorem evl_len {A C : Nat → Int32} : ∀ i, (evl (stX q cc gc A) C i).length ≤ i
  | 0 => Nat.le_refl _
  | i + 1 => Nat.le_trans stX_len (Nat.add_le_add_right (evl_len i) 1)
theorem evl_take (st : List Int32 → Int32 → List Int32) (C : Nat → Int32) (cs : List Int32) (hc : ∀ j, j < cs.length → cs[j]? = some (C j)) : ∀ k, k ≤ cs.length → evl st C k = (cs.take k).foldl st []
  | 0, _ => rfl
  | k + 1, hk => by
    rw [List.take_succ, hc k hk, List.foldl_append, ← evl_take st C cs hc k (by omega)]
    rfl
theorem evl_fold (st : List Int32 → Int32 → List Int32) (C : Nat → Int32) (cs : List Int32) (hc : ∀ j, j < cs.length → cs[j]? = some (C j)) : evl st C cs.length = cs.foldl st [] := by
  rw [evl_take st C cs hc cs.length (Nat.le_refl _), List.take_length]
theorem pusha {v : Int32} (hc : HC q cc gc h) (hl : s.length < 40) (k : stkX 142 h s) : HC q cc gc (v69a q cc gc h v) ∧ frm [144, 142] [(142, 3)] h (v69a q cc gc h v) ∧ stkX 142 (v69a q cc gc h v) (v :: s) := by
  have e : v69a q cc gc h v = fset (aset h 144 40 (upd (Ar h 144) s.length v)) 142 3 (.int (nI (s.length + 1))) := by
    unfold v69a
    rw [k.1, hI_ge (by omega) (by decide), decide_eq_false (by omega), nI_clamp (by omega), nI_add]
    rfl
  have h1 : HC q cc gc (aset h 144 40 (upd (Ar h 144) s.length v)) := hc_a rfl rfl hc
  rw [e]
  refine ⟨hc_f rfl rfl (by decide) rfl h1, fr_f rfl rfl (fr_a rfl rfl fr_0), Fi_s h1.wt (by decide) rfl (by decide) rfl, fun j hj => ?_⟩
  rw [show Ar (fset (aset h 144 40 (upd (Ar h 144) s.length v)) 142 3 (.int (nI (s.length + 1)))) 144 = upd (Ar h 144) s.length v from Ar_f.trans Ar_s]
  cases j with
  | zero =>
    show some v = some (upd (Ar h 144) s.length v (s.length + 1 - 1 - 0))
    unfold upd
    rw [if_pos (by omega)]
  | succ j =>
    have hj : j + 1 < s.length + 1 := hj
    show s[j]? = some (upd (Ar h 144) s.length v (s.length + 1 - 1 - (j + 1)))
    unfold upd
    rw [if_neg (by omega), k.2 j (by omega)]
    rw [show s.length + 1 - 1 - (j + 1) = s.length - 1 - j by omega]
theorem nI_s1 (n : Nat) : nI (n + 1) - nI 1 = nI n := nI_pred n
theorem popa (hc : HC q cc gc h) (hl : s.length < 100) (k : stkX 142 h s) : (v70a q cc gc h).1 = s.headD 0 ∧ HC q cc gc (v70a q cc gc h).2 ∧ frm [144, 142] [(142, 3)] h (v70a q cc gc h).2 ∧ stkX 142 (v70a q cc gc h).2 s.tail := by
  cases s with
  | nil =>
    have e : v70a q cc gc h = (nI 0, h) := by
      unfold v70a
      rw [k.1, show pm_cmp .gt (nI ([] : List Int32).length) 0 = false from by decide]
      rfl
    rw [e]
    exact ⟨rfl, hc, fr_0, k⟩
  | cons x r =>
    have hl : r.length + 1 < 100 := hl
    have k1 : Fi h 142 3 = nI (r.length + 1) := k.1
    have e : v70a q cc gc h = (Ar h 144 r.length, fset h 142 3 (.int (nI r.length))) := by
      unfold v70a
      rw [k1, show pm_cmp .gt (nI (r.length + 1)) 0 = true from (hI_gt (a := r.length + 1) (b := 0) (by omega) (by decide)).trans (decide_eq_true (by omega)), show nI (r.length + 1) - nI 1 = nI r.length from nI_s1 _, nI_clamp (by omega)]
      rfl
    have k2 : ∀ j, j < r.length + 1 → (x :: r)[j]? = some (Ar h 144 (r.length + 1 - 1 - j)) := k.2
    rw [e]
    refine ⟨?_, hc_f rfl rfl (by decide) rfl hc, fr_f rfl rfl fr_0, Fi_s hc.wt (by decide) rfl (by decide) rfl, fun j hj => ?_⟩
    · have q := k2 0 (by omega)
      rw [show r.length + 1 - 1 - 0 = r.length by omega] at q
      exact (Option.some.inj q).symm
    · have hj : j < r.length := hj
      have q := k2 (j + 1) (by omega)
      rw [show r.length + 1 - 1 - (j + 1) = r.length - 1 - j by omega] at q
      show r[j]? = some (Ar (fset h 142 3 (.int (nI r.length))) 144 (r.length - 1 - j))
      rw [Ar_f]
      exact q
theorem stepa {z i : Nat} (hc : HC q cc gc h) (hl : s.length < 40) (k : stkX 142 h s) : HC q cc gc (v68a_7b q cc gc h z i) ∧ frm [144, 142] [(142, 3)] h (v68a_7b q cc gc h z i) ∧ stkX 142 (v68a_7b q cc gc h z i) (stX q cc gc (Ar h 12) s (Ar h 143 i)) := by
  have opn : HC q cc gc (cond (pm_cmp .ne ((Ar h 143) i) (Int32.ofInt (-126))) (v69a q cc gc ((v70a q cc gc ((v70a q cc gc h).2)).2) (v71 q cc gc (-((Ar h 143) i)) ((v70a q cc gc ((v70a q cc gc h).2)).1) ((v70a q cc gc h).1))) (v69a q cc gc ((v70a q cc gc h).2) (-((v70a q cc gc h).1)))) ∧ frm [144, 142] [(142, 3)] h (cond (pm_cmp .ne ((Ar h 143) i) (Int32.ofInt (-126))) (v69a q cc gc ((v70a q cc gc ((v70a q cc gc h).2)).2) (v71 q cc gc (-((Ar h 143) i)) ((v70a q cc gc ((v70a q cc gc h).2)).1) ((v70a q cc gc h).1))) (v69a q cc gc ((v70a q cc gc h).2) (-((v70a q cc gc h).1)))) ∧ stkX 142 (cond (pm_cmp .ne ((Ar h 143) i) (Int32.ofInt (-126))) (v69a q cc gc ((v70a q cc gc ((v70a q cc gc h).2)).2) (v71 q cc gc (-((Ar h 143) i)) ((v70a q cc gc ((v70a q cc gc h).2)).1) ((v70a q cc gc h).1))) (v69a q cc gc ((v70a q cc gc h).2) (-((v70a q cc gc h).1)))) (stO q cc gc s (Ar h 143 i)) := by
    obtain ⟨p1, p2, p3, p4⟩ := popa hc (by omega) k
    have hl1 : s.tail.length ≤ s.length := by rw [List.length_tail]; omega
    obtain ⟨r1, r2, r3, r4⟩ := popa p2 (by omega) p4
    have hl2 : s.tail.tail.length ≤ s.tail.length := by rw [List.length_tail]; omega
    unfold stO
    rw [p1, r1]
    cases pm_cmp .ne ((Ar h 143) i) (Int32.ofInt (-126)) with
    | true =>
      simp only [cond_true]
      obtain ⟨a1, a2, a3⟩ := pusha (v := v71 q cc gc (-((Ar h 143) i)) (s.tail.headD 0) (s.headD 0)) r2 (by omega) r4
      exact ⟨a1, fr_t a2 (fr_t r3 p3), a3⟩
    | false =>
      simp only [cond_false]
      obtain ⟨a1, a2, a3⟩ := pusha (v := -(s.headD 0)) p2 (by omega) p4
      exact ⟨a1, fr_t a2 p3, a3⟩
  cases z1 : pm_cmp .lt ((Ar h 143) i) 0 with
  | false =>
    have e1 : v68a_7b q cc gc h z i = v69a q cc gc h ((Ar h 143) i) := by
      unfold v68a_7b
      rw [z1, cond_false]
    have e2 : stX q cc gc (Ar h 12) s ((Ar h 143) i) = (Ar h 143) i :: s := by
      unfold stX
      rw [z1, cond_false]
    rw [e1, e2]
    exact pusha hc hl k
  | true =>
    cases z2 : pm_cmp .lt (v67 q cc gc (-((Ar h 143) i))) 0 with
    | true =>
      have e1 : v68a_7b q cc gc h z i = cond (pm_cmp .ne ((Ar h 143) i) (Int32.ofInt (-126))) (v69a q cc gc ((v70a q cc gc ((v70a q cc gc h).2)).2) (v71 q cc gc (-((Ar h 143) i)) ((v70a q cc gc ((v70a q cc gc h).2)).1) ((v70a q cc gc h).1))) (v69a q cc gc ((v70a q cc gc h).2) (-((v70a q cc gc h).1))) := by
        unfold v68a_7b
        rw [z1, cond_true, z2, cond_true]
      have e2 : stX q cc gc (Ar h 12) s ((Ar h 143) i) = stO q cc gc s ((Ar h 143) i) := by
        unfold stX
        rw [z1, cond_true, z2, cond_true]
      rw [e1, e2]
      exact opn
    | false =>
      cases z3 : pm_cmp .ge (v67 q cc gc (-((Ar h 143) i))) (nI 7) with
      | true =>
        have e1 : v68a_7b q cc gc h z i = cond (pm_cmp .ne ((Ar h 143) i) (Int32.ofInt (-126))) (v69a q cc gc ((v70a q cc gc ((v70a q cc gc h).2)).2) (v71 q cc gc (-((Ar h 143) i)) ((v70a q cc gc ((v70a q cc gc h).2)).1) ((v70a q cc gc h).1))) (v69a q cc gc ((v70a q cc gc h).2) (-((v70a q cc gc h).1))) := by
          unfold v68a_7b
          rw [z1, cond_true, z2, cond_false, z3, cond_true]
        have e2 : stX q cc gc (Ar h 12) s ((Ar h 143) i) = stO q cc gc s ((Ar h 143) i) := by
          unfold stX
          rw [z1, cond_true, z2, cond_false, z3, cond_true]
        rw [e1, e2]
        exact opn
      | false =>
        have e1 : v68a_7b q cc gc h z i = v69a q cc gc h (Ar h 12 ((v67 q cc gc (-((Ar h 143) i))).toNatClampNeg)) := by
          unfold v68a_7b
          rw [z1, cond_true, z2, cond_false, z3, cond_false]
        have e2 : stX q cc gc (Ar h 12) s ((Ar h 143) i) = Ar h 12 ((v67 q cc gc (-((Ar h 143) i))).toNatClampNeg) :: s := by
          unfold stX
          rw [z1, cond_true, z2, cond_false, z3, cond_false]
        rw [e1, e2]
        exact pusha hc hl k
theorem evA {z : Nat} (hz : z ≤ 40) (hc : HC q cc gc h) : (v68a q cc gc h z).1 = (evl (stX q cc gc (Ar h 12)) (Ar h 143) z).headD 0 := by
  have h0 : HC q cc gc (fset h 142 3 (.int (nI 0))) := hc_f rfl rfl (by decide) rfl hc
  have q := lp_in (f := fun i a => v68a_7b q cc gc a z i) (P := fun i g => HC q cc gc g ∧ frm [144, 142] [(142, 3)] h g ∧ stkX 142 g (evl (stX q cc gc (Ar h 12)) (Ar h 143) i)) z 0 (fset h 142 3 (.int (nI 0))) ⟨h0, fr_f rfl rfl fr_0, Fi_s hc.wt (by decide) rfl (by decide) rfl, fun j hj => absurd hj (Nat.not_lt_zero j)⟩ (fun i g _ hi p => by
    obtain ⟨p1, p2, p3⟩ := p
    have hl := evl_len (q := q) (cc := cc) (gc := gc) (A := Ar h 12) (C := Ar h 143) i
    obtain ⟨a1, a2, a3⟩ := stepa (z := z) (i := i) p1 (by omega) p3
    rw [Ar_e (p2.1 12 rfl), Ar_e (p2.1 143 rfl)] at a3
    exact ⟨a1, fr_t a2 p2, a3⟩)
  rw [Nat.zero_add] at q
  obtain ⟨p1, p2, p3⟩ := q
  have hl := evl_len (q := q) (cc := cc) (gc := gc) (A := Ar h 12) (C := Ar h 143) z
  exact (popa p1 (by omega) p3).1
theorem pushb {v : Int32} (hc : HC q cc gc h) (hl : s.length < 40) (k : stkX 145 h s) : HC q cc gc (v69b q cc gc h v) ∧ frm [147, 145] [(145, 3)] h (v69b q cc gc h v) ∧ stkX 145 (v69b q cc gc h v) (v :: s) := by
  have e : v69b q cc gc h v = fset (aset h 147 40 (upd (Ar h 147) s.length v)) 145 3 (.int (nI (s.length + 1))) := by
    unfold v69b
    rw [k.1, hI_ge (by omega) (by decide), decide_eq_false (by omega), nI_clamp (by omega), nI_add]
    rfl
  have h1 : HC q cc gc (aset h 147 40 (upd (Ar h 147) s.length v)) := hc_a rfl rfl hc
  rw [e]
  refine ⟨hc_f rfl rfl (by decide) rfl h1, fr_f rfl rfl (fr_a rfl rfl fr_0), Fi_s h1.wt (by decide) rfl (by decide) rfl, fun j hj => ?_⟩
  rw [show Ar (fset (aset h 147 40 (upd (Ar h 147) s.length v)) 145 3 (.int (nI (s.length + 1)))) 147 = upd (Ar h 147) s.length v from Ar_f.trans Ar_s]
  cases j with
  | zero =>
    show some v = some (upd (Ar h 147) s.length v (s.length + 1 - 1 - 0))
    unfold upd
    rw [if_pos (by omega)]
  | succ j =>
    have hj : j + 1 < s.length + 1 := hj
    show s[j]? = some (upd (Ar h 147) s.length v (s.length + 1 - 1 - (j + 1)))
    unfold upd
    rw [if_neg (by omega), k.2 j (by omega)]
    rw [show s.length + 1 - 1 - (j + 1) = s.length - 1 - j by omega]
theorem popb (hc : HC q cc gc h) (hl : s.length < 100) (k : stkX 145 h s) : (v70b q cc gc h).1 = s.headD 0 ∧ HC q cc gc (v70b q cc gc h).2 ∧ frm [147, 145] [(145, 3)] h (v70b q cc gc h).2 ∧ stkX 145 (v70b q cc gc h).2 s.tail := by
  cases s with
  | nil =>
    have e : v70b q cc gc h = (nI 0, h) := by
      unfold v70b
      rw [k.1, show pm_cmp .gt (nI ([] : List Int32).length) 0 = false from by decide]
      rfl
    rw [e]
    exact ⟨rfl, hc, fr_0, k⟩
  | cons x r =>
    have hl : r.length + 1 < 100 := hl
    have k1 : Fi h 145 3 = nI (r.length + 1) := k.1
    have e : v70b q cc gc h = (Ar h 147 r.length, fset h 145 3 (.int (nI r.length))) := by
      unfold v70b
      rw [k1, show pm_cmp .gt (nI (r.length + 1)) 0 = true from (hI_gt (a := r.length + 1) (b := 0) (by omega) (by decide)).trans (decide_eq_true (by omega)), show nI (r.length + 1) - nI 1 = nI r.length from nI_s1 _, nI_clamp (by omega)]
      rfl
    have k2 : ∀ j, j < r.length + 1 → (x :: r)[j]? = some (Ar h 147 (r.length + 1 - 1 - j)) := k.2
    rw [e]
    refine ⟨?_, hc_f rfl rfl (by decide) rfl hc, fr_f rfl rfl fr_0, Fi_s hc.wt (by decide) rfl (by decide) rfl, fun j hj => ?_⟩
    · have q := k2 0 (by omega)
      rw [show r.length + 1 - 1 - 0 = r.length by omega] at q
      exact (Option.some.inj q).symm
    · have hj : j < r.length := hj
      have q := k2 (j + 1) (by omega)
      rw [show r.length + 1 - 1 - (j + 1) = r.length - 1 - j by omega] at q
      show r[j]? = some (Ar (fset h 145 3 (.int (nI r.length))) 147 (r.length - 1 - j))
      rw [Ar_f]
      exact q
theorem stepb {z i : Nat} (hc : HC q cc gc h) (hl : s.length < 40) (k : stkX 145 h s) : HC q cc gc (v68b_7b q cc gc h z i) ∧ frm [147, 145] [(145, 3)] h (v68b_7b q cc gc h z i) ∧ stkX 145 (v68b_7b q cc gc h z i) (stX q cc gc (Ar h 12) s (Ar h 146 i)) := by
  have opn : HC q cc gc (cond (pm_cmp .ne ((Ar h 146) i) (Int32.ofInt (-126))) (v69b q cc gc ((v70b q cc gc ((v70b q cc gc h).2)).2) (v71 q cc gc (-((Ar h 146) i)) ((v70b q cc gc ((v70b q cc gc h).2)).1) ((v70b q cc gc h).1))) (v69b q cc gc ((v70b q cc gc h).2) (-((v70b q cc gc h).1)))) ∧ frm [147, 145] [(145, 3)] h (cond (pm_cmp .ne ((Ar h 146) i) (Int32.ofInt (-126))) (v69b q cc gc ((v70b q cc gc ((v70b q cc gc h).2)).2) (v71 q cc gc (-((Ar h 146) i)) ((v70b q cc gc ((v70b q cc gc h).2)).1) ((v70b q cc gc h).1))) (v69b q cc gc ((v70b q cc gc h).2) (-((v70b q cc gc h).1)))) ∧ stkX 145 (cond (pm_cmp .ne ((Ar h 146) i) (Int32.ofInt (-126))) (v69b q cc gc ((v70b q cc gc ((v70b q cc gc h).2)).2) (v71 q cc gc (-((Ar h 146) i)) ((v70b q cc gc ((v70b q cc gc h).2)).1) ((v70b q cc gc h).1))) (v69b q cc gc ((v70b q cc gc h).2) (-((v70b q cc gc h).1)))) (stO q cc gc s (Ar h 146 i)) := by
    obtain ⟨p1, p2, p3, p4⟩ := popb hc (by omega) k
    have hl1 : s.tail.length ≤ s.length := by rw [List.length_tail]; omega
    obtain ⟨r1, r2, r3, r4⟩ := popb p2 (by omega) p4
    have hl2 : s.tail.tail.length ≤ s.tail.length := by rw [List.length_tail]; omega
    unfold stO
    rw [p1, r1]
    cases pm_cmp .ne ((Ar h 146) i) (Int32.ofInt (-126)) with
    | true =>
      simp only [cond_true]
      obtain ⟨a1, a2, a3⟩ := pushb (v := v71 q cc gc (-((Ar h 146) i)) (s.tail.headD 0) (s.headD 0)) r2 (by omega) r4
      exact ⟨a1, fr_t a2 (fr_t r3 p3), a3⟩
    | false =>
      simp only [cond_false]
      obtain ⟨a1, a2, a3⟩ := pushb (v := -(s.headD 0)) p2 (by omega) p4
      exact ⟨a1, fr_t a2 p3, a3⟩
  cases z1 : pm_cmp .lt ((Ar h 146) i) 0 with
  | false =>
    have e1 : v68b_7b q cc gc h z i = v69b q cc gc h ((Ar h 146) i) := by
      unfold v68b_7b
      rw [z1, cond_false]
    have e2 : stX q cc gc (Ar h 12) s ((Ar h 146) i) = (Ar h 146) i :: s := by
      unfold stX
      rw [z1, cond_false]
    rw [e1, e2]
    exact pushb hc hl k
  | true =>
    cases z2 : pm_cmp .lt (v67 q cc gc (-((Ar h 146) i))) 0 with
    | true =>
      have e1 : v68b_7b q cc gc h z i = cond (pm_cmp .ne ((Ar h 146) i) (Int32.ofInt (-126))) (v69b q cc gc ((v70b q cc gc ((v70b q cc gc h).2)).2) (v71 q cc gc (-((Ar h 146) i)) ((v70b q cc gc ((v70b q cc gc h).2)).1) ((v70b q cc gc h).1))) (v69b q cc gc ((v70b q cc gc h).2) (-((v70b q cc gc h).1))) := by
        unfold v68b_7b
        rw [z1, cond_true, z2, cond_true]
      have e2 : stX q cc gc (Ar h 12) s ((Ar h 146) i) = stO q cc gc s ((Ar h 146) i) := by
        unfold stX
        rw [z1, cond_true, z2, cond_true]
      rw [e1, e2]
      exact opn
    | false =>
      cases z3 : pm_cmp .ge (v67 q cc gc (-((Ar h 146) i))) (nI 7) with
      | true =>
        have e1 : v68b_7b q cc gc h z i = cond (pm_cmp .ne ((Ar h 146) i) (Int32.ofInt (-126))) (v69b q cc gc ((v70b q cc gc ((v70b q cc gc h).2)).2) (v71 q cc gc (-((Ar h 146) i)) ((v70b q cc gc ((v70b q cc gc h).2)).1) ((v70b q cc gc h).1))) (v69b q cc gc ((v70b q cc gc h).2) (-((v70b q cc gc h).1))) := by
          unfold v68b_7b
          rw [z1, cond_true, z2, cond_false, z3, cond_true]
        have e2 : stX q cc gc (Ar h 12) s ((Ar h 146) i) = stO q cc gc s ((Ar h 146) i) := by
          unfold stX
          rw [z1, cond_true, z2, cond_false, z3, cond_true]
        rw [e1, e2]
        exact opn
      | false =>
        have e1 : v68b_7b q cc gc h z i = v69b q cc gc h (Ar h 12 ((v67 q cc gc (-((Ar h 146) i))).toNatClampNeg)) := by
          unfold v68b_7b
          rw [z1, cond_true, z2, cond_false, z3, cond_false]
        have e2 : stX q cc gc (Ar h 12) s ((Ar h 146) i) = Ar h 12 ((v67 q cc gc (-((Ar h 146) i))).toNatClampNeg) :: s := by
          unfold stX
          rw [z1, cond_true, z2, cond_false, z3, cond_false]
        rw [e1, e2]
        exact pushb hc hl k
theorem evB {z : Nat} (hz : z ≤ 40) (hc : HC q cc gc h) : (v68b q cc gc h z).1 = (evl (stX q cc gc (Ar h 12)) (Ar h 146) z).headD 0 := by
  have h0 : HC q cc gc (fset h 145 3 (.int (nI 0))) := hc_f rfl rfl (by decide) rfl hc
  have q := lp_in (f := fun i a => v68b_7b q cc gc a z i) (P := fun i g => HC q cc gc g ∧ frm [147, 145] [(145, 3)] h g ∧ stkX 145 g (evl (stX q cc gc (Ar h 12)) (Ar h 146) i)) z 0 (fset h 145 3 (.int (nI 0))) ⟨h0, fr_f rfl rfl fr_0, Fi_s hc.wt (by decide) rfl (by decide) rfl, fun j hj => absurd hj (Nat.not_lt_zero j)⟩ (fun i g _ hi p => by
    obtain ⟨p1, p2, p3⟩ := p
    have hl := evl_len (q := q) (cc := cc) (gc := gc) (A := Ar h 12) (C := Ar h 146) i
    obtain ⟨a1, a2, a3⟩ := stepb (z := z) (i := i) p1 (by omega) p3
    rw [Ar_e (p2.1 12 rfl), Ar_e (p2.1 146 rfl)] at a3
    exact ⟨a1, fr_t a2 p2, a3⟩)
  rw [Nat.zero_add] at q
  obtain ⟨p1, p2, p3⟩ := q
  have hl := evl_len (q := q) (cc := cc) (gc := gc) (A := Ar h 12) (C := Ar h 146) z
  exact (popb p1 (by omega) p3).1
/-- the reference's -/
def stkM (h : pm_H) (x : Int32) (s : List Int32) : Prop := x = nI s.length ∧ ∀ j, j < s.length → s[j]? = some (Ar h 176 (s.length - 1 - j))
theorem stkM_push {v : Int32} (hl : s.length < 80) (k : stkM h (nI s.length) s) : stkM (aset h 176 80 (upd (Ar h 176) s.length v)) (nI (s.length + 1)) (v :: s) := by
  refine ⟨rfl, fun j hj => ?_⟩
  rw [Ar_s]
  cases j with
  | zero =>
    show some v = some (upd (Ar h 176) s.length v (s.length + 1 - 1 - 0))
    unfold upd
    rw [if_pos (by omega)]
  | succ j =>
    have hj : j + 1 < s.length + 1 := hj
    show s[j]? = some (upd (Ar h 176) s.length v (s.length + 1 - 1 - (j + 1)))
    unfold upd
    rw [if_neg (by omega), k.2 j (by omega)]
    rw [show s.length + 1 - 1 - (j + 1) = s.length - 1 - j by omega]
theorem stkM_put {v y : Int32} {r : List Int32} (k : stkM h (nI (r.length + 1)) (y :: r)) : stkM (aset h 176 80 (upd (Ar h 176) r.length v)) (nI (r.length + 1)) (v :: r) := by
  refine ⟨rfl, fun j hj => ?_⟩
  have hj : j < r.length + 1 := hj
  rw [Ar_s]
  cases j with
  | zero =>
    show some v = some (upd (Ar h 176) r.length v (r.length + 1 - 1 - 0))
    unfold upd
    rw [if_pos (by omega)]
  | succ j =>
    show r[j]? = some (upd (Ar h 176) r.length v (r.length + 1 - 1 - (j + 1)))
    have q := k.2 (j + 1) hj
    have q : r[j]? = some (Ar h 176 (r.length + 1 - 1 - (j + 1))) := q
    unfold upd
    rw [if_neg (by omega)]
    exact q
theorem stkM_top {y x : Int32} {r : List Int32} (k : stkM h x (y :: r)) : Ar h 176 r.length = y := by
  have q := k.2 0 (Nat.succ_pos _)
  have q : some y = some (Ar h 176 (r.length + 1 - 1 - 0)) := q
  rw [show r.length + 1 - 1 - 0 = r.length by omega] at q
  exact (Option.some.inj q).symm
theorem stkM_pop {y x : Int32} {r : List Int32} (k : stkM h x (y :: r)) : stkM h (nI r.length) r := by
  refine ⟨rfl, fun j hj => ?_⟩
  have q := k.2 (j + 1) (Nat.succ_lt_succ hj)
  have q : r[j]? = some (Ar h 176 (r.length + 1 - 1 - (j + 1))) := q
  rw [show r.length + 1 - 1 - (j + 1) = r.length - 1 - j by omega] at q
  exact q
theorem m1_pre (n : Nat) : nI (n + 1) + Int32.ofInt (-1) = nI n := by
  rw [show nI (n + 1) = nI n + nI 1 from (nI_add n 1).symm, Int32.add_assoc, show nI 1 + Int32.ofInt (-1) = 0 from by decide]
  exact Int32.add_zero _
theorem cmp_ne {c : Int32} {k : Nat} : pm_cmp .ne c (nI k) = !decide (c = nI k) := by
  by_cases z : c = nI k
  · rw [decide_eq_true z]
    exact decide_eq_false (fun y => y z)
  · rw [decide_eq_false z]
    exact decide_eq_true z
theorem cmp_lt {c : Int32} {k : Nat} : pm_cmp .lt c (nI k) = !decide (nI k ≤ c) := by
  by_cases z : nI k ≤ c
  · rw [decide_eq_true z]
    exact decide_eq_false (fun y => Int32.not_lt.mpr z y)
  · rw [decide_eq_false z]
    exact decide_eq_true (Int32.not_le.mp z)
/-- a step of the reference's, where the stack holds enough -/
theorem stepM {i d d' : Nat} {x : Int32} (hc : HC q cc gc h) (hl : s.length < 80) (k : stkM h x s) (hd : s.length = d) (e : dst d (Ar h 174 i) = some d') : HC q cc gc (v200_4b q cc gc h i x).2 ∧ frm [176] [] h (v200_4b q cc gc h i x).2 ∧ stkM (v200_4b q cc gc h i x).2 (v200_4b q cc gc h i x).1 (stM q cc gc (Ar h 177) s (Ar h 174 i)) ∧ (stM q cc gc (Ar h 177) s (Ar h 174 i)).length = d' := by
  subst hd
  have kx := k.1
  subst kx
  unfold dst at e
  unfold v200_4b stM
  rw [show pm_cmp .ne (Ar h 174 i) (nI 3000) = !decide (Ar h 174 i = nI 3000) from cmp_ne, show pm_cmp .lt (Ar h 174 i) (nI 2000) = !decide (nI 2000 ≤ Ar h 174 i) from cmp_lt]
  by_cases z1 : Ar h 174 i = 3000
  · rw [if_pos z1] at e
    rw [decide_eq_true (show Ar h 174 i = nI 3000 from z1)]
    split at e
    · rename_i hs
      cases e
      cases s with
      | nil => exact absurd hs (by decide)
      | cons y r =>
        have hl : r.length + 1 < 80 := hl
        have e1 : nI (y :: r).length - nI 1 = nI r.length := nI_s1 r.length
        simp only [Bool.not_true, cond_false]
        rw [e1, nI_clamp (by omega), stkM_top k]
        exact ⟨hc_a rfl rfl hc, fr_a rfl rfl fr_0, stkM_put k, rfl⟩
    · cases e
  · rw [if_neg z1] at e
    rw [decide_eq_false (show ¬ Ar h 174 i = nI 3000 from z1)]
    by_cases z2 : 2000 ≤ Ar h 174 i
    · rw [if_pos z2] at e
      rw [decide_eq_true (show nI 2000 ≤ Ar h 174 i from z2)]
      split at e
      · rename_i hs
        cases e
        cases s with
        | nil => exact absurd hs.2 (by decide)
        | cons y r =>
          cases r with
          | nil => exact absurd hs.2 (show ¬ 2 ≤ 1 by decide)
          | cons w r =>
            have hl : r.length + 1 + 1 < 80 := hl
            have e1 : nI (y :: w :: r).length + Int32.ofInt (-1) = nI (r.length + 1) := m1_pre (r.length + 1)
            have e2 : nI (r.length + 1) - nI 1 = nI r.length := nI_s1 r.length
            have k1 := stkM_pop k
            have t1 : Ar h 176 (r.length + 1) = y := stkM_top k
            have t2 : Ar h 176 r.length = w := stkM_top k1
            have eb : ((nI (y :: w :: r).length + Int32.ofInt (-1)), aset h 176 80 (upd (Ar h 176) (((nI (y :: w :: r).length + Int32.ofInt (-1)) - (nI 1)).toNatClampNeg) (v199 q cc gc (((Ar h 174) i) - (nI 2000)) ((Ar h 176) (((nI (y :: w :: r).length + Int32.ofInt (-1)) - (nI 1)).toNatClampNeg)) ((Ar h 176) ((nI (y :: w :: r).length + Int32.ofInt (-1)).toNatClampNeg))))) = (nI (r.length + 1), aset h 176 80 (upd (Ar h 176) r.length (v199 q cc gc (((Ar h 174) i) - (nI 2000)) w y))) := by
              rw [e1, e2, nI_clamp (by omega), nI_clamp (by omega), t1, t2]
            show HC q cc gc (((nI (y :: w :: r).length + Int32.ofInt (-1)), aset h 176 80 (upd (Ar h 176) (((nI (y :: w :: r).length + Int32.ofInt (-1)) - (nI 1)).toNatClampNeg) (v199 q cc gc (((Ar h 174) i) - (nI 2000)) ((Ar h 176) (((nI (y :: w :: r).length + Int32.ofInt (-1)) - (nI 1)).toNatClampNeg)) ((Ar h 176) ((nI (y :: w :: r).length + Int32.ofInt (-1)).toNatClampNeg))))) : Int32 × pm_H).2 ∧ frm [176] [] h (((nI (y :: w :: r).length + Int32.ofInt (-1)), aset h 176 80 (upd (Ar h 176) (((nI (y :: w :: r).length + Int32.ofInt (-1)) - (nI 1)).toNatClampNeg) (v199 q cc gc (((Ar h 174) i) - (nI 2000)) ((Ar h 176) (((nI (y :: w :: r).length + Int32.ofInt (-1)) - (nI 1)).toNatClampNeg)) ((Ar h 176) ((nI (y :: w :: r).length + Int32.ofInt (-1)).toNatClampNeg))))) : Int32 × pm_H).2 ∧ stkM (((nI (y :: w :: r).length + Int32.ofInt (-1)), aset h 176 80 (upd (Ar h 176) (((nI (y :: w :: r).length + Int32.ofInt (-1)) - (nI 1)).toNatClampNeg) (v199 q cc gc (((Ar h 174) i) - (nI 2000)) ((Ar h 176) (((nI (y :: w :: r).length + Int32.ofInt (-1)) - (nI 1)).toNatClampNeg)) ((Ar h 176) ((nI (y :: w :: r).length + Int32.ofInt (-1)).toNatClampNeg))))) : Int32 × pm_H).2 (((nI (y :: w :: r).length + Int32.ofInt (-1)), aset h 176 80 (upd (Ar h 176) (((nI (y :: w :: r).length + Int32.ofInt (-1)) - (nI 1)).toNatClampNeg) (v199 q cc gc (((Ar h 174) i) - (nI 2000)) ((Ar h 176) (((nI (y :: w :: r).length + Int32.ofInt (-1)) - (nI 1)).toNatClampNeg)) ((Ar h 176) ((nI (y :: w :: r).length + Int32.ofInt (-1)).toNatClampNeg))))) : Int32 × pm_H).1 (v199 q cc gc (Ar h 174 i - nI 2000) w y :: r) ∧ (v199 q cc gc (Ar h 174 i - nI 2000) w y :: r).length = (y :: w :: r).length - 1
            rw [eb]
            exact ⟨hc_a rfl rfl hc, fr_a rfl rfl fr_0, stkM_put k1, rfl⟩
      · cases e
    · rw [if_neg z2] at e
      rw [decide_eq_false (show ¬ nI 2000 ≤ Ar h 174 i from z2)]
      have ee : d' = s.length + 1 := by
        split at e
        · split at e
          · cases e
            rfl
          · cases e
        · cases e
          rfl
      subst ee
      show HC q cc gc (aset h 176 80 (upd (Ar h 176) ((nI s.length).toNatClampNeg) (cond (pm_cmp .lt ((Ar h 174) i) (nI 1000)) ((Ar h 174) i) ((Ar h 177) ((((Ar h 174) i) - (nI 1000)).toNatClampNeg))))) ∧ frm [176] [] h (aset h 176 80 (upd (Ar h 176) ((nI s.length).toNatClampNeg) (cond (pm_cmp .lt ((Ar h 174) i) (nI 1000)) ((Ar h 174) i) ((Ar h 177) ((((Ar h 174) i) - (nI 1000)).toNatClampNeg))))) ∧ stkM (aset h 176 80 (upd (Ar h 176) ((nI s.length).toNatClampNeg) (cond (pm_cmp .lt ((Ar h 174) i) (nI 1000)) ((Ar h 174) i) ((Ar h 177) ((((Ar h 174) i) - (nI 1000)).toNatClampNeg))))) (nI s.length + Int32.ofInt 1) ((cond (pm_cmp .lt ((Ar h 174) i) (nI 1000)) ((Ar h 174) i) ((Ar h 177) ((((Ar h 174) i) - (nI 1000)).toNatClampNeg))) :: s) ∧ _
      rw [nI_clamp (by omega), show nI s.length + Int32.ofInt 1 = nI (s.length + 1) from nI_inc s.length 1]
      exact ⟨hc_a rfl rfl hc, fr_a rfl rfl fr_0, stkM_push (by omega) k, rfl⟩
theorem evM {dn : Nat} (hz : q.2.2 ≠ 0) (hc : HC q cc gc h) (hd : dep (Ar h 174) q.2.2 = some dn) {V : Int32} (hV : evl (stM q cc gc (Ar h 177)) (Ar h 174) q.2.2 = [V]) : (v200 q cc gc h).1 = V := by
  have hz8 := hc.zr
  have p := lp_in (f := fun i (a : Int32 × pm_H) => v200_4b q cc gc a.2 i a.1) (P := fun i g => HC q cc gc g.2 ∧ frm [176] [] h g.2 ∧ stkM g.2 g.1 (evl (stM q cc gc (Ar h 177)) (Ar h 174) i) ∧ dep (Ar h 174) i = some (evl (stM q cc gc (Ar h 177)) (Ar h 174) i).length) q.2.2 0 (nI 0, h) ⟨hc, fr_0, ⟨rfl, fun j hj => absurd hj (Nat.not_lt_zero j)⟩, rfl⟩ (fun i g _ hi p => by
    obtain ⟨p1, p2, p3, p4⟩ := p
    obtain ⟨d1, e1⟩ := dep_pre (f := Ar h 174) (k := i + 1) (m := q.2.2 - (i + 1)) (d := dn) (by rw [show i + 1 + (q.2.2 - (i + 1)) = q.2.2 by omega]; exact hd)
    obtain ⟨d0, e2, e3⟩ := dep_step e1
    rw [p4] at e2
    have e2 := Option.some.inj e2
    have hl := dep_le p4
    have e4 : Ar g.2 174 = Ar h 174 := Ar_e (p2.1 174 rfl)
    have e5 : Ar g.2 177 = Ar h 177 := Ar_e (p2.1 177 rfl)
    obtain ⟨a1, a2, a3, a4⟩ := stepM (d := d0) (d' := d1) (i := i) p1 (by omega) p3 e2 (by rw [e4]; exact e3)
    rw [e4, e5] at a3 a4
    refine ⟨a1, fr_t a2 p2, a3, ?_⟩
    rw [e1]
    exact congrArg some a4.symm)
  rw [Nat.zero_add, hV] at p
  obtain ⟨p1, p2, p3, p4⟩ := p
  unfold v200
  rw [decide_eq_true hz]
  exact stkM_top p3
end EVA
end MG95zzyax2
section MG95zzyax3
/-! VALUE: both sides -/
section VAL
variable {cc gc : Nat} {q : QT} {h hx hm : pm_H} {x m : Int32} {g c : Nat}
theorem stX_cg {A B : Nat → Int32} (e : ∀ k, k < 7 → A k = B k) (s : List Int32) (c : Int32) : stX q cc gc A s c = stX q cc gc B s c := by
  unfold stX
  cases z1 : pm_cmp .lt c 0 with
  | false => rfl
  | true =>
    cases z2 : pm_cmp .lt (v67 q cc gc (-c)) 0 with
    | true => rfl
    | false =>
      cases z3 : pm_cmp .ge (v67 q cc gc (-c)) (nI 7) with
      | true => rfl
      | false =>
        have h2 : ¬ v67 q cc gc (-c) < 0 := of_decide_eq_false z2
        have h3 : ¬ nI 7 ≤ v67 q cc gc (-c) := of_decide_eq_false z3
        rw [Int32.lt_iff_toInt_lt, show (0 : Int32).toInt = 0 by decide] at h2
        rw [Int32.le_iff_toInt_le, show (nI 7).toInt = 7 by decide] at h3
        obtain ⟨j, ej, hj, ei⟩ := hI_of (x := v67 q cc gc (-c)) (by omega)
        rw [ej, nI_clamp hj]
        show A j :: s = B j :: s
        rw [e j (by omega)]
theorem fold_cg {A B : Nat → Int32} (e : ∀ k, k < 7 → A k = B k) : ∀ (cs s : List Int32), cs.foldl (stX q cc gc A) s = cs.foldl (stX q cc gc B) s
  | [], _ => rfl
  | c :: cs, s => by
    rw [List.foldl_cons, List.foldl_cons, stX_cg e]
    exact fold_cg e cs _
/-- THE RULE of both sides tells the same values -/
def VR (q : QT) (cc gc : Nat) (C D : Nat → Int32) : Prop := ∃ V : (Nat → Int32) → Int32, (∀ A B, (∀ k, k < 7 → A k = B k) → V A = V B) ∧ (∀ A, (evl (stX q cc gc A) C q.2.1).headD 0 = V A) ∧ (q.2.2 = 0 → ∀ A : Nat → Int32, A 0 * A 1 / nI 5 = V A) ∧ (q.2.2 ≠ 0 → (∃ dn, dep D q.2.2 = some dn) ∧ ∀ A, evl (stM q cc gc A) D q.2.2 = [V A])
def in7 (f : Nat → Int32) (a0 a1 a2 a3 a4 a5 a6 : Int32) : Nat → Int32 := upd (upd (upd (upd (upd (upd (upd f 0 a0) 1 a1) 2 a2) 3 a3) 4 a4) 5 a5) 6 a6
theorem in7_cg {f f' : Nat → Int32} {a0 a1 a2 a3 a4 a5 a6 : Int32} : ∀ k, k < 7 → in7 f a0 a1 a2 a3 a4 a5 a6 k = in7 f' a0 a1 a2 a3 a4 a5 a6 k := by
  intro k hk
  rcases (by omega : k = 0 ∨ k = 1 ∨ k = 2 ∨ k = 3 ∨ k = 4 ∨ k = 5 ∨ k = 6) with rfl | rfl | rfl | rfl | rfl | rfl | rfl <;> rfl
theorem v68_val (hc : HC q cc gc h) : (v68 q cc gc h).1 = (evl (stX q cc gc (Ar h 12)) (Ar h (q.1 + 1)) q.2.1).headD 0 := by
  unfold v68
  rcases hc.qq with e | e
  · rw [if_pos e, evA hc.zx hc, e]
  · rw [if_neg (by rw [e]; decide), evB hc.zx hc, e]
theorem v200_val {A : Nat → Int32} (hc : HC q cc gc h) {C : Nat → Int32} {V : (Nat → Int32) → Int32} (v1 : q.2.2 = 0 → ∀ A : Nat → Int32, A 0 * A 1 / nI 5 = V A) (v2 : q.2.2 ≠ 0 → (∃ dn, dep (Ar h 174) q.2.2 = some dn) ∧ ∀ A, evl (stM q cc gc A) (Ar h 174) q.2.2 = [V A]) : (v200 q cc gc h).1 = V (Ar h 177) := by
  by_cases z : q.2.2 = 0
  · unfold v200
    rw [decide_eq_false (fun y => y z)]
    exact v1 z (Ar h 177)
  · obtain ⟨⟨dn, hd⟩, hV⟩ := v2 z
    exact evM z hc hd (hV (Ar h 177))
/-- what courts and gifts are -/
def RMm (cc gc : Nat) (hx hm : pm_H) : Prop := (∀ c, c < cc → (Ar hx 6 c = Ar hm 164 c ∧ ∃ k, k < 10 ∧ Ar hm 164 c = nI k) ∧ ∀ k, k < 5 → Ar hx 7 (c * 5 + k) = Ar hm 165 (5 * c + k)) ∧ ∀ g, g < gc → (Ar hx 9 g = Ar hm 166 g ∧ ∃ k, k < 5 ∧ Ar hm 166 g = nI k) ∧ Ar hx 10 g = Ar hm 167 g ∧ (Ar hx 11 g = Ar hm 168 g ∧ ∃ k, k < 10 ∧ Ar hm 168 g = nI k)
/-- where the gifts are -/
def HO (cc gc : Nat) (r : Nat → Int32) : Prop := ∀ j, j < gc → ∃ c, c < cc ∧ r (78 + j) = nI c
theorem v39_val : (v39 q cc gc h g c).1 = imax (nI 0) (imin (nI 999) ((v68 q cc gc (aset h 12 7 (in7 (Ar h 12) (Ar h 10 g) (v28t q cc gc (Ar h 7) c (Ar h 9 g)) (Ar h 6 c) (Ar h 6 ((Ar h 17 g).toNatClampNeg)) (v270 q cc gc (Ar h 18 g)) (Ar h 11 g) (cond (v74 q cc gc (Fi h 13 5) g) 1 0)))).1)) := by
  unfold v39 in7
  cases v74 q cc gc (Fi h 13 5) g <;> rfl
theorem v201_val : (v201 q cc gc h g c).1 = imax (nI 0) (imin (nI 999) ((v200 q cc gc (aset h 177 7 (in7 (Ar h 177) (Ar h 167 g) (Ar h 165 ((nI (5 * c) + Ar h 166 g).toNatClampNeg)) (Ar h 164 c) (Ar h 164 ((Ar h 170 (78 + g)).toNatClampNeg)) (v270 q cc gc (Ar h 170 (86 + g))) (Ar h 168 g) (cond (v173 q cc gc (Ar h 170) g) 1 0)))).1)) := rfl
theorem val_eq (cx : HC q cc gc hx) (cm : HC q cc gc hm) (vr : VR q cc gc (Ar hx (q.1 + 1)) (Ar hm 174)) (rm : RMm cc gc hx hm) (s : RS cc gc (Ar hx 14) (Ar hx 15) (Ar hx 16) (Ar hx 17) (Ar hx 18) (Fi hx 13 5) (Fi hx 13 6) (Ar hm 170)) (ho : HO cc gc (Ar hm 170)) (hg : g < gc) (hc : c < cc) : (v39 q cc gc hx g c).1 = (v201 q cc gc hm g c).1 := by
  rw [v39_val, v201_val]
  have c6 := cx.cb
  have c1 : HC q cc gc (aset hx 12 7 (in7 (Ar hx 12) (Ar hx 10 g) (v28t q cc gc (Ar hx 7) c (Ar hx 9 g)) (Ar hx 6 c) (Ar hx 6 ((Ar hx 17 g).toNatClampNeg)) (v270 q cc gc (Ar hx 18 g)) (Ar hx 11 g) (cond (v74 q cc gc (Fi hx 13 5) g) 1 0))) := hc_a rfl rfl cx
  have c2 : HC q cc gc (aset hm 177 7 (in7 (Ar hm 177) (Ar hm 167 g) (Ar hm 165 ((nI (5 * c) + Ar hm 166 g).toNatClampNeg)) (Ar hm 164 c) (Ar hm 164 ((Ar hm 170 (78 + g)).toNatClampNeg)) (v270 q cc gc (Ar hm 170 (86 + g))) (Ar hm 168 g) (cond (v173 q cc gc (Ar hm 170) g) 1 0))) := hc_a rfl rfl cm
  obtain ⟨V, v0, v1, v2, v3⟩ := vr
  rw [v68_val c1, Ar_s, Ar_n (show q.1 + 1 ≠ 12 by have := cx.qq; omega), v1, v200_val (V := V) (A := Ar hm 177) (C := Ar hm 177) c2 v2 (by rw [Ar_n (by decide)]; exact v3), Ar_s]
  obtain ⟨⟨g1, kk, hk, g2⟩, g3, g4, -⟩ := rm.2 g hg
  obtain ⟨⟨r1, -⟩, r2⟩ := rm.1 c hc
  obtain ⟨d, hd, ed⟩ := ho g hg
  have e1 : v28t q cc gc (Ar hx 7) c (Ar hx 9 g) = Ar hm 165 ((nI (5 * c) + Ar hm 166 g).toNatClampNeg) := by
    unfold v28t
    rw [g1, g2, nI_add, nI_add, nI_clamp (by omega), nI_clamp (by omega)]
    exact r2 kk hk
  have e2 : Ar hx 6 ((Ar hx 17 g).toNatClampNeg) = Ar hm 164 ((Ar hm 170 (78 + g)).toNatClampNeg) := by
    rw [s.2.2.2.1 g hg, ed, nI_clamp (by omega)]
    exact ((rm.1 d hd).1).1
  rw [e1, e2, g3, r1, g4, s.2.2.2.2.1 g hg, eq_74 s g]
  exact congrArg (fun y => imax (nI 0) (imin (nI 999) y)) (v0 _ _ in7_cg)
end VAL
end MG95zzyax3
