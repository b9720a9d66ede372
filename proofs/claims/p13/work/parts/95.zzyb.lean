/-! both codes tell the same values -/
section DEN
variable {cc gc : Nat} {q : QT} {f : Nat → Int32} {t : Nat} {ds es d2 e2 : List Int32}
/-- a step of the class's evaluation, of the reference's, on a stack -/
def stO (q : QT) (cc gc : Nat) (s : List Int32) (c : Int32) : List Int32 := cond (pm_cmp .ne c (Int32.ofInt (-126))) (v71 q cc gc (-c) (s.tail.headD 0) (s.headD 0) :: s.tail.tail) (-(s.headD 0) :: s.tail)
def stX (q : QT) (cc gc : Nat) (A : Nat → Int32) (s : List Int32) (c : Int32) : List Int32 := cond (pm_cmp .lt c 0) (cond (pm_cmp .lt (v67 q cc gc (-c)) 0) (stO q cc gc s c) (cond (pm_cmp .ge (v67 q cc gc (-c)) (nI 7)) (stO q cc gc s c) (A (v67 q cc gc (-c)).toNatClampNeg :: s))) (c :: s)
def stM (q : QT) (cc gc : Nat) (A : Nat → Int32) (s : List Int32) (c : Int32) : List Int32 := cond (pm_cmp .ne c (nI 3000)) (cond (pm_cmp .lt c (nI 2000)) ((cond (pm_cmp .lt c (nI 1000)) c (A (c - nI 1000).toNatClampNeg)) :: s) (v199 q cc gc (c - nI 2000) (s.tail.headD 0) (s.headD 0) :: s.tail.tail)) (-(s.headD 0) :: s.tail)
def den (q : QT) (cc gc : Nat) (ds es : List Int32) : Prop := ∃ V : (Nat → Int32) → Int32, ∀ A s, ds.foldl (stX q cc gc A) s = V A :: s ∧ es.foldl (stM q cc gc A) s = V A :: s
def denL (q : QT) (cc gc : Nat) (ds es : List Int32) : Prop := ∃ W : (Nat → Int32) → Int32 → Int32, ∀ A v s, ds.foldl (stX q cc gc A) (v :: s) = W A v :: s ∧ es.foldl (stM q cc gc A) (v :: s) = W A v :: s
theorem den_app (h1 : den q cc gc ds es) (h2 : denL q cc gc d2 e2) : den q cc gc (ds ++ d2) (es ++ e2) := by
  obtain ⟨V, hV⟩ := h1
  obtain ⟨W, hW⟩ := h2
  refine ⟨fun A => W A (V A), fun A s => ?_⟩
  rw [List.foldl_append, List.foldl_append, (hV A s).1, (hV A s).2]
  exact hW A (V A) s
theorem denL_nil : denL q cc gc [] [] := ⟨fun _ v => v, fun _ _ _ => ⟨rfl, rfl⟩⟩
theorem denL_op {c c' : Int32} {J : Int32 → Int32 → Int32} (h1 : den q cc gc ds es) (hJ : ∀ A a b s, stX q cc gc A (b :: a :: s) c = J a b :: s ∧ stM q cc gc A (b :: a :: s) c' = J a b :: s) (h2 : denL q cc gc d2 e2) : denL q cc gc (ds ++ c :: d2) (es ++ c' :: e2) := by
  obtain ⟨V, hV⟩ := h1
  obtain ⟨W, hW⟩ := h2
  refine ⟨fun A v => W A (J v (V A)), fun A v s => ?_⟩
  rw [List.foldl_append, List.foldl_append, (hV A (v :: s)).1, (hV A (v :: s)).2, List.foldl_cons, List.foldl_cons, (hJ A v (V A) s).1, (hJ A v (V A) s).2]
  exact hW A _ s
theorem j71_60 (a b : Int32) : v71 q cc gc (nI 60) a b = cond (cond (pm_cmp .ge a b) false true) 1 0 := by
  unfold v71
  rw [show pm_cmp .eq (nI 60) (nI 42) = false from by decide, show pm_cmp .eq (nI 60) (nI 43) = false from by decide, show pm_cmp .eq (nI 60) (nI 45) = false from by decide, show pm_cmp .eq (nI 60) (nI 60) = true from by decide]
  try rfl
theorem j199_60 (a b : Int32) : v199 q cc gc (nI 0) a b = cond (cond (pm_cmp .ge a b) false true) 1 0 := by
  unfold v199
  rw [show pm_cmp .eq (nI 0) (nI 0) = true from by decide]
  try rfl
theorem op_60 (A : Nat → Int32) (a b : Int32) (s : List Int32) : stX q cc gc A (b :: a :: s) (-(nI 60)) = (cond (cond (pm_cmp .ge a b) false true) 1 0) :: s ∧ stM q cc gc A (b :: a :: s) (nI 2000) = (cond (cond (pm_cmp .ge a b) false true) 1 0) :: s := by
  constructor
  · unfold stX
    rw [show pm_cmp .lt (-(nI 60)) 0 = true from by decide, show -(-(nI 60)) = nI 60 from by decide]
    have e : v67 q cc gc (nI 60) = Int32.ofInt (-1) := by
      unfold v67
      rw [show pm_cmp .eq (nI 60) (nI 100) = false from by decide, show pm_cmp .eq (nI 60) (nI 101) = false from by decide, show pm_cmp .eq (nI 60) (nI 104) = false from by decide, show pm_cmp .eq (nI 60) (nI 107) = false from by decide, show pm_cmp .eq (nI 60) (nI 114) = false from by decide, show pm_cmp .eq (nI 60) (nI 115) = false from by decide, show pm_cmp .eq (nI 60) (nI 119) = false from by decide]
      rfl
    rw [e, show pm_cmp .lt (Int32.ofInt (-1)) 0 = true from by decide]
    show stO q cc gc (b :: a :: s) (-(nI 60)) = _
    unfold stO
    rw [show pm_cmp .ne (-(nI 60)) (Int32.ofInt (-126)) = true from by decide, show -(-(nI 60)) = nI 60 from by decide]
    show v71 q cc gc (nI 60) a b :: s = _
    rw [j71_60]
  · unfold stM
    rw [show pm_cmp .ne (nI 2000) (nI 3000) = true from by decide, show pm_cmp .lt (nI 2000) (nI 2000) = false from by decide, show nI 2000 - nI 2000 = nI 0 from by decide]
    show v199 q cc gc (nI 0) a b :: s = _
    rw [j199_60]
theorem j71_62 (a b : Int32) : v71 q cc gc (nI 62) a b = cond (cond (pm_cmp .le a b) false true) 1 0 := by
  unfold v71
  rw [show pm_cmp .eq (nI 62) (nI 42) = false from by decide, show pm_cmp .eq (nI 62) (nI 43) = false from by decide, show pm_cmp .eq (nI 62) (nI 45) = false from by decide, show pm_cmp .eq (nI 62) (nI 60) = false from by decide, show pm_cmp .eq (nI 62) (nI 61) = false from by decide, show pm_cmp .eq (nI 62) (nI 62) = true from by decide]
  try rfl
theorem j199_62 (a b : Int32) : v199 q cc gc (nI 1) a b = cond (cond (pm_cmp .le a b) false true) 1 0 := by
  unfold v199
  rw [show pm_cmp .eq (nI 1) (nI 0) = false from by decide, show pm_cmp .eq (nI 1) (nI 1) = true from by decide]
  try rfl
theorem op_62 (A : Nat → Int32) (a b : Int32) (s : List Int32) : stX q cc gc A (b :: a :: s) (-(nI 62)) = (cond (cond (pm_cmp .le a b) false true) 1 0) :: s ∧ stM q cc gc A (b :: a :: s) (nI 2001) = (cond (cond (pm_cmp .le a b) false true) 1 0) :: s := by
  constructor
  · unfold stX
    rw [show pm_cmp .lt (-(nI 62)) 0 = true from by decide, show -(-(nI 62)) = nI 62 from by decide]
    have e : v67 q cc gc (nI 62) = Int32.ofInt (-1) := by
      unfold v67
      rw [show pm_cmp .eq (nI 62) (nI 100) = false from by decide, show pm_cmp .eq (nI 62) (nI 101) = false from by decide, show pm_cmp .eq (nI 62) (nI 104) = false from by decide, show pm_cmp .eq (nI 62) (nI 107) = false from by decide, show pm_cmp .eq (nI 62) (nI 114) = false from by decide, show pm_cmp .eq (nI 62) (nI 115) = false from by decide, show pm_cmp .eq (nI 62) (nI 119) = false from by decide]
      rfl
    rw [e, show pm_cmp .lt (Int32.ofInt (-1)) 0 = true from by decide]
    show stO q cc gc (b :: a :: s) (-(nI 62)) = _
    unfold stO
    rw [show pm_cmp .ne (-(nI 62)) (Int32.ofInt (-126)) = true from by decide, show -(-(nI 62)) = nI 62 from by decide]
    show v71 q cc gc (nI 62) a b :: s = _
    rw [j71_62]
  · unfold stM
    rw [show pm_cmp .ne (nI 2001) (nI 3000) = true from by decide, show pm_cmp .lt (nI 2001) (nI 2000) = false from by decide, show nI 2001 - nI 2000 = nI 1 from by decide]
    show v199 q cc gc (nI 1) a b :: s = _
    rw [j199_62]
theorem j71_61 (a b : Int32) : v71 q cc gc (nI 61) a b = cond (cond (pm_cmp .ne a b) false true) 1 0 := by
  unfold v71
  rw [show pm_cmp .eq (nI 61) (nI 42) = false from by decide, show pm_cmp .eq (nI 61) (nI 43) = false from by decide, show pm_cmp .eq (nI 61) (nI 45) = false from by decide, show pm_cmp .eq (nI 61) (nI 60) = false from by decide, show pm_cmp .eq (nI 61) (nI 61) = true from by decide]
  try rfl
theorem j199_61 (a b : Int32) : v199 q cc gc (nI 2) a b = cond (cond (pm_cmp .ne a b) false true) 1 0 := by
  unfold v199
  rw [show pm_cmp .eq (nI 2) (nI 0) = false from by decide, show pm_cmp .eq (nI 2) (nI 1) = false from by decide, show pm_cmp .eq (nI 2) (nI 2) = true from by decide]
  try rfl
theorem op_61 (A : Nat → Int32) (a b : Int32) (s : List Int32) : stX q cc gc A (b :: a :: s) (-(nI 61)) = (cond (cond (pm_cmp .ne a b) false true) 1 0) :: s ∧ stM q cc gc A (b :: a :: s) (nI 2002) = (cond (cond (pm_cmp .ne a b) false true) 1 0) :: s := by
  constructor
  · unfold stX
    rw [show pm_cmp .lt (-(nI 61)) 0 = true from by decide, show -(-(nI 61)) = nI 61 from by decide]
    have e : v67 q cc gc (nI 61) = Int32.ofInt (-1) := by
      unfold v67
      rw [show pm_cmp .eq (nI 61) (nI 100) = false from by decide, show pm_cmp .eq (nI 61) (nI 101) = false from by decide, show pm_cmp .eq (nI 61) (nI 104) = false from by decide, show pm_cmp .eq (nI 61) (nI 107) = false from by decide, show pm_cmp .eq (nI 61) (nI 114) = false from by decide, show pm_cmp .eq (nI 61) (nI 115) = false from by decide, show pm_cmp .eq (nI 61) (nI 119) = false from by decide]
      rfl
    rw [e, show pm_cmp .lt (Int32.ofInt (-1)) 0 = true from by decide]
    show stO q cc gc (b :: a :: s) (-(nI 61)) = _
    unfold stO
    rw [show pm_cmp .ne (-(nI 61)) (Int32.ofInt (-126)) = true from by decide, show -(-(nI 61)) = nI 61 from by decide]
    show v71 q cc gc (nI 61) a b :: s = _
    rw [j71_61]
  · unfold stM
    rw [show pm_cmp .ne (nI 2002) (nI 3000) = true from by decide, show pm_cmp .lt (nI 2002) (nI 2000) = false from by decide, show nI 2002 - nI 2000 = nI 2 from by decide]
    show v199 q cc gc (nI 2) a b :: s = _
    rw [j199_61]
theorem j71_43 (a b : Int32) : v71 q cc gc (nI 43) a b = a + b := by
  unfold v71
  rw [show pm_cmp .eq (nI 43) (nI 42) = false from by decide, show pm_cmp .eq (nI 43) (nI 43) = true from by decide]
  try rfl
theorem j199_43 (a b : Int32) : v199 q cc gc (nI 3) a b = a + b := by
  unfold v199
  rw [show pm_cmp .eq (nI 3) (nI 0) = false from by decide, show pm_cmp .eq (nI 3) (nI 1) = false from by decide, show pm_cmp .eq (nI 3) (nI 2) = false from by decide, show pm_cmp .eq (nI 3) (nI 3) = true from by decide]
  try rfl
theorem op_43 (A : Nat → Int32) (a b : Int32) (s : List Int32) : stX q cc gc A (b :: a :: s) (-(nI 43)) = (a + b) :: s ∧ stM q cc gc A (b :: a :: s) (nI 2003) = (a + b) :: s := by
  constructor
  · unfold stX
    rw [show pm_cmp .lt (-(nI 43)) 0 = true from by decide, show -(-(nI 43)) = nI 43 from by decide]
    have e : v67 q cc gc (nI 43) = Int32.ofInt (-1) := by
      unfold v67
      rw [show pm_cmp .eq (nI 43) (nI 100) = false from by decide, show pm_cmp .eq (nI 43) (nI 101) = false from by decide, show pm_cmp .eq (nI 43) (nI 104) = false from by decide, show pm_cmp .eq (nI 43) (nI 107) = false from by decide, show pm_cmp .eq (nI 43) (nI 114) = false from by decide, show pm_cmp .eq (nI 43) (nI 115) = false from by decide, show pm_cmp .eq (nI 43) (nI 119) = false from by decide]
      rfl
    rw [e, show pm_cmp .lt (Int32.ofInt (-1)) 0 = true from by decide]
    show stO q cc gc (b :: a :: s) (-(nI 43)) = _
    unfold stO
    rw [show pm_cmp .ne (-(nI 43)) (Int32.ofInt (-126)) = true from by decide, show -(-(nI 43)) = nI 43 from by decide]
    show v71 q cc gc (nI 43) a b :: s = _
    rw [j71_43]
  · unfold stM
    rw [show pm_cmp .ne (nI 2003) (nI 3000) = true from by decide, show pm_cmp .lt (nI 2003) (nI 2000) = false from by decide, show nI 2003 - nI 2000 = nI 3 from by decide]
    show v199 q cc gc (nI 3) a b :: s = _
    rw [j199_43]
theorem j71_45 (a b : Int32) : v71 q cc gc (nI 45) a b = a - b := by
  unfold v71
  rw [show pm_cmp .eq (nI 45) (nI 42) = false from by decide, show pm_cmp .eq (nI 45) (nI 43) = false from by decide, show pm_cmp .eq (nI 45) (nI 45) = true from by decide]
  try rfl
theorem j199_45 (a b : Int32) : v199 q cc gc (nI 4) a b = a - b := by
  unfold v199
  rw [show pm_cmp .eq (nI 4) (nI 0) = false from by decide, show pm_cmp .eq (nI 4) (nI 1) = false from by decide, show pm_cmp .eq (nI 4) (nI 2) = false from by decide, show pm_cmp .eq (nI 4) (nI 3) = false from by decide, show pm_cmp .eq (nI 4) (nI 4) = true from by decide]
  try rfl
theorem op_45 (A : Nat → Int32) (a b : Int32) (s : List Int32) : stX q cc gc A (b :: a :: s) (-(nI 45)) = (a - b) :: s ∧ stM q cc gc A (b :: a :: s) (nI 2004) = (a - b) :: s := by
  constructor
  · unfold stX
    rw [show pm_cmp .lt (-(nI 45)) 0 = true from by decide, show -(-(nI 45)) = nI 45 from by decide]
    have e : v67 q cc gc (nI 45) = Int32.ofInt (-1) := by
      unfold v67
      rw [show pm_cmp .eq (nI 45) (nI 100) = false from by decide, show pm_cmp .eq (nI 45) (nI 101) = false from by decide, show pm_cmp .eq (nI 45) (nI 104) = false from by decide, show pm_cmp .eq (nI 45) (nI 107) = false from by decide, show pm_cmp .eq (nI 45) (nI 114) = false from by decide, show pm_cmp .eq (nI 45) (nI 115) = false from by decide, show pm_cmp .eq (nI 45) (nI 119) = false from by decide]
      rfl
    rw [e, show pm_cmp .lt (Int32.ofInt (-1)) 0 = true from by decide]
    show stO q cc gc (b :: a :: s) (-(nI 45)) = _
    unfold stO
    rw [show pm_cmp .ne (-(nI 45)) (Int32.ofInt (-126)) = true from by decide, show -(-(nI 45)) = nI 45 from by decide]
    show v71 q cc gc (nI 45) a b :: s = _
    rw [j71_45]
  · unfold stM
    rw [show pm_cmp .ne (nI 2004) (nI 3000) = true from by decide, show pm_cmp .lt (nI 2004) (nI 2000) = false from by decide, show nI 2004 - nI 2000 = nI 4 from by decide]
    show v199 q cc gc (nI 4) a b :: s = _
    rw [j199_45]
theorem j71_42 (a b : Int32) : v71 q cc gc (nI 42) a b = a * b := by
  unfold v71
  rw [show pm_cmp .eq (nI 42) (nI 42) = true from by decide]
  try rfl
theorem j199_42 (a b : Int32) : v199 q cc gc (nI 5) a b = a * b := by
  unfold v199
  rw [show pm_cmp .eq (nI 5) (nI 0) = false from by decide, show pm_cmp .eq (nI 5) (nI 1) = false from by decide, show pm_cmp .eq (nI 5) (nI 2) = false from by decide, show pm_cmp .eq (nI 5) (nI 3) = false from by decide, show pm_cmp .eq (nI 5) (nI 4) = false from by decide, show pm_cmp .eq (nI 5) (nI 5) = true from by decide]
  try rfl
theorem op_42 (A : Nat → Int32) (a b : Int32) (s : List Int32) : stX q cc gc A (b :: a :: s) (-(nI 42)) = (a * b) :: s ∧ stM q cc gc A (b :: a :: s) (nI 2005) = (a * b) :: s := by
  constructor
  · unfold stX
    rw [show pm_cmp .lt (-(nI 42)) 0 = true from by decide, show -(-(nI 42)) = nI 42 from by decide]
    have e : v67 q cc gc (nI 42) = Int32.ofInt (-1) := by
      unfold v67
      rw [show pm_cmp .eq (nI 42) (nI 100) = false from by decide, show pm_cmp .eq (nI 42) (nI 101) = false from by decide, show pm_cmp .eq (nI 42) (nI 104) = false from by decide, show pm_cmp .eq (nI 42) (nI 107) = false from by decide, show pm_cmp .eq (nI 42) (nI 114) = false from by decide, show pm_cmp .eq (nI 42) (nI 115) = false from by decide, show pm_cmp .eq (nI 42) (nI 119) = false from by decide]
      rfl
    rw [e, show pm_cmp .lt (Int32.ofInt (-1)) 0 = true from by decide]
    show stO q cc gc (b :: a :: s) (-(nI 42)) = _
    unfold stO
    rw [show pm_cmp .ne (-(nI 42)) (Int32.ofInt (-126)) = true from by decide, show -(-(nI 42)) = nI 42 from by decide]
    show v71 q cc gc (nI 42) a b :: s = _
    rw [j71_42]
  · unfold stM
    rw [show pm_cmp .ne (nI 2005) (nI 3000) = true from by decide, show pm_cmp .lt (nI 2005) (nI 2000) = false from by decide, show nI 2005 - nI 2000 = nI 5 from by decide]
    show v199 q cc gc (nI 5) a b :: s = _
    rw [j199_42]
theorem j71_47 (a b : Int32) : v71 q cc gc (nI 47) a b = cond (pm_cmp .ne b 0) (a / b) (nI 0) := by
  unfold v71
  rw [show pm_cmp .eq (nI 47) (nI 42) = false from by decide, show pm_cmp .eq (nI 47) (nI 43) = false from by decide, show pm_cmp .eq (nI 47) (nI 45) = false from by decide, show pm_cmp .eq (nI 47) (nI 60) = false from by decide, show pm_cmp .eq (nI 47) (nI 61) = false from by decide, show pm_cmp .eq (nI 47) (nI 62) = false from by decide]
  try rfl
theorem j199_47 (a b : Int32) : v199 q cc gc (nI 6) a b = cond (pm_cmp .ne b 0) (a / b) (nI 0) := by
  unfold v199
  rw [show pm_cmp .eq (nI 6) (nI 0) = false from by decide, show pm_cmp .eq (nI 6) (nI 1) = false from by decide, show pm_cmp .eq (nI 6) (nI 2) = false from by decide, show pm_cmp .eq (nI 6) (nI 3) = false from by decide, show pm_cmp .eq (nI 6) (nI 4) = false from by decide, show pm_cmp .eq (nI 6) (nI 5) = false from by decide]
  try rfl
theorem op_47 (A : Nat → Int32) (a b : Int32) (s : List Int32) : stX q cc gc A (b :: a :: s) (-(nI 47)) = (cond (pm_cmp .ne b 0) (a / b) (nI 0)) :: s ∧ stM q cc gc A (b :: a :: s) (nI 2006) = (cond (pm_cmp .ne b 0) (a / b) (nI 0)) :: s := by
  constructor
  · unfold stX
    rw [show pm_cmp .lt (-(nI 47)) 0 = true from by decide, show -(-(nI 47)) = nI 47 from by decide]
    have e : v67 q cc gc (nI 47) = Int32.ofInt (-1) := by
      unfold v67
      rw [show pm_cmp .eq (nI 47) (nI 100) = false from by decide, show pm_cmp .eq (nI 47) (nI 101) = false from by decide, show pm_cmp .eq (nI 47) (nI 104) = false from by decide, show pm_cmp .eq (nI 47) (nI 107) = false from by decide, show pm_cmp .eq (nI 47) (nI 114) = false from by decide, show pm_cmp .eq (nI 47) (nI 115) = false from by decide, show pm_cmp .eq (nI 47) (nI 119) = false from by decide]
      rfl
    rw [e, show pm_cmp .lt (Int32.ofInt (-1)) 0 = true from by decide]
    show stO q cc gc (b :: a :: s) (-(nI 47)) = _
    unfold stO
    rw [show pm_cmp .ne (-(nI 47)) (Int32.ofInt (-126)) = true from by decide, show -(-(nI 47)) = nI 47 from by decide]
    show v71 q cc gc (nI 47) a b :: s = _
    rw [j71_47]
  · unfold stM
    rw [show pm_cmp .ne (nI 2006) (nI 3000) = true from by decide, show pm_cmp .lt (nI 2006) (nI 2000) = false from by decide, show nI 2006 - nI 2000 = nI 6 from by decide]
    show v199 q cc gc (nI 6) a b :: s = _
    rw [j199_47]
theorem op_lev {o : Nat} {x : Int32} (ho : o < 3) (z : zlev o x = true) : ∃ J : Int32 → Int32 → Int32, ∀ A a b s, stX q cc gc A (b :: a :: s) (-x) = J a b :: s ∧ stM q cc gc A (b :: a :: s) (rop o x) = J a b :: s := by
  rcases (by omega : o = 0 ∨ o = 1 ∨ o = 2) with rfl | rfl | rfl
  · have z : x = nI 60 ∨ x = nI 61 ∨ x = nI 62 := of_decide_eq_true z
    rcases z with rfl | rfl | rfl
    · rw [show rop 0 (nI 60) = nI 2000 from by decide +kernel]
      exact ⟨_, fun A a b s => op_60 A a b s⟩
    · rw [show rop 0 (nI 61) = nI 2002 from by decide +kernel]
      exact ⟨_, fun A a b s => op_61 A a b s⟩
    · rw [show rop 0 (nI 62) = nI 2001 from by decide +kernel]
      exact ⟨_, fun A a b s => op_62 A a b s⟩
  · have z : x = nI 43 ∨ x = nI 45 := of_decide_eq_true z
    rcases z with rfl | rfl
    · rw [show rop 1 (nI 43) = nI 2003 from by decide +kernel]
      exact ⟨_, fun A a b s => op_43 A a b s⟩
    · rw [show rop 1 (nI 45) = nI 2004 from by decide +kernel]
      exact ⟨_, fun A a b s => op_45 A a b s⟩
  · have z : x = nI 42 ∨ x = nI 47 := of_decide_eq_true z
    rcases z with rfl | rfl
    · rw [show rop 2 (nI 42) = nI 2005 from by decide +kernel]
      exact ⟨_, fun A a b s => op_42 A a b s⟩
    · rw [show rop 2 (nI 47) = nI 2006 from by decide +kernel]
      exact ⟨_, fun A a b s => op_47 A a b s⟩
theorem let_119 (A : Nat → Int32) (s : List Int32) : stX q cc gc A s (-(nI 119)) = A 0 :: s ∧ stM q cc gc A s (nI 1000) = A 0 :: s := by
  constructor
  · unfold stX
    have e : v67 q cc gc (nI 119) = nI 0 := by
      unfold v67
      rw [show pm_cmp .eq (nI 119) (nI 100) = false from by decide, show pm_cmp .eq (nI 119) (nI 101) = false from by decide, show pm_cmp .eq (nI 119) (nI 104) = false from by decide, show pm_cmp .eq (nI 119) (nI 107) = false from by decide, show pm_cmp .eq (nI 119) (nI 114) = false from by decide, show pm_cmp .eq (nI 119) (nI 115) = false from by decide, show pm_cmp .eq (nI 119) (nI 119) = true from by decide]
      try rfl
    rw [show pm_cmp .lt (-(nI 119)) 0 = true from by decide, show -(-(nI 119)) = nI 119 from by decide, e, show pm_cmp .lt (nI 0) 0 = false from by decide, show pm_cmp .ge (nI 0) (nI 7) = false from by decide, show (nI 0).toNatClampNeg = 0 from by decide]
    rfl
  · unfold stM
    rw [show pm_cmp .ne (nI 1000) (nI 3000) = true from by decide, show pm_cmp .lt (nI 1000) (nI 2000) = true from by decide, show pm_cmp .lt (nI 1000) (nI 1000) = false from by decide, show (nI 1000 - nI 1000).toNatClampNeg = 0 from by decide]
    rfl
theorem let_107 (A : Nat → Int32) (s : List Int32) : stX q cc gc A s (-(nI 107)) = A 1 :: s ∧ stM q cc gc A s (nI 1001) = A 1 :: s := by
  constructor
  · unfold stX
    have e : v67 q cc gc (nI 107) = nI 1 := by
      unfold v67
      rw [show pm_cmp .eq (nI 107) (nI 100) = false from by decide, show pm_cmp .eq (nI 107) (nI 101) = false from by decide, show pm_cmp .eq (nI 107) (nI 104) = false from by decide, show pm_cmp .eq (nI 107) (nI 107) = true from by decide]
      try rfl
    rw [show pm_cmp .lt (-(nI 107)) 0 = true from by decide, show -(-(nI 107)) = nI 107 from by decide, e, show pm_cmp .lt (nI 1) 0 = false from by decide, show pm_cmp .ge (nI 1) (nI 7) = false from by decide, show (nI 1).toNatClampNeg = 1 from by decide]
    rfl
  · unfold stM
    rw [show pm_cmp .ne (nI 1001) (nI 3000) = true from by decide, show pm_cmp .lt (nI 1001) (nI 2000) = true from by decide, show pm_cmp .lt (nI 1001) (nI 1000) = false from by decide, show (nI 1001 - nI 1000).toNatClampNeg = 1 from by decide]
    rfl
theorem let_114 (A : Nat → Int32) (s : List Int32) : stX q cc gc A s (-(nI 114)) = A 2 :: s ∧ stM q cc gc A s (nI 1002) = A 2 :: s := by
  constructor
  · unfold stX
    have e : v67 q cc gc (nI 114) = nI 2 := by
      unfold v67
      rw [show pm_cmp .eq (nI 114) (nI 100) = false from by decide, show pm_cmp .eq (nI 114) (nI 101) = false from by decide, show pm_cmp .eq (nI 114) (nI 104) = false from by decide, show pm_cmp .eq (nI 114) (nI 107) = false from by decide, show pm_cmp .eq (nI 114) (nI 114) = true from by decide]
      try rfl
    rw [show pm_cmp .lt (-(nI 114)) 0 = true from by decide, show -(-(nI 114)) = nI 114 from by decide, e, show pm_cmp .lt (nI 2) 0 = false from by decide, show pm_cmp .ge (nI 2) (nI 7) = false from by decide, show (nI 2).toNatClampNeg = 2 from by decide]
    rfl
  · unfold stM
    rw [show pm_cmp .ne (nI 1002) (nI 3000) = true from by decide, show pm_cmp .lt (nI 1002) (nI 2000) = true from by decide, show pm_cmp .lt (nI 1002) (nI 1000) = false from by decide, show (nI 1002 - nI 1000).toNatClampNeg = 2 from by decide]
    rfl
theorem let_115 (A : Nat → Int32) (s : List Int32) : stX q cc gc A s (-(nI 115)) = A 3 :: s ∧ stM q cc gc A s (nI 1003) = A 3 :: s := by
  constructor
  · unfold stX
    have e : v67 q cc gc (nI 115) = nI 3 := by
      unfold v67
      rw [show pm_cmp .eq (nI 115) (nI 100) = false from by decide, show pm_cmp .eq (nI 115) (nI 101) = false from by decide, show pm_cmp .eq (nI 115) (nI 104) = false from by decide, show pm_cmp .eq (nI 115) (nI 107) = false from by decide, show pm_cmp .eq (nI 115) (nI 114) = false from by decide, show pm_cmp .eq (nI 115) (nI 115) = true from by decide]
      try rfl
    rw [show pm_cmp .lt (-(nI 115)) 0 = true from by decide, show -(-(nI 115)) = nI 115 from by decide, e, show pm_cmp .lt (nI 3) 0 = false from by decide, show pm_cmp .ge (nI 3) (nI 7) = false from by decide, show (nI 3).toNatClampNeg = 3 from by decide]
    rfl
  · unfold stM
    rw [show pm_cmp .ne (nI 1003) (nI 3000) = true from by decide, show pm_cmp .lt (nI 1003) (nI 2000) = true from by decide, show pm_cmp .lt (nI 1003) (nI 1000) = false from by decide, show (nI 1003 - nI 1000).toNatClampNeg = 3 from by decide]
    rfl
theorem let_104 (A : Nat → Int32) (s : List Int32) : stX q cc gc A s (-(nI 104)) = A 4 :: s ∧ stM q cc gc A s (nI 1004) = A 4 :: s := by
  constructor
  · unfold stX
    have e : v67 q cc gc (nI 104) = nI 4 := by
      unfold v67
      rw [show pm_cmp .eq (nI 104) (nI 100) = false from by decide, show pm_cmp .eq (nI 104) (nI 101) = false from by decide, show pm_cmp .eq (nI 104) (nI 104) = true from by decide]
      try rfl
    rw [show pm_cmp .lt (-(nI 104)) 0 = true from by decide, show -(-(nI 104)) = nI 104 from by decide, e, show pm_cmp .lt (nI 4) 0 = false from by decide, show pm_cmp .ge (nI 4) (nI 7) = false from by decide, show (nI 4).toNatClampNeg = 4 from by decide]
    rfl
  · unfold stM
    rw [show pm_cmp .ne (nI 1004) (nI 3000) = true from by decide, show pm_cmp .lt (nI 1004) (nI 2000) = true from by decide, show pm_cmp .lt (nI 1004) (nI 1000) = false from by decide, show (nI 1004 - nI 1000).toNatClampNeg = 4 from by decide]
    rfl
theorem let_101 (A : Nat → Int32) (s : List Int32) : stX q cc gc A s (-(nI 101)) = A 5 :: s ∧ stM q cc gc A s (nI 1005) = A 5 :: s := by
  constructor
  · unfold stX
    have e : v67 q cc gc (nI 101) = nI 5 := by
      unfold v67
      rw [show pm_cmp .eq (nI 101) (nI 100) = false from by decide, show pm_cmp .eq (nI 101) (nI 101) = true from by decide]
      try rfl
    rw [show pm_cmp .lt (-(nI 101)) 0 = true from by decide, show -(-(nI 101)) = nI 101 from by decide, e, show pm_cmp .lt (nI 5) 0 = false from by decide, show pm_cmp .ge (nI 5) (nI 7) = false from by decide, show (nI 5).toNatClampNeg = 5 from by decide]
    rfl
  · unfold stM
    rw [show pm_cmp .ne (nI 1005) (nI 3000) = true from by decide, show pm_cmp .lt (nI 1005) (nI 2000) = true from by decide, show pm_cmp .lt (nI 1005) (nI 1000) = false from by decide, show (nI 1005 - nI 1000).toNatClampNeg = 5 from by decide]
    rfl
theorem let_100 (A : Nat → Int32) (s : List Int32) : stX q cc gc A s (-(nI 100)) = A 6 :: s ∧ stM q cc gc A s (nI 1006) = A 6 :: s := by
  constructor
  · unfold stX
    have e : v67 q cc gc (nI 100) = nI 6 := by
      unfold v67
      rw [show pm_cmp .eq (nI 100) (nI 100) = true from by decide]
      try rfl
    rw [show pm_cmp .lt (-(nI 100)) 0 = true from by decide, show -(-(nI 100)) = nI 100 from by decide, e, show pm_cmp .lt (nI 6) 0 = false from by decide, show pm_cmp .ge (nI 6) (nI 7) = false from by decide, show (nI 6).toNatClampNeg = 6 from by decide]
    rfl
  · unfold stM
    rw [show pm_cmp .ne (nI 1006) (nI 3000) = true from by decide, show pm_cmp .lt (nI 1006) (nI 2000) = true from by decide, show pm_cmp .lt (nI 1006) (nI 1000) = false from by decide, show (nI 1006 - nI 1000).toNatClampNeg = 6 from by decide]
    rfl
theorem den_let {x : Int32} (z : zlet x = true) : den q cc gc [-x] [rlt x] := by
  have z : x = nI 119 ∨ x = nI 107 ∨ x = nI 114 ∨ x = nI 115 ∨ x = nI 104 ∨ x = nI 101 ∨ x = nI 100 := of_decide_eq_true z
  rcases z with rfl | rfl | rfl | rfl | rfl | rfl | rfl
  · rw [show rlt (nI 119) = nI 1000 from by decide +kernel]
    exact ⟨fun A => A 0, fun A s => let_119 A s⟩
  · rw [show rlt (nI 107) = nI 1001 from by decide +kernel]
    exact ⟨fun A => A 1, fun A s => let_107 A s⟩
  · rw [show rlt (nI 114) = nI 1002 from by decide +kernel]
    exact ⟨fun A => A 2, fun A s => let_114 A s⟩
  · rw [show rlt (nI 115) = nI 1003 from by decide +kernel]
    exact ⟨fun A => A 3, fun A s => let_115 A s⟩
  · rw [show rlt (nI 104) = nI 1004 from by decide +kernel]
    exact ⟨fun A => A 4, fun A s => let_104 A s⟩
  · rw [show rlt (nI 101) = nI 1005 from by decide +kernel]
    exact ⟨fun A => A 5, fun A s => let_101 A s⟩
  · rw [show rlt (nI 100) = nI 1006 from by decide +kernel]
    exact ⟨fun A => A 6, fun A s => let_100 A s⟩
theorem den_num {k : Nat} (hk : k < 1000) : den q cc gc [nI k] [nI k] := by
  refine ⟨fun _ => nI k, fun A s => ⟨?_, ?_⟩⟩
  · show stX q cc gc A s (nI k) = _
    unfold stX
    rw [show pm_cmp .lt (nI k) 0 = false from (hI_lt (a := k) (b := 0) (by omega) (by decide)).trans (decide_eq_false (by omega))]
    rfl
  · show stM q cc gc A s (nI k) = _
    unfold stM
    rw [show pm_cmp .ne (nI k) (nI 3000) = true from (hI_ne (by omega) (by decide)).trans (decide_eq_true (by omega)), show pm_cmp .lt (nI k) (nI 2000) = true from (hI_lt (by omega) (by decide)).trans (decide_eq_true (by omega)), show pm_cmp .lt (nI k) (nI 1000) = true from (hI_lt (by omega) (by decide)).trans (decide_eq_true (by omega))]
    rfl
theorem dg_nI {p : Nat} (z : dg f p t = true) : ∃ d, d < 10 ∧ f p - nI 48 = nI d := by
  obtain ⟨h1, h2⟩ := dg_val z
  obtain ⟨j, e, -, hj⟩ := hI_of h1
  exact ⟨j, by omega, e⟩
theorem num_s (a d : Nat) : (10 : Int32) * nI a + nI d = nI (10 * a + d) := by
  rw [show (10 : Int32) = nI 10 from rfl, hI_mul, nI_add]
theorem znv_1 (p a : Nat) (ha : a ≤ 99) : ∃ b, znv f t 1 p (nI a) = nI b ∧ b < 1000 := by
  show ∃ b, cond (dg f p t) (10 * nI a + (f p - nI 48)) (nI a) = nI b ∧ b < 1000
  cases z : dg f p t with
  | false => exact ⟨a, rfl, by omega⟩
  | true =>
    obtain ⟨d, hd, e⟩ := dg_nI z
    rw [e, num_s]
    exact ⟨10 * a + d, rfl, by omega⟩
theorem znv_2 (p a : Nat) (ha : a ≤ 9) : ∃ b, znv f t 2 p (nI a) = nI b ∧ b < 1000 := by
  show ∃ b, cond (dg f p t) (znv f t 1 (p + 1) (10 * nI a + (f p - nI 48))) (nI a) = nI b ∧ b < 1000
  cases z : dg f p t with
  | false => exact ⟨a, rfl, by omega⟩
  | true =>
    obtain ⟨d, hd, e⟩ := dg_nI z
    rw [e, num_s]
    exact znv_1 (p + 1) (10 * a + d) (by omega)
theorem znv_3 (p : Nat) : ∃ b, znv f t 3 p 0 = nI b ∧ b < 1000 := by
  show ∃ b, cond (dg f p t) (znv f t 2 (p + 1) (10 * 0 + (f p - nI 48))) 0 = nI b ∧ b < 1000
  cases z : dg f p t with
  | false => exact ⟨0, rfl, by omega⟩
  | true =>
    obtain ⟨d, hd, e⟩ := dg_nI z
    rw [e, show (0 : Int32) = nI 0 from rfl, num_s]
    exact znv_2 (p + 1) (10 * 0 + d) (by omega)
theorem znv_nbr : ∀ (k p : Nat) (v : Int32), (nbr f t k p v).2 = znv f t k p v
  | 0, _, _ => rfl
  | k + 1, p, v => by
    show (cond (dg f p t) (nbr f t k (p + 1) (10 * v + f p - 48)) (p, v)).2 = cond (dg f p t) (znv f t k (p + 1) (10 * v + (f p - nI 48))) v
    cases dg f p t with
    | false => rfl
    | true =>
      have e : 10 * v + f p - 48 = 10 * v + (f p - nI 48) := by
        rw [Int32.sub_eq_add_neg, Int32.sub_eq_add_neg, Int32.add_assoc]
        rfl
      rw [e]
      exact znv_nbr k (p + 1) _
/-- a thing -/
theorem den_th {st : Nat → Bool × Nat} {sc rc : Nat → List Int32} {ns p : Nat} (hs : ∀ p, (st p).1 = true → den q cc gc (sc p) (rc p)) (e : (zth st f t ns p).1 = true) : den q cc gc (cth sc f t p) (rth rc f t p) := by
  unfold zth at e
  unfold cth rth
  cases z1 : dg f p t with
  | true =>
    obtain ⟨b, eb, hb⟩ := znv_3 (f := f) (t := t) p
    show den q cc gc [znv f t 3 p 0] [(nbr f t 3 p 0).2]
    rw [znv_nbr, eb]
    exact den_num hb
  | false =>
    rw [z1] at e
    cases z2 : (decide (p < t) && zlet (f p)) with
    | true =>
      rw [Bool.and_eq_true] at z2
      exact den_let z2.2
    | false =>
      rw [z2] at e
      cases z3 : (decide (p < t ∧ f p = nI 40) && decide (ns < 4)) with
      | false =>
        rw [z3] at e
        cases e
      | true =>
        rw [z3] at e
        cases z4 : ((st (p + 1)).1 && decide ((st (p + 1)).2 < t ∧ f (st (p + 1)).2 = nI 41)) with
        | false =>
          rw [z4] at e
          cases e
        | true =>
          rw [Bool.and_eq_true] at z4
          exact hs (p + 1) z4.1
theorem neg_M (A : Nat → Int32) (v : Int32) (s : List Int32) : stM q cc gc A (v :: s) (nI 3000) = -v :: s := by
  unfold stM
  rw [show pm_cmp .ne (nI 3000) (nI 3000) = false from by decide]
  rfl
theorem neg_X (A : Nat → Int32) (v : Int32) (s : List Int32) : stX q cc gc A (v :: s) (Int32.ofInt (-126)) = -v :: s := by
  unfold stX
  have e : v67 q cc gc (-(Int32.ofInt (-126))) = Int32.ofInt (-1) := by
    rw [show -(Int32.ofInt (-126)) = nI 126 from by decide]
    unfold v67
    rw [show pm_cmp .eq (nI 126) (nI 100) = false from by decide, show pm_cmp .eq (nI 126) (nI 101) = false from by decide, show pm_cmp .eq (nI 126) (nI 104) = false from by decide, show pm_cmp .eq (nI 126) (nI 107) = false from by decide, show pm_cmp .eq (nI 126) (nI 114) = false from by decide, show pm_cmp .eq (nI 126) (nI 115) = false from by decide, show pm_cmp .eq (nI 126) (nI 119) = false from by decide]
    rfl
  rw [show pm_cmp .lt (Int32.ofInt (-126)) 0 = true from by decide, e, show pm_cmp .lt (Int32.ofInt (-1)) 0 = true from by decide]
  show stO q cc gc (v :: s) (Int32.ofInt (-126)) = _
  unfold stO
  rw [show pm_cmp .ne (Int32.ofInt (-126)) (Int32.ofInt (-126)) = false from by decide]
  rfl
theorem neg_neg32 (v : Int32) : -(-v) = v := Int32.neg_neg
theorem neg_rep (A : Nat → Int32) : ∀ (k : Nat) (v : Int32) (s : List Int32), (List.replicate k (nI 3000)).foldl (stM q cc gc A) (v :: s) = cond (decide (k % 2 = 1)) (-v) v :: s
  | 0, _, _ => rfl
  | k + 1, v, s => by
    rw [List.replicate_succ, List.foldl_cons, neg_M, neg_rep A k]
    by_cases z : k % 2 = 1
    · rw [decide_eq_true z, decide_eq_false (by omega)]
      show -(-v) :: s = v :: s
      rw [neg_neg32]
    · rw [decide_eq_false z, decide_eq_true (by omega)]
      rfl
theorem zng_par : ∀ (k p : Nat) (b : Bool), zng f t k p b = cond (decide ((zmi f t k p - p) % 2 = 1)) (!b) b
  | 0, p, b => by
    show b = cond (decide ((p - p) % 2 = 1)) (!b) b
    rw [Nat.sub_self]
    rfl
  | k + 1, p, b => by
    show cond (decide (p < t ∧ f p = nI 45)) (zng f t k (p + 1) (!b)) b = cond (decide ((cond (decide (p < t ∧ f p = nI 45)) (zmi f t k (p + 1)) p - p) % 2 = 1)) (!b) b
    cases decide (p < t ∧ f p = nI 45) with
    | false =>
      show b = cond (decide ((p - p) % 2 = 1)) (!b) b
      rw [Nat.sub_self]
      rfl
    | true =>
      show zng f t k (p + 1) (!b) = cond (decide ((zmi f t k (p + 1) - p) % 2 = 1)) (!b) b
      rw [zng_par k (p + 1) (!b)]
      have hg := zmi_ge (f := f) (t := t) k (p + 1)
      by_cases z : (zmi f t k (p + 1) - (p + 1)) % 2 = 1
      · rw [decide_eq_true z, decide_eq_false (by omega)]
        cases b <;> rfl
      · rw [decide_eq_false z, decide_eq_true (by omega)]
        rfl
theorem den_neg (k : Nat) : denL q cc gc (cond (decide (k % 2 = 1)) [Int32.ofInt (-126)] []) (List.replicate k (nI 3000)) := by
  refine ⟨fun _ v => cond (decide (k % 2 = 1)) (-v) v, fun A v s => ⟨?_, neg_rep A k v s⟩⟩
  cases decide (k % 2 = 1) with
  | true => exact neg_X (q := q) (cc := cc) (gc := gc) A v s
  | false => rfl
/-- operations of one level, one behind the other -/
theorem den_lp {st : Nat → Bool × Nat} {sc rc : Nat → List Int32} {o : Nat} (ho : o < 3) (hs : ∀ p, (st p).1 = true → den q cc gc (sc p) (rc p)) : ∀ (k p : Nat), (zlp st f t o k p).1 = true → denL q cc gc (clp sc st f t o k p) (rlp rc st f t o k p)
  | 0, _, _ => denL_nil
  | k + 1, p, e => by
    have e : (cond (decide (p < t) && zlev o (f p)) (cond (st (p + 1)).1 (zlp st f t o k (st (p + 1)).2) (false, (st (p + 1)).2)) (true, p)).1 = true := e
    show denL q cc gc (cond (decide (p < t) && zlev o (f p)) (sc (p + 1) ++ (-(f p)) :: clp sc st f t o k (st (p + 1)).2) []) (cond (decide (p < t) && zlev o (f p)) (rc (p + 1) ++ rop o (f p) :: rlp rc st f t o k (st (p + 1)).2) [])
    cases z1 : (decide (p < t) && zlev o (f p)) with
    | false => exact denL_nil
    | true =>
      rw [z1] at e
      cases z2 : (st (p + 1)).1 with
      | false =>
        rw [z2] at e
        cases e
      | true =>
        rw [z2] at e
        rw [Bool.and_eq_true] at z1
        obtain ⟨J, hJ⟩ := op_lev (q := q) (cc := cc) (gc := gc) ho z1.2
        exact denL_op (hs (p + 1) z2) hJ (den_lp ho hs k (st (p + 1)).2 e)
theorem den_all : ∀ (m o ns p : Nat), o ≤ 3 → (pz f t m o ns p).1 = true → den q cc gc (pc f t m o ns p) (pr f t m o ns p)
  | 0, _, _, _, _, e => by cases e
  | m + 1, o, ns, p, ho, e => by
    have e : (cond (Nat.ble 3 o) (zth (pz f t m 0 (ns + 1)) f t ns (zmi f t 40 p)) (cond (pz f t m (o + 1) ns p).1 (zlp (pz f t m (o + 1) ns) f t o (cond (Nat.beq o 0) 1 40) (pz f t m (o + 1) ns p).2) (false, (pz f t m (o + 1) ns p).2))).1 = true := e
    show den q cc gc (cond (Nat.ble 3 o) (cth (pc f t m 0 (ns + 1)) f t (zmi f t 40 p) ++ cond (zng f t 40 p false) [Int32.ofInt (-126)] []) (pc f t m (o + 1) ns p ++ clp (pc f t m (o + 1) ns) (pz f t m (o + 1) ns) f t o (cond (Nat.beq o 0) 1 40) (pz f t m (o + 1) ns p).2)) (cond (Nat.ble 3 o) (rth (pr f t m 0 (ns + 1)) f t (zmi f t 40 p) ++ List.replicate (zmi f t 40 p - p) (nI 3000)) (pr f t m (o + 1) ns p ++ rlp (pr f t m (o + 1) ns) (pz f t m (o + 1) ns) f t o (cond (Nat.beq o 0) 1 40) (pz f t m (o + 1) ns p).2))
    cases z1 : Nat.ble 3 o with
    | true =>
      rw [z1] at e
      have h1 := den_th (q := q) (cc := cc) (gc := gc) (sc := pc f t m 0 (ns + 1)) (rc := pr f t m 0 (ns + 1)) (fun p y => den_all m 0 (ns + 1) p (by omega) y) e
      have h2 : zng f t 40 p false = decide ((zmi f t 40 p - p) % 2 = 1) := by
        rw [zng_par]
        cases decide ((zmi f t 40 p - p) % 2 = 1) <;> rfl
      rw [h2]
      exact den_app h1 (den_neg _)
    | false =>
      rw [z1] at e
      have e : (cond (pz f t m (o + 1) ns p).1 (zlp (pz f t m (o + 1) ns) f t o (cond (Nat.beq o 0) 1 40) (pz f t m (o + 1) ns p).2) (false, (pz f t m (o + 1) ns p).2)).1 = true := e
      have ho2 : o < 3 := by
        rcases Nat.lt_or_ge o 3 with y | y
        · exact y
        · rw [Nat.ble_eq_true_of_le y] at z1
          cases z1
      cases z2 : (pz f t m (o + 1) ns p).1 with
      | false =>
        rw [z2] at e
        cases e
      | true =>
        rw [z2] at e
        exact den_app (den_all m (o + 1) ns p (by omega) z2) (den_lp ho2 (fun p y => den_all m (o + 1) ns p (by omega) y) _ _ e)
end DEN
