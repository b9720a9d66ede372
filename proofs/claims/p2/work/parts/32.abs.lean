/-! AN ABSTRACT MACHINE over the pure one: ints and longs by intervals, references by sets {a + 6 j | j < n}, heaps by cells of these. It is closed data, so the kernel runs it. -/
abbrev av : Type := Nat × Int × Int
abbrev ac : Type := (Nat × Nat × av) ⊕ (Nat × List av)
abbrev ah : Type := List (Nat × ac)
abbrev ast : Type := Nat × List (Option av) × List av × ah
/-- so many, 6 apart; from 1000 on: n / 1000 apart -/
def av_ids (a : av) : List Nat := (List.range (a.2.2.toNat % 1000)).map (fun j => a.2.1.toNat + cond (Nat.blt a.2.2.toNat 1000) 6 (a.2.2.toNat / 1000) * j)
/-- 0 an int, 1 a long, 2 a reference to one of some cells, 3 null, 4 the reference to one of the cells outside -/
def av_ok (v : Value) (a : av) : Prop := match v with
  | .int x => a.1 = 0 ∧ a.2.1 ≤ x.toInt ∧ x.toInt ≤ a.2.2
  | .long x => a.1 = 1 ∧ a.2.1 ≤ x.toInt ∧ x.toInt ≤ a.2.2
  | .ref p => a.1 = 2 ∧ p ∈ av_ids a
  | .null => a.1 = 3
  | .retAddr i => a.1 = 4 ∧ a.2.1 = (i : Int)
  | _ => False
/-- the element j of an array: of references, the one at a + 6 j -/
def aq (a : av) (j : Nat) : av := if a.1 = 2 then (2, a.2.1 + 6 * (j : Int), 1) else a
def ac_ok (e : pm_E) (c : ac) : Prop := match e, c with
  | .inl (kd, n, .inl f), .inl (kd', n', a) => kd = kd' ∧ n = n' ∧ ∀ j, j < n → av_ok (.int (f j)) a
  | .inl (kd, n, .inr (.inl f)), .inl (kd', n', a) => kd = kd' ∧ n = n' ∧ ∀ j, j < n → av_ok (.long (f j)) a
  | .inl (kd, n, .inr (.inr (.inr (.inr f)))), .inl (kd', n', a) => kd = kd' ∧ n = n' ∧ ∀ j, j < n → av_ok (va_rf (f j)) (aq a j)
  | .inl (kd, n, .inl f), .inr (c, as) => c = 1000 + kd ∧ n = as.length ∧ ∀ (j : Nat) (a : av), as[j]? = some a → av_ok (.int (f j)) a
  | .inr (ci, fs), .inr (ci', as) => (ci = ci' ∧ ci < 1000) ∧ fs.length = as.length ∧ ∀ (i : Nat) (v : Value) (a : av), fs[i]? = some v → as[i]? = some a → av_ok v a
  | _, _ => False
def ah_get (B : Nat → ac) (o : ah) (i : Nat) : ac := match pm_fd o i with
  | some c => c
  | none => B i
def ah_ok (B : Nat → ac) (sz : Nat) (o : ah) (h : pm_H) : Prop := ∀ i, i < sz → ac_ok (h i) (ah_get B o i)
def al_ok (L : pm_L) (A : List (Option av)) : Prop := L.length = A.length ∧ ∀ (i : Nat) (a : av), A[i]? = some (some a) → ∃ v, pm_get L i = some v ∧ av_ok v a
def as_ok : List Value → List av → Prop
  | [], [] => True
  | v :: vs, a :: as => av_ok v a ∧ as_ok vs as
  | _, _ => False
/-- the pure state st is one of those that s tells -/
def ast_ok (B : Nat → ac) (sz sl : Nat) (s : ast) (st : pm_St) : Prop := st.1 = s.1 ∧ al_ok st.2.1 s.2.1 ∧ as_ok st.2.2.1 s.2.2.1 ∧ ah_ok B sz s.2.2.2 st.2.2.2.1 ∧ st.2.2.2.2.1 = sz ∧ st.2.2.2.2.2 = sl
def ai_lo : Int := -2147483648
def ai_hi : Int := 2147483647
def ai_top : av := (0, ai_lo, ai_hi)
/-- an interval, if it lies within the ints; else all of them -/
def ai_mk (lo hi : Int) : av := if ai_lo ≤ lo ∧ hi ≤ ai_hi then (0, lo, hi) else ai_top
def al_lo : Int := -9223372036854775808
def al_hi : Int := 9223372036854775807
def al_top : av := (1, al_lo, al_hi)
def al_mk (lo hi : Int) : av := if al_lo ≤ lo ∧ hi ≤ al_hi then (1, lo, hi) else al_top
theorem ai_rng (x : Int32) : ai_lo ≤ x.toInt ∧ x.toInt ≤ ai_hi := by
  have h1 := Int32.le_toInt x
  have h2 := Int32.toInt_lt x
  unfold ai_lo ai_hi
  omega
theorem al_rng (x : Int64) : al_lo ≤ x.toInt ∧ x.toInt ≤ al_hi := by
  have h1 := Int64.le_toInt x
  have h2 := Int64.toInt_lt x
  unfold al_lo al_hi
  omega
theorem ai_top_ok (x : Int32) : av_ok (.int x) ai_top := ⟨rfl, ai_rng x⟩
theorem al_top_ok (x : Int64) : av_ok (.long x) al_top := ⟨rfl, al_rng x⟩
theorem ai_mk_ok {x : Int32} {z lo hi : Int} (e : ai_lo ≤ z → z ≤ ai_hi → x.toInt = z) (h1 : lo ≤ z) (h2 : z ≤ hi) : av_ok (.int x) (ai_mk lo hi) := by
  unfold ai_mk
  split
  · rename_i h
    have := e (by omega) (by omega)
    exact ⟨rfl, by dsimp only; omega, by dsimp only; omega⟩
  · exact ai_top_ok x
theorem al_mk_ok {x : Int64} {z lo hi : Int} (e : al_lo ≤ z → z ≤ al_hi → x.toInt = z) (h1 : lo ≤ z) (h2 : z ≤ hi) : av_ok (.long x) (al_mk lo hi) := by
  unfold al_mk
  split
  · rename_i h
    have := e (by omega) (by omega)
    exact ⟨rfl, by dsimp only; omega, by dsimp only; omega⟩
  · exact al_top_ok x
theorem as_cons {vs : List Value} {a : av} {as : List av} (h : as_ok vs (a :: as)) : ∃ v r, vs = v :: r ∧ av_ok v a ∧ as_ok r as := by
  match vs, h with
  | v :: r, h => exact ⟨v, r, rfl, h.1, h.2⟩
theorem av_int {v : Value} {a : av} (ha : a.1 = 0) (h : av_ok v a) : ∃ x : Int32, v = .int x ∧ a.2.1 ≤ x.toInt ∧ x.toInt ≤ a.2.2 := by
  cases v with
  | int x => exact ⟨x, rfl, h.2⟩
  | long x => have := h.1; omega
  | ref x => have := h.1; omega
  | null => have h : a.1 = 3 := h; omega
  | retAddr x => have := h.1; omega
  | _ => exact h.elim
theorem av_long {v : Value} {a : av} (ha : a.1 = 1) (h : av_ok v a) : ∃ x : Int64, v = .long x ∧ a.2.1 ≤ x.toInt ∧ x.toInt ≤ a.2.2 := by
  cases v with
  | long x => exact ⟨x, rfl, h.2⟩
  | int x => have := h.1; omega
  | ref x => have := h.1; omega
  | null => have h : a.1 = 3 := h; omega
  | retAddr x => have := h.1; omega
  | _ => exact h.elim
theorem av_ref {v : Value} {a : av} (ha : a.1 = 2) (h : av_ok v a) : ∃ p : Nat, v = .ref p ∧ p ∈ av_ids a := by
  cases v with
  | ref x => exact ⟨x, rfl, h.2⟩
  | int x => have := h.1; omega
  | long x => have := h.1; omega
  | null => have h : a.1 = 3 := h; omega
  | retAddr x => have := h.1; omega
  | _ => exact h.elim
theorem av_cat {v : Value} {a : av} (h : av_ok v a) : v.category = if a.1 = 1 then 2 else 1 := by
  cases v with
  | int x => have := h.1; simp [Value.category, this]
  | long x => have := h.1; simp [Value.category, this]
  | ref x => have := h.1; simp [Value.category, this]
  | null => have h : a.1 = 3 := h; simp [Value.category, h]
  | retAddr x => have := h.1; simp [Value.category, this]
  | _ => exact h.elim
/-! joins -/
def av_join (a b : av) : Option av := if a.1 = b.1 then (if a.1 ≤ 1 then some (a.1, min a.2.1 b.2.1, max a.2.2 b.2.2) else if a = b then some a else none) else none
theorem av_join_ok {a b c : av} (h : av_join a b = some c) {v : Value} : (av_ok v a → av_ok v c) ∧ (av_ok v b → av_ok v c) := by
  unfold av_join at h
  split at h
  · rename_i e1
    split at h
    · cases h
      constructor
      · intro q
        cases v with
        | int x => obtain ⟨q1, q2, q3⟩ := q; exact ⟨q1, by dsimp only; omega, by dsimp only; omega⟩
        | long x => obtain ⟨q1, q2, q3⟩ := q; exact ⟨q1, by dsimp only; omega, by dsimp only; omega⟩
        | ref x => have := q.1; omega
        | null => have q : a.1 = 3 := q; omega
        | retAddr x => have := q.1; omega
        | _ => exact q.elim
      · intro q
        cases v with
        | int x => obtain ⟨q1, q2, q3⟩ := q; exact ⟨by dsimp only; omega, by dsimp only; omega, by dsimp only; omega⟩
        | long x => obtain ⟨q1, q2, q3⟩ := q; exact ⟨by dsimp only; omega, by dsimp only; omega, by dsimp only; omega⟩
        | ref x => have := q.1; omega
        | null => have q : b.1 = 3 := q; omega
        | retAddr x => have := q.1; omega
        | _ => exact q.elim
    · split at h
      · rename_i e2; subst e2; cases h; exact ⟨id, id⟩
      · cases h
  · cases h
theorem aq_join {a b c : av} (h : av_join a b = some c) {v : Value} (j : Nat) : (av_ok v (aq a j) → av_ok v (aq c j)) ∧ (av_ok v (aq b j) → av_ok v (aq c j)) := by
  by_cases e : a.1 = 2
  · unfold av_join at h
    split at h
    · rw [if_neg (by omega)] at h
      split at h
      · rename_i e2
        subst e2
        cases h
        exact ⟨id, id⟩
      · cases h
    · cases h
  · have hk : b.1 = a.1 ∧ c.1 = a.1 := by
      unfold av_join at h
      split at h
      · rename_i e1
        split at h
        · cases h; exact ⟨e1.symm, rfl⟩
        · split at h
          · cases h; exact ⟨e1.symm, rfl⟩
          · cases h
      · cases h
    unfold aq
    rw [if_neg e, if_neg (by omega), if_neg (by omega)]
    exact av_join_ok h
/-- two lists, place by place -/
def al2 {α β γ : Type} (f : α → β → Option γ) : List α → List β → Option (List γ)
  | [], [] => some []
  | a :: r, b :: t => match f a b, al2 f r t with
    | some c, some u => some (c :: u)
    | _, _ => none
  | _, _ => none
theorem al2_get {α β γ : Type} {f : α → β → Option γ} : ∀ {l : List α} {t : List β} {u : List γ}, al2 f l t = some u → l.length = u.length ∧ t.length = u.length ∧ ∀ (i : Nat) (c : γ), u[i]? = some c → ∃ a b, l[i]? = some a ∧ t[i]? = some b ∧ f a b = some c
  | [], [], u, h => by
    cases (Option.some.inj h : [] = u)
    exact ⟨rfl, rfl, fun i c q => by simp at q⟩
  | a :: r, b :: t, u, h => by
    unfold al2 at h
    split at h
    · rename_i c u' e1 e2
      cases h
      obtain ⟨h1, h2, h3⟩ := al2_get e2
      refine ⟨by simp [h1], by simp [h2], fun i c' q => ?_⟩
      match i, q with
      | 0, q => cases (Option.some.inj q : c = c'); exact ⟨a, b, rfl, rfl, e1⟩
      | i + 1, q => exact h3 i c' q
    · cases h
  | [], _ :: _, u, h => by cases h
  | _ :: _, [], u, h => by cases h
def ac_join (c d : ac) : Option ac := match c, d with
  | .inl (k, n, a), .inl (k', n', b) => if k = k' ∧ n = n' then (match av_join a b with
    | some x => some (.inl (k, n, x))
    | none => none) else none
  | .inr (ci, as), .inr (ci', bs) => if ci = ci' then (match al2 av_join as bs with
    | some xs => some (.inr (ci, xs))
    | none => none) else none
  | _, _ => none
theorem ac_join_ok {c d x : ac} (h : ac_join c d = some x) {e : pm_E} : (ac_ok e c → ac_ok e x) ∧ (ac_ok e d → ac_ok e x) := by
  unfold ac_join at h
  split at h
  · rename_i k n a k' n' b
    split at h
    · rename_i e1
      obtain ⟨rfl, rfl⟩ := e1
      split at h
      · rename_i y e2
        cases h
        constructor
        · intro q
          obtain ⟨kd, m, f | f | f | f | f⟩ | ⟨ci, fs⟩ := e
          · exact ⟨q.1, q.2.1, fun j hj => (av_join_ok e2).1 (q.2.2 j hj)⟩
          · exact ⟨q.1, q.2.1, fun j hj => (av_join_ok e2).1 (q.2.2 j hj)⟩
          · exact q.elim
          · exact q.elim
          · exact ⟨q.1, q.2.1, fun j hj => (aq_join e2 j).1 (q.2.2 j hj)⟩
          · exact q.elim
        · intro q
          obtain ⟨kd, m, f | f | f | f | f⟩ | ⟨ci, fs⟩ := e
          · exact ⟨q.1, q.2.1, fun j hj => (av_join_ok e2).2 (q.2.2 j hj)⟩
          · exact ⟨q.1, q.2.1, fun j hj => (av_join_ok e2).2 (q.2.2 j hj)⟩
          · exact q.elim
          · exact q.elim
          · exact ⟨q.1, q.2.1, fun j hj => (aq_join e2 j).2 (q.2.2 j hj)⟩
          · exact q.elim
      · cases h
    · cases h
  · rename_i ci as ci' bs
    split at h
    · rename_i e1
      subst e1
      split at h
      · rename_i xs e2
        cases h
        obtain ⟨l1, l2, l3⟩ := al2_get e2
        constructor
        · intro q
          obtain ⟨kd, m, f | f | f | f | f⟩ | ⟨c2, fs⟩ := e
          · refine ⟨q.1, q.2.1.trans l1, fun j a h2 => ?_⟩
            obtain ⟨a1, b1, h3, h4, h5⟩ := l3 j a h2
            exact (av_join_ok h5).1 (q.2.2 j a1 h3)
          · exact q.elim
          · exact q.elim
          · exact q.elim
          · exact q.elim
          · refine ⟨q.1, q.2.1.trans l1, fun i v a h1 h2 => ?_⟩
            obtain ⟨a1, b1, h3, h4, h5⟩ := l3 i a h2
            exact (av_join_ok h5).1 (q.2.2 i v a1 h1 h3)
        · intro q
          obtain ⟨kd, m, f | f | f | f | f⟩ | ⟨c2, fs⟩ := e
          · refine ⟨q.1, q.2.1.trans l2, fun j a h2 => ?_⟩
            obtain ⟨a1, b1, h3, h4, h5⟩ := l3 j a h2
            exact (av_join_ok h5).2 (q.2.2 j b1 h4)
          · exact q.elim
          · exact q.elim
          · exact q.elim
          · exact q.elim
          · refine ⟨q.1, q.2.1.trans l2, fun i v a h1 h2 => ?_⟩
            obtain ⟨a1, b1, h3, h4, h5⟩ := l3 i a h2
            exact (av_join_ok h5).2 (q.2.2 i v b1 h1 h4)
      · cases h
    · cases h
  · cases h
/-! heaps -/
def ah_put : ah → Nat → ac → ah
  | [], i, c => [(i, c)]
  | e :: r, i, c => cond (Nat.beq e.1 i) ((i, c) :: r) (e :: ah_put r i c)
theorem ah_put_fd : ∀ (o : ah) (i : Nat) (c : ac) (j : Nat), pm_fd (ah_put o i c) j = if j = i then some c else pm_fd o j
  | [], i, c, j => by
    unfold ah_put pm_fd
    by_cases h : j = i
    · subst h; simp [pm_fd]
    · rw [if_neg h]
      have : Nat.beq i j = false := by
        cases hb : Nat.beq i j with
        | false => rfl
        | true => exact absurd (Nat.eq_of_beq_eq_true hb).symm h
      simp [this, pm_fd]
  | e :: r, i, c, j => by
    unfold ah_put
    cases hb : Nat.beq e.1 i with
    | true =>
      have he := Nat.eq_of_beq_eq_true hb
      dsimp only [cond]
      unfold pm_fd
      by_cases h : j = i
      · subst h; simp
      · rw [if_neg h]
        have h1 : Nat.beq i j = false := by
          cases hb : Nat.beq i j with
          | false => rfl
          | true => exact absurd (Nat.eq_of_beq_eq_true hb).symm h
        rw [he]
        simp [h1]
    | false =>
      dsimp only [cond]
      unfold pm_fd
      rw [ah_put_fd r i c j]
      by_cases h : j = i
      · subst h
        rw [hb]
        simp
      · rw [if_neg h, if_neg h]
theorem ah_put_get (B : Nat → ac) (o : ah) (i : Nat) (c : ac) (j : Nat) : ah_get B (ah_put o i c) j = if j = i then c else ah_get B o j := by
  unfold ah_get
  rw [ah_put_fd]
  by_cases h : j = i
  · rw [if_pos h, if_pos h]
  · rw [if_neg h, if_neg h]
/-- the cells of some places are joined with what they become -/
def ah_weak (B : Nat → ac) (f : ac → Option ac) : List Nat → ah → Option ah
  | [], o => some o
  | i :: r, o => match f (ah_get B o i) with
    | some c => (match ac_join (ah_get B o i) c with
      | some d => ah_weak B f r (ah_put o i d)
      | none => none)
    | none => none
def ah_upd (B : Nat → ac) (f : ac → Option ac) (is : List Nat) (o : ah) : Option ah := match is with
  | [i] => (match f (ah_get B o i) with
    | some c => some (ah_put o i c)
    | none => none)
  | is => ah_weak B f is o
