/-! the ways: the shortest lengths, step by step and in place -/
section FAR
/-- the least of x and of f b for b below n where p b -/
def lmn (p : Nat → Bool) (f : Nat → Nat) (x : Nat) : Nat → Nat
  | 0 => x
  | n + 1 => cond (p n) (min (lmn p f x n) (f n)) (lmn p f x n)
theorem lmn_x {p : Nat → Bool} {f : Nat → Nat} {x : Nat} : ∀ n, lmn p f x n ≤ x
  | 0 => Nat.le_refl _
  | n + 1 => by
    have := lmn_x (p := p) (f := f) (x := x) n
    unfold lmn
    cases p n with
    | true => exact Nat.le_trans (Nat.min_le_left _ _) this
    | false => exact this
theorem lmn_f {p : Nat → Bool} {f : Nat → Nat} {x b : Nat} : ∀ n, b < n → p b = true → lmn p f x n ≤ f b
  | 0, h, _ => by omega
  | n + 1, h, e => by
    unfold lmn
    by_cases q : b = n
    · subst q
      rw [e]
      exact Nat.min_le_right _ _
    · have := lmn_f (p := p) (f := f) (x := x) n (by omega) e
      cases p n with
      | true => exact Nat.le_trans (Nat.min_le_left _ _) this
      | false => exact this
theorem lmn_or {p : Nat → Bool} {f : Nat → Nat} {x : Nat} : ∀ n, lmn p f x n = x ∨ ∃ b, b < n ∧ p b = true ∧ lmn p f x n = f b
  | 0 => Or.inl rfl
  | n + 1 => by
    have ih := lmn_or (p := p) (f := f) (x := x) n
    unfold lmn
    cases e : p n with
    | false =>
      rcases ih with ih | ⟨b, h1, h2, h3⟩
      · exact Or.inl ih
      · exact Or.inr ⟨b, by omega, h2, h3⟩
    | true =>
      show min (lmn p f x n) (f n) = x ∨ _
      by_cases q : f n ≤ lmn p f x n
      · exact Or.inr ⟨n, by omega, e, Nat.min_eq_right q⟩
      · have : min (lmn p f x n) (f n) = lmn p f x n := Nat.min_eq_left (by omega)
        rw [this]
        rcases ih with ih | ⟨b, h1, h2, h3⟩
        · exact Or.inl ih
        · exact Or.inr ⟨b, by omega, h2, h3⟩
def INF : Nat := 1000000
/-- the roads w, n courts, the end t: lengths with up to k roads -/
def lD (w : Nat → Nat → Nat) (n t : Nat) : Nat → Nat → Nat
  | 0, a => if a = t then 0 else INF
  | k + 1, a => lmn (fun b => decide (0 < w a b)) (fun b => lD w n t k b + w a b) (lD w n t k a) n
variable {w : Nat → Nat → Nat} {n t : Nat}
theorem lD_dec1 (k a : Nat) : lD w n t (k + 1) a ≤ lD w n t k a := lmn_x n
theorem lD_dec {i k : Nat} (a : Nat) (h : i ≤ k) : lD w n t k a ≤ lD w n t i a := by
  induction k with
  | zero => rw [show i = 0 by omega]; exact Nat.le_refl _
  | succ k ih =>
    by_cases q : i = k + 1
    · subst q; exact Nat.le_refl _
    · exact Nat.le_trans (lD_dec1 k a) (ih (by omega))
theorem lD_step {k a b : Nat} (hb : b < n) (hw : 0 < w a b) : lD w n t (k + 1) a ≤ lD w n t k b + w a b := lmn_f (f := fun b => lD w n t k b + w a b) n hb (decide_eq_true hw)
theorem lD_or (k a : Nat) : lD w n t (k + 1) a = lD w n t k a ∨ ∃ b, b < n ∧ 0 < w a b ∧ lD w n t (k + 1) a = lD w n t k b + w a b := by
  rcases lmn_or (p := fun b => decide (0 < w a b)) (f := fun b => lD w n t k b + w a b) (x := lD w n t k a) n with q | ⟨b, h1, h2, h3⟩
  · exact Or.inl q
  · exact Or.inr ⟨b, h1, of_decide_eq_true h2, h3⟩
/-- a list of different numbers below n has at most n -/
theorem nd_len : ∀ (n : Nat) (l : List Nat), l.Nodup → (∀ x, x ∈ l → x < n) → l.length ≤ n
  | 0, l, _, h => by
    cases l with
    | nil => exact Nat.le_refl _
    | cons x l => exact absurd (h x (List.mem_cons_self)) (by omega)
  | n + 1, l, hd, h => by
    by_cases q : n ∈ l
    · have h1 := nd_len n (l.erase n) (hd.erase n) (fun x hx => by
        have := (List.Nodup.mem_erase_iff hd).mp hx
        have h2 := h x this.2
        have h3 := this.1
        omega)
      have h2 := List.length_erase_of_mem q
      omega
    · have h1 := nd_len n l hd (fun x hx => by
        have h2 := h x hx
        have h3 : x ≠ n := fun e => q (e ▸ hx)
        omega)
      omega
theorem lD_chain : ∀ (k a : Nat), a < n → (k = 0 ∧ a = t ∨ ∃ j, k = j + 1 ∧ lD w n t (j + 1) a < lD w n t j a) → ∃ l : List Nat, l.length = k + 1 ∧ l.Nodup ∧ ∀ x, x ∈ l → x < n ∧ ∃ i, i ≤ k ∧ lD w n t i x ≤ lD w n t k a
  | 0, a, ha, h => ⟨[a], rfl, by simp, fun x hx => by
      have : x = a := by simpa using hx
      subst this
      exact ⟨ha, 0, Nat.le_refl _, Nat.le_refl _⟩⟩
  | k + 1, a, ha, h => by
    have h1 : lD w n t (k + 1) a < lD w n t k a := by
      rcases h with ⟨q, -⟩ | ⟨j, q, e⟩
      · omega
      · rw [show k = j by omega]; exact e
    rcases lD_or (w := w) (n := n) (t := t) k a with q | ⟨b, hb, hw, e⟩
    · omega
    · have h2 : k = 0 ∧ b = t ∨ ∃ j, k = j + 1 ∧ lD w n t (j + 1) b < lD w n t j b := by
        cases k with
        | zero =>
          refine Or.inl ⟨rfl, ?_⟩
          by_cases z : b = t
          · exact z
          · have e0 : lD w n t 0 b = INF := if_neg z
            have e1 : lD w n t 0 a ≤ INF := by
              show (if a = t then 0 else INF) ≤ INF
              split
              · exact Nat.zero_le _
              · exact Nat.le_refl _
            omega
        | succ j =>
          refine Or.inr ⟨j, rfl, ?_⟩
          have h3 := lD_dec1 (w := w) (n := n) (t := t) j b
          have h4 := lD_step (w := w) (n := n) (t := t) (k := j) (a := a) hb hw
          omega
      obtain ⟨l, l1, l2, l3⟩ := lD_chain k b hb h2
      refine ⟨a :: l, by simp [l1], List.nodup_cons.mpr ⟨fun m => ?_, l2⟩, fun x hx => ?_⟩
      · obtain ⟨-, i, hi, hv⟩ := l3 a m
        have := lD_dec (w := w) (n := n) (t := t) a hi
        omega
      · rcases List.mem_cons.mp hx with rfl | hx
        · exact ⟨ha, k + 1, Nat.le_refl _, Nat.le_refl _⟩
        · obtain ⟨h5, i, hi, hv⟩ := l3 x hx
          exact ⟨h5, i, by omega, by omega⟩
theorem lD_fix {a : Nat} (ha : a < n) : lD w n t (n + 1) a = lD w n t n a := by
  have h1 := lD_dec1 (w := w) (n := n) (t := t) n a
  by_cases q : lD w n t (n + 1) a < lD w n t n a
  · obtain ⟨l, l1, l2, l3⟩ := lD_chain (w := w) (n := n) (t := t) (n + 1) a ha (Or.inr ⟨n, rfl, q⟩)
    have := nd_len n l l2 (fun x hx => (l3 x hx).1)
    omega
  · omega
theorem lD_le {a b : Nat} (ha : a < n) (hb : b < n) (hw : 0 < w a b) : lD w n t n a ≤ lD w n t n b + w a b := by
  rw [← lD_fix ha]
  exact lD_step hb hw
theorem lD_wit {a : Nat} (hat : a ≠ t) : ∀ k, lD w n t k a < INF → ∃ b, b < n ∧ 0 < w a b ∧ lD w n t k b + w a b ≤ lD w n t k a
  | 0, h => by
    have e0 : lD w n t 0 a = INF := if_neg hat
    omega
  | k + 1, h => by
    rcases lD_or (w := w) (n := n) (t := t) k a with q | ⟨b, hb, hw, e⟩
    · obtain ⟨b, h1, h2, h3⟩ := lD_wit hat k (by omega)
      have := lD_dec1 (w := w) (n := n) (t := t) k b
      exact ⟨b, h1, h2, by omega⟩
    · have := lD_dec1 (w := w) (n := n) (t := t) k b
      exact ⟨b, hb, hw, by omega⟩
theorem lD_eqw {a : Nat} (ha : a < n) (hat : a ≠ t) (h : lD w n t n a < INF) : ∃ b, b < n ∧ 0 < w a b ∧ lD w n t n b + w a b = lD w n t n a := by
  obtain ⟨b, h1, h2, h3⟩ := lD_wit hat n h
  have := lD_le (w := w) (n := n) (t := t) ha h1 h2
  exact ⟨b, h1, h2, by omega⟩
theorem lD_bd (h9 : ∀ a b, a < n → b < n → w a b ≤ 9) : ∀ k a, a < n → lD w n t k a = INF ∨ lD w n t k a ≤ 9 * k
  | 0, a, _ => by
    by_cases q : a = t
    · exact Or.inr (by have : lD w n t 0 a = 0 := if_pos q; omega)
    · exact Or.inl (if_neg q)
  | k + 1, a, ha => by
    rcases lD_or (w := w) (n := n) (t := t) k a with q | ⟨b, hb, hw, e⟩
    · rcases lD_bd h9 k a ha with z | z
      · exact Or.inl (q.trans z)
      · exact Or.inr (by omega)
    · have := h9 a b ha hb
      rcases lD_bd h9 k b hb with z | z
      · have h1 := lD_dec (w := w) (n := n) (t := t) a (Nat.zero_le (k + 1))
        have h2 : lD w n t 0 a ≤ INF := by
          show (if a = t then 0 else INF) ≤ INF
          split
          · exact Nat.zero_le _
          · exact Nat.le_refl _
        omega
      · exact Or.inr (by omega)
/-- one step in place -/
def fst1 (w : Nat → Nat → Nat) (f : Nat → Nat) (a b : Nat) : Nat → Nat := fun j => if j = a then (if 0 < w a b then min (f a) (f b + w a b) else f a) else f j
theorem fst1_le (f : Nat → Nat) (a b j : Nat) : fst1 w f a b j ≤ f j := by
  unfold fst1
  split
  · rename_i e
    subst e
    split
    · exact Nat.min_le_left _ _
    · exact Nat.le_refl _
  · exact Nat.le_refl _
theorem fst1_lo {f : Nat → Nat} {a b : Nat} (ha : a < n) (hb : b < n) (h : ∀ j, j < n → lD w n t n j ≤ f j) : ∀ j, j < n → lD w n t n j ≤ fst1 w f a b j := by
  intro j hj
  unfold fst1
  split
  · rename_i e
    subst e
    split
    · rename_i hw
      have h1 := h j hj
      have h2 := h b hb
      have h3 := lD_le (w := w) (n := n) (t := t) ha hb hw
      omega
    · exact h j hj
  · exact h j hj
/-- in place, in round r at row a, column b: what is known -/
def fOk (w : Nat → Nat → Nat) (n t r a b : Nat) (f : Nat → Nat) : Prop := (∀ j, j < n → lD w n t n j ≤ f j) ∧ (∀ j, j < n → f j ≤ lD w n t r j) ∧ (∀ j, j < n → j < a → f j ≤ lD w n t (r + 1) j) ∧ (∀ c, c < b → c < n → 0 < w a c → f a ≤ lD w n t r c + w a c)
theorem fOk_0 : fOk w n t 0 0 0 (fun j => if j = t then 0 else INF) := ⟨fun j _ => lD_dec j (Nat.zero_le _), fun j _ => Nat.le_refl _, fun j _ h => by omega, fun c h => by omega⟩
theorem fOk_b {r a b : Nat} {f : Nat → Nat} (ha : a < n) (hb : b < n) (h : fOk w n t r a b f) : fOk w n t r a (b + 1) (fst1 w f a b) := by
  obtain ⟨h1, h2, h3, h4⟩ := h
  refine ⟨fst1_lo ha hb h1, fun j hj => Nat.le_trans (fst1_le _ _ _ _) (h2 j hj), fun j hj q => Nat.le_trans (fst1_le _ _ _ _) (h3 j hj q), fun c hc hcn hw => ?_⟩
  by_cases q : c = b
  · subst q
    have e : fst1 w f a c a = min (f a) (f c + w a c) := by
      unfold fst1
      rw [if_pos rfl, if_pos hw]
    have := h2 c hcn
    omega
  · exact Nat.le_trans (fst1_le _ _ _ _) (h4 c (by omega) hcn hw)
theorem fOk_a {r a : Nat} {f : Nat → Nat} (ha : a < n) (h : fOk w n t r a n f) : fOk w n t r (a + 1) 0 f := by
  obtain ⟨h1, h2, h3, h4⟩ := h
  refine ⟨h1, h2, fun j hj q => ?_, fun c hc => by omega⟩
  by_cases z : j = a
  · subst z
    rcases lD_or (w := w) (n := n) (t := t) r j with e | ⟨b, hb, hw, e⟩
    · rw [e]; exact h2 j hj
    · rw [e]; exact h4 b hb hb hw
  · exact h3 j hj (by omega)
theorem fOk_r {r : Nat} {f : Nat → Nat} (h : fOk w n t r n 0 f) : fOk w n t (r + 1) 0 0 f := ⟨h.1, fun j hj => h.2.2.1 j hj hj, fun j _ q => by omega, fun c hc => by omega⟩
theorem fOk_end {f : Nat → Nat} (h : fOk w n t n 0 0 f) : ∀ j, j < n → f j = lD w n t n j := fun j hj => Nat.le_antisymm (h.2.1 j hj) (h.1 j hj)
end FAR
