section MG70farx0
/-! the ways: the shortest lengths, step by step and in place -/
section FAR
/-- the least of x and of f b for b below n where p b -/
def lmn (p : Nat → Bool) (f : Nat → Nat) (x : Nat) : Nat → Nat
  | 0 => x
  | n + 1 => cond (p n) (min (lmn p f x n) (f n)) (lmn p f x n)
theorem lmn_x {p : Nat → Bool} {f : Nat → Nat} {x : Nat} : ∀ n, lmn p f x n ≤ x
  | 0 => Nat.le_refl _
  | n + 1 => by
    have := lmn_x (p := p) (f := f) (x := x) n
    unfold lmn
    cases p n with
    | true => exact Nat.le_trans (Nat.min_le_left _ _) this
    | false => exact this
theorem lmn_f {p : Nat → Bool} {f : Nat → Nat} {x b : Nat} : ∀ n, b < n → p b = true → lmn p f x n ≤ f b
  | 0, h, _ => by omega
  | n + 1, h, e => by
    unfold lmn
    by_cases q : b = n
    · subst q
      rw [e]
      exact Nat.min_le_right _ _
    · have := lmn_f (p := p) (f := f) (x := x) n (by omega) e
      cases p n with
      | true => exact Nat.le_trans (Nat.min_le_left _ _) this
      | false => exact this
theorem lmn_or {p : Nat → Bool} {f : Nat → Nat} {x : Nat} : ∀ n, lmn p f x n = x ∨ ∃ b, b < n ∧ p b = true ∧ lmn p f x n = f b
  | 0 => Or.inl rfl
  | n + 1 => by
    have ih := lmn_or (p := p) (f := f) (x := x) n
    unfold lmn
    cases e : p n with
    | false =>
      rcases ih with ih | ⟨b, h1, h2, h3⟩
      · exact Or.inl ih
      · exact Or.inr ⟨b, by omega, h2, h3⟩
    | true =>
      show min (lmn p f x n) (f n) = x ∨ _
      by_cases q : f n ≤ lmn p f x n
      · exact Or.inr ⟨n, by omega, e, Nat.min_eq_right q⟩
      · have : min (lmn p f x n) (f n) = lmn p f x n := Nat.min_eq_left (by omega)
        rw [this]
        rcases ih with ih | ⟨b, h1, h2, h3⟩
        · exact Or.inl ih
        · exact Or.inr ⟨b, by omega, h2, h3⟩
def INF : Nat := 1000000
/-- the roads w, n courts, the end t: lengths with up to k roads -/
def lD (w : Nat → Nat → Nat) (n t : Nat) : Nat → Nat → Nat
  | 0, a => if a = t then 0 else INF
  | k + 1, a => lmn (fun b => decide (0 < w a b)) (fun b => lD w n t k b + w a b) (lD w n t k a) n
variable {w : Nat → Nat → Nat} {n t : Nat}
theorem lD_dec1 (k a : Nat) : lD w n t (k + 1) a ≤ lD w n t k a := lmn_x n
theorem lD_dec {i k : Nat} (a : Nat) (h : i ≤ k) : lD w n t k a ≤ lD w n t i a := by
  induction k with
  | zero => rw [show i = 0 by omega]; exact Nat.le_refl _
  | succ k ih =>
    by_cases q : i = k + 1
    · subst q; exact Nat.le_refl _
    · exact Nat.le_trans (lD_dec1 k a) (ih (by omega))
theorem lD_step {k a b : Nat} (hb : b < n) (hw : 0 < w a b) : lD w n t (k + 1) a ≤ lD w n t k b + w a b := lmn_f (f := fun b => lD w n t k b + w a b) n hb (decide_eq_true hw)
theorem lD_or (k a : Nat) : lD w n t (k + 1) a = lD w n t k a ∨ ∃ b, b < n ∧ 0 < w a b ∧ lD w n t (k + 1) a = lD w n t k b + w a b := by
  rcases lmn_or (p := fun b => decide (0 < w a b)) (f := fun b => lD w n t k b + w a b) (x := lD w n t k a) n with q | ⟨b, h1, h2, h3⟩
  · exact Or.inl q
  · exact Or.inr ⟨b, h1, of_decide_eq_true h2, h3⟩
/-- a list of different numbers below n has at most n -/
theorem nd_len : ∀ (n : Nat) (l : List Nat), l.Nodup → (∀ x, x ∈ l → x < n) → l.length ≤ n
  | 0, l, _, h => by
    cases l with
    | nil => exact Nat.le_refl _
    | cons x l => exact absurd (h x (List.mem_cons_self)) (by omega)
  | n + 1, l, hd, h => by
    by_cases q : n ∈ l
    · have h1 := nd_len n (l.erase n) (hd.erase n) (fun x hx => by
        have := (List.Nodup.mem_erase_iff hd).mp hx
        have h2 := h x this.2
        have h3 := this.1
        omega)
      have h2 := List.length_erase_of_mem q
      omega
    · have h1 := nd_len n l hd (fun x hx => by
        have h2 := h x hx
        have h3 : x ≠ n := fun e => q (e ▸ hx)
        omega)
      omega
theorem lD_chain : ∀ (k a : Nat), a < n → (k = 0 ∧ a = t ∨ ∃ j, k = j + 1 ∧ lD w n t (j + 1) a < lD w n t j a) → ∃ l : List Nat, l.length = k + 1 ∧ l.Nodup ∧ ∀ x, x ∈ l → x < n ∧ ∃ i, i ≤ k ∧ lD w n t i x ≤ lD w n t k a
  | 0, a, ha, h => ⟨[a], rfl, by simp, fun x hx => by
      have : x = a := by simpa using hx
      subst this
      exact ⟨ha, 0, Nat.le_refl _, Nat.le_refl _⟩⟩
  | k + 1, a, ha, h => by
    have h1 : lD w n t (k + 1) a < lD w n t k a := by
      rcases h with ⟨q, -⟩ | ⟨j, q, e⟩
      · omega
      · rw [show k = j by omega]; exact e
    rcases lD_or (w := w) (n := n) (t := t) k a with q | ⟨b, hb, hw, e⟩
    · omega
    · have h2 : k = 0 ∧ b = t ∨ ∃ j, k = j + 1 ∧ lD w n t (j + 1) b < lD w n t j b := by
        cases k with
        | zero =>
          refine Or.inl ⟨rfl, ?_⟩
          by_cases z : b = t
          · exact z
          · have e0 : lD w n t 0 b = INF := if_neg z
            have e1 : lD w n t 0 a ≤ INF := by
              show (if a = t then 0 else INF) ≤ INF
              split
              · exact Nat.zero_le _
              · exact Nat.le_refl _
            omega
        | succ j =>
          refine Or.inr ⟨j, rfl, ?_⟩
          have h3 := lD_dec1 (w := w) (n := n) (t := t) j b
          have h4 := lD_step (w := w) (n := n) (t := t) (k := j) (a := a) hb hw
          omega
      obtain ⟨l, l1, l2, l3⟩ := lD_chain k b hb h2
      refine ⟨a :: l, by simp [l1], List.nodup_cons.mpr ⟨fun m => ?_, l2⟩, fun x hx => ?_⟩
      · obtain ⟨-, i, hi, hv⟩ := l3 a m
        have := lD_dec (w := w) (n := n) (t := t) a hi
        omega
      · rcases List.mem_cons.mp hx with rfl | hx
        · exact ⟨ha, k + 1, Nat.le_refl _, Nat.le_refl _⟩
        · obtain ⟨h5, i, hi, hv⟩ := l3 x hx
          exact ⟨h5, i, by omega, by omega⟩
theorem lD_fix {a : Nat} (ha : a < n) : lD w n t (n + 1) a = lD w n t n a := by
  have h1 := lD_dec1 (w := w) (n := n) (t := t) n a
  by_cases q : lD w n t (n + 1) a < lD w n t n a
  · obtain ⟨l, l1, l2, l3⟩ := lD_chain (w := w) (n := n) (t := t) (n + 1) a ha (Or.inr ⟨n, rfl, q⟩)
    have := nd_len n l l2 (fun x hx => (l3 x hx).1)
    omega
  · omega
theorem lD_le {a b : Nat} (ha : a < n) (hb : b < n) (hw : 0 < w a b) : lD w n t n a ≤ lD w n t n b + w a b := by
  rw [← lD_fix ha]
  exact lD_step hb hw
theorem lD_wit {a : Nat} (hat : a ≠ t) : ∀ k, lD w n t k a < INF → ∃ b, b < n ∧ 0 < w a b ∧ lD w n t k b + w a b ≤ lD w n t k a
  | 0, h => by
    have e0 : lD w n t 0 a = INF := if_neg hat
    omega
  | k + 1, h => by
    rcases lD_or (w := w) (n := n) (t := t) k a with q | ⟨b, hb, hw, e⟩
    · obtain ⟨b, h1, h2, h3⟩ := lD_wit hat k (by omega)
      have := lD_dec1 (w := w) (n := n) (t := t) k b
      exact ⟨b, h1, h2, by omega⟩
    · have := lD_dec1 (w := w) (n := n) (t := t) k b
      exact ⟨b, hb, hw, by omega⟩
theorem lD_eqw {a : Nat} (ha : a < n) (hat : a ≠ t) (h : lD w n t n a < INF) : ∃ b, b < n ∧ 0 < w a b ∧ lD w n t n b + w a b = lD w n t n a := by
  obtain ⟨b, h1, h2, h3⟩ := lD_wit hat n h
  have := lD_le (w := w) (n := n) (t := t) ha h1 h2
  exact ⟨b, h1, h2, by omega⟩
theorem lD_bd (h9 : ∀ a b, a < n → b < n → w a b ≤ 9) : ∀ k a, a < n → lD w n t k a = INF ∨ lD w n t k a ≤ 9 * k
  | 0, a, _ => by
    by_cases q : a = t
    · exact Or.inr (by have : lD w n t 0 a = 0 := if_pos q; omega)
    · exact Or.inl (if_neg q)
  | k + 1, a, ha => by
    rcases lD_or (w := w) (n := n) (t := t) k a with q | ⟨b, hb, hw, e⟩
    · rcases lD_bd h9 k a ha with z | z
      · exact Or.inl (q.trans z)
      · exact Or.inr (by omega)
    · have := h9 a b ha hb
      rcases lD_bd h9 k b hb with z | z
      · have h1 := lD_dec (w := w) (n := n) (t := t) a (Nat.zero_le (k + 1))
        have h2 : lD w n t 0 a ≤ INF := by
          show (if a = t then 0 else INF) ≤ INF
          split
          · exact Nat.zero_le _
          · exact Nat.le_refl _
        omega
      · exact Or.inr (by omega)
/-- one step in place -/
def fst1 (w : Nat → Nat → Nat) (f : Nat → Nat) (a b : Nat) : Nat → Nat := fun j => if j = a then (if 0 < w a b then min (f a) (f b + w a b) else f a) else f j
theorem fst1_le (f : Nat → Nat) (a b j : Nat) : fst1 w f a b j ≤ f j := by
  unfold fst1
  split
  · rename_i e
    subst e
    split
    · exact Nat.min_le_left _ _
    · exact Nat.le_refl _
  · exact Nat.le_refl _
theorem fst1_lo {f : Nat → Nat} {a b : Nat} (ha : a < n) (hb : b < n) (h : ∀ j, j < n → lD w n t n j ≤ f j) : ∀ j, j < n → lD w n t n j ≤ fst1 w f a b j := by
  intro j hj
  unfold fst1
  split
  · rename_i e
    subst e
    split
    · rename_i hw
      have h1 := h j hj
      have h2 := h b hb
      have h3 := lD_le (w := w) (n := n) (t := t) ha hb hw
      omega
    · exact h j hj
  · exact h j hj
/-- in place, in round r at row a, column b: what is known -/
def fOk (w : Nat → Nat → Nat) (n t r a b : Nat) (f : Nat → Nat) : Prop := (∀ j, j < n → lD w n t n j ≤ f j) ∧ (∀ j, j < n → f j ≤ lD w n t r j) ∧ (∀ j, j < n → j < a → f j ≤ lD w n t (r + 1) j) ∧ (∀ c, c < b → c < n → 0 < w a c → f a ≤ lD w n t r c + w a c)
theorem fOk_0 : fOk w n t 0 0 0 (fun j => if j = t then 0 else INF) := ⟨fun j _ => lD_dec j (Nat.zero_le _), fun j _ => Nat.le_refl _, fun j _ h => by omega, fun c h => by omega⟩
theorem fOk_b {r a b : Nat} {f : Nat → Nat} (ha : a < n) (hb : b < n) (h : fOk w n t r a b f) : fOk w n t r a (b + 1) (fst1 w f a b) := by
  obtain ⟨h1, h2, h3, h4⟩ := h
  refine ⟨fst1_lo ha hb h1, fun j hj => Nat.le_trans (fst1_le _ _ _ _) (h2 j hj), fun j hj q => Nat.le_trans (fst1_le _ _ _ _) (h3 j hj q), fun c hc hcn hw => ?_⟩
  by_cases q : c = b
  · subst q
    have e : fst1 w f a c a = min (f a) (f c + w a c) := by
      unfold fst1
      rw [if_pos rfl, if_pos hw]
    have := h2 c hcn
    omega
  · exact Nat.le_trans (fst1_le _ _ _ _) (h4 c (by omega) hcn hw)
theorem fOk_a {r a : Nat} {f : Nat → Nat} (ha : a < n) (h : fOk w n t r a n f) : fOk w n t r (a + 1) 0 f := by
  obtain ⟨h1, h2, h3, h4⟩ := h
  refine ⟨h1, h2, fun j hj q => ?_, fun c hc => by omega⟩
  by_cases z : j = a
  · subst z
    rcases lD_or (w := w) (n := n) (t := t) r j with e | ⟨b, hb, hw, e⟩
    · rw [e]; exact h2 j hj
    · rw [e]; exact h4 b hb hb hw
  · exact h3 j hj (by omega)
theorem fOk_r {r : Nat} {f : Nat → Nat} (h : fOk w n t r n 0 f) : fOk w n t (r + 1) 0 0 f := ⟨h.1, fun j hj => h.2.2.1 j hj hj, fun j _ q => by omega, fun c hc => by omega⟩
theorem fOk_end {f : Nat → Nat} (h : fOk w n t n 0 0 f) : ∀ j, j < n → f j = lD w n t n j := fun j hj => Nat.le_antisymm (h.2.1 j hj) (h.1 j hj)
end FAR
end MG70farx0
section MG70farx1
/-! undo, keep and again keep what must be kept -/
section UKA
variable {fr lo sl : Nat} {h : pm_H}
/-- the row of a court's world is typed -/
theorem ty_row {g : Nat → Int32} (t : ∀ j, j < 96 → av_ok (.int (g j)) (rowT j)) : ac_ok (.inl (0, 96, .inl g)) (bB 170) := by
  have hb : ∃ cs, bB 170 = .inr (1000, cs) ∧ cs.length = 96 := ⟨_, rfl, rfl⟩
  obtain ⟨cs, eb, hl⟩ := hb
  have er : ∀ j, rowT j = cs.getD j (0, 0, 0) := fun j => by unfold rowT; rw [eb]
  rw [eb]
  refine ⟨rfl, hl.symm, fun j a ha => ?_⟩
  have hj : j < 96 := by have := (List.getElem?_eq_some_iff.mp ha).1; omega
  have := t j hj
  rw [er, List.getD_eq_getElem?_getD, ha] at this
  exact this
theorem ty_row_of {g : Nat → Int32} (hh : ah_ok bB 198 [] h) (e : h 170 = .inl (0, 96, .inl g)) : ∀ j, j < 96 → av_ok (.int (g j)) (rowT j) := by
  intro j hj
  have hb : ∃ cs, bB 170 = .inr (1000, cs) ∧ cs.length = 96 := ⟨_, rfl, rfl⟩
  obtain ⟨cs, eb, hl⟩ := hb
  have h0 : ac_ok (h 170) (bB 170) := hh 170 (by decide)
  rw [e, eb] at h0
  have er : rowT j = cs.getD j (0, 0, 0) := by unfold rowT; rw [eb]
  have hc : cs[j]? = some cs[j] := List.getElem?_eq_getElem (by omega)
  rw [er, List.getD_eq_getElem?_getD, hc]
  exact h0.2.2 j _ hc
def noC (_ : Nat) : Bool := false
def g0G (g : Nat) : Bool := Nat.beq g 0
def nowC (i : Nat) : Bool := Nat.beq i 170
def g27G (g : Nat) : Bool := Nat.beq g 0 || Nat.beq g 27
theorem x_lt {C : Nat → Bool} {G : Nat → Bool} {h h' : pm_H} (d : dD C G h h') (hC : ∀ i, i < 162 → C i = false) : ∀ i, i < 162 → h' i = h i := fun i hi => d.1 i (by omega) (hC i hi)
theorem post0 (hI : mInv h) {x0 : Value} (m0 : mF h 0 x0) {A : Option Value → Prop} {v : Option Value} (hA : A v) : mPost A h sl (v, mset h 0 (.int 0), 198, sl) := by
  have d : dD noC g0G h (mset h 0 (.int 0)) := dD_set rfl
  refine ⟨hA, rfl, x_lt d (fun _ _ => rfl), dD_ty hI.1 d (fun i hi => by cases hi) (fun g hg b hb => ?_), rxQ_dD d rfl rfl rfl rfl rfl rfl hI.2⟩
  have := Nat.eq_of_beq_eq_true hg
  subst this
  cases (Option.some.inj hb : _ = b)
  exact ⟨_, mF_self m0, ⟨rfl, by decide, by decide⟩⟩
theorem hm_undo (hI : mInv h) (hf : 100 ≤ fr) (hl : 4000 ≤ lo) : pm_WP PT fr lo 214 (0, pm_l0 [.ref 162] 2, [], h, 198, sl) (mPost anInt h sl) := by
  obtain ⟨hh, hq⟩ := id hI
  obtain ⟨x0, h0, -⟩ := ty_fld hh (g := 0) rfl
  obtain ⟨u, h27, hu⟩ := ty_nat hh (g := 27) (u := 15) rfl (by decide)
  have h12 := ty_ref hh (g := 12) (p := 170) rfl
  have h28 := ty_ref hh (g := 28) (p := 178) rfl
  obtain ⟨g, hN, -⟩ := ty_arrE hh (i := 170) (by decide) rfl
  obtain ⟨q1, q2, ⟨f, hU, tU⟩, q4⟩ := id hq
  refine wp_mono (hd_undo h0 h12 h28 h27 hu hU hN) ?_
  rintro _ (⟨-, rfl⟩ | ⟨v, g2, rfl, rfl, hg⟩)
  · exact post0 hI h0 ⟨_, rfl⟩
  · have d : dD nowC g27G h (aset (mset (mset h 0 (.int 0)) 27 (.int (nI v))) 170 96 g2) := dD_tr (dD_tr (dD_set rfl) (dD_set rfl)) (dD_arr rfl (by decide))
    refine ⟨⟨_, rfl⟩, rfl, x_lt d (fun i hi => nb_ne (by omega)), dD_ty hh d (fun i hi _ _ => ?_) (fun k hg b hb => ?_), rxQ_dD d rfl rfl rfl rfl rfl rfl hq⟩
    · have := Nat.eq_of_beq_eq_true hi
      subst this
      show ac_ok (aset (mset (mset h 0 (.int 0)) 27 (.int (nI v))) 170 96 g2 170) (bB 170)
      rw [aset_self]
      refine ty_row (fun j hj => ?_)
      rw [hg j hj]
      have := tU (96 * v + j) (by omega)
      rw [show (96 * v + j) % 96 = j by omega] at this
      exact this
    · have hg2 : k = 0 ∨ k = 27 := by
        unfold g27G at hg
        simp only [Bool.or_eq_true, Nat.beq_eq] at hg
        exact hg
      rcases hg2 with rfl | rfl
      · cases (Option.some.inj hb : _ = b); exact ⟨_, mF_as (by decide) (mF_ne (by decide) (mF_self h0)), ⟨rfl, by decide, by decide⟩⟩
      · cases (Option.some.inj hb : _ = b); exact ⟨_, mF_as (by decide) (mF_self (mF_ne (by decide) h27)), av_nI (by omega) (by omega) (by omega)⟩
def aBool (v : Option Value) : Prop := v = some (.int 0) ∨ v = some (.int 1)
def kpC (i : Nat) : Bool := Nat.beq i 194 || (Nat.beq i 195 || Nat.beq i 196)
theorem ty_bool (hh : ah_ok bB 198 [] h) : ∃ b : Nat → Int32, h 194 = .inl (3, 3, .inl b) ∧ ∀ j, j < 3 → av_ok (.int (b j)) (0, 0, 1) := by
  have h0 : ac_ok (h 194) (bB 194) := hh 194 (by decide)
  have hb : bB 194 = .inl (3, 3, (0, 0, 1)) := rfl
  rw [hb] at h0
  cases e : h 194 with
  | inr q => rw [e] at h0; obtain ⟨ci, fs⟩ := q; exact h0.elim
  | inl q =>
    rw [e] at h0
    obtain ⟨kd, m, f | f | f | f | f⟩ := q
    · obtain ⟨rfl, rfl, q⟩ := h0
      exact ⟨f, rfl, q⟩
    · have := (h0.2.2 0 (by rw [h0.2.1]; decide)).1
      cases this
    · exact h0.elim
    · exact h0.elim
    · have q := h0.2.2 0 (by rw [h0.2.1]; decide)
      cases e3 : f 0 with
      | none => rw [e3] at q; cases q
      | some p => rw [e3] at q; cases q.1
theorem hm_keep (hI : mInv h) (v : Int32) (hf : 100 ≤ fr) (hl : 4000 ≤ lo) : pm_WP PT fr lo 264 (0, pm_l0 [.ref 162, .int v] 3, [], h, 198, sl) (fun x => mPost aBool h sl x ∧ x.1 = some (.int (cond (in_b v.toInt64 0 2) 1 0))) := by
  obtain ⟨hh, hq⟩ := id hI
  obtain ⟨x0, h0, -⟩ := ty_fld hh (g := 0) rfl
  obtain ⟨ch, h5, -⟩ := ty_int hh (g := 5) rfl
  have h12 := ty_ref hh (g := 12) (p := 170) rfl
  have h52 := ty_ref hh (g := 52) (p := 194) rfl
  have h53 := ty_ref hh (g := 53) (p := 195) rfl
  have h54 := ty_ref hh (g := 54) (p := 196) rfl
  obtain ⟨f, hN, -⟩ := ty_arrE hh (i := 170) (by decide) rfl
  obtain ⟨b, hB, tB⟩ := ty_bool hh
  obtain ⟨c, hC, -⟩ := ty_arr hh (i := 195) (by decide) rfl rfl (by decide)
  obtain ⟨q1, q2, q3, ⟨g, hK, tK⟩⟩ := id hq
  refine wp_mono (hd_keep v h0 h5 h52 h53 h54 h12 hN hK hB hC (by omega) (by omega)) ?_
  rintro _ (⟨e, rfl⟩ | ⟨i, g2, hi, rfl, rfl, c1, c2⟩)
  · rw [e]
    exact ⟨post0 hI h0 (Or.inl rfl), rfl⟩
  · have e1 : in_b (nI i).toInt64 0 2 = true := by
      have : ∀ i : Nat, i < 3 → in_b (nI i).toInt64 0 2 = true := by decide
      exact this i hi
    rw [e1]
    refine ⟨?_, rfl⟩
    generalize hw : aset (aset (zset (mset h 0 (.int 0)) 194 3 (upd b i 1)) 195 3 (upd c i ch)) 196 288 g2 = w
    have w196 : w 196 = .inl (0, 288, .inl g2) := by rw [← hw, aset_self]
    have w195 : w 195 = .inl (0, 3, .inl (upd c i ch)) := by rw [← hw, aset_nei (by decide), aset_self]
    have w194 : w 194 = .inl (3, 3, .inl (upd b i 1)) := by rw [← hw, aset_nei (by decide), aset_nei (by decide), zset_self]
    have d : dD kpC g0G h w := by
      rw [← hw]
      refine dD_tr (dD_tr (dD_tr (dD_set (f := 0) (v := .int 0) rfl) ?_) (dD_arr (a := 195) rfl (by decide))) (dD_arr (a := 196) rfl (by decide))
      refine ⟨fun i _ hb => zset_nei (fun q => by rw [q] at hb; cases hb), fun fs e => ⟨fs, ?_, rfl, fun _ _ => rfl⟩⟩
      rw [zset_nei (by decide)]
      exact e
    have w0 : mF w 0 (.int 0) := by
      rw [← hw]
      exact mF_as (by decide) (mF_as (by decide) (mF_zs (by decide) (mF_self h0)))
    refine ⟨Or.inr rfl, rfl, x_lt d (fun i hi => by unfold kpC; rw [nb_ne (by omega), nb_ne (by omega), nb_ne (by omega)]; rfl), dD_ty hh d (fun k hk _ _ => ?_) (fun k hg b hb => ?_), ?_⟩
    · have hk2 : k = 194 ∨ k = 195 ∨ k = 196 := by
        unfold kpC at hk
        simp only [Bool.or_eq_true, Nat.beq_eq] at hk
        exact hk
      rcases hk2 with rfl | rfl | rfl
      · show ac_ok (w 194) _
        rw [w194]
        refine ⟨rfl, rfl, fun j hj => ?_⟩
        unfold upd
        by_cases z : j = i
        · rw [if_pos z]; exact ⟨rfl, by decide, by decide⟩
        · rw [if_neg z]; exact tB j hj
      · show ac_ok (w 195) _
        rw [w195]
        exact ⟨rfl, rfl, fun j _ => ai_top_ok _⟩
      · show ac_ok (w 196) _
        rw [w196]
        exact ⟨rfl, rfl, fun j _ => ai_top_ok _⟩
    · have := Nat.eq_of_beq_eq_true hg
      subst this
      cases (Option.some.inj hb : _ = b)
      exact ⟨_, w0, ⟨rfl, by decide, by decide⟩⟩
    · obtain ⟨⟨n, dn, ff, a1, a2, a3⟩, ⟨cc, gg, b1, b2, b3⟩, ⟨f1, r1, r2⟩⟩ : codeOk h ∧ cgOk h ∧ rowsOk h 178 1536 := ⟨q1, q2, q3⟩
      refine ⟨⟨n, dn, ff, dD_mF d rfl a1, (d.1 174 (by decide) rfl).trans a2, a3⟩, ⟨cc, gg, dD_mF d rfl b1, dD_mF d rfl b2, b3⟩, ⟨f1, (d.1 178 (by decide) rfl).trans r1, r2⟩, g2, w196, fun j hj => ?_⟩
      by_cases z : 96 * i ≤ j ∧ j < 96 * i + 96
      · have := c1 (j - 96 * i) (by omega)
        rw [show 96 * i + (j - 96 * i) = j by omega, Nat.zero_add] at this
        rw [this, show j % 96 = j - 96 * i by omega]
        exact ty_row_of hh hN _ (by omega)
      · rw [c2 j (by omega)]
        exact tK j hj
theorem hm_again (hI : mInv h) (v : Int32) (hf : 100 ≤ fr) (hl : 4000 ≤ lo) : pm_WP PT fr lo 265 (0, pm_l0 [.ref 162, .int v] 3, [], h, 198, sl) (mPost aBool h sl) := by
  obtain ⟨hh, hq⟩ := id hI
  obtain ⟨x0, h0, -⟩ := ty_fld hh (g := 0) rfl
  obtain ⟨x27, h27, -⟩ := ty_fld hh (g := 27) rfl
  obtain ⟨ch, h5, -⟩ := ty_int hh (g := 5) rfl
  have h12 := ty_ref hh (g := 12) (p := 170) rfl
  have h52 := ty_ref hh (g := 52) (p := 194) rfl
  have h53 := ty_ref hh (g := 53) (p := 195) rfl
  have h54 := ty_ref hh (g := 54) (p := 196) rfl
  obtain ⟨g, hN, -⟩ := ty_arrE hh (i := 170) (by decide) rfl
  obtain ⟨b, hB, tB⟩ := ty_bool hh
  obtain ⟨c, hC, -⟩ := ty_arr hh (i := 195) (by decide) rfl rfl (by decide)
  obtain ⟨q1, q2, q3, ⟨f, hK, tK⟩⟩ := id hq
  refine wp_mono (hd_again v h0 h5 h27 h52 h53 h54 h12 hN hK hB hC (by omega) (by omega)) ?_
  rintro _ (rfl | ⟨i, g2, hi, rfl, rfl, hg⟩)
  · exact post0 hI h0 (Or.inl rfl)
  · have d : dD nowC g27G h (mset (aset (mset h 0 (.int 0)) 170 96 g2) 27 (.int 0)) := dD_tr (dD_tr (dD_set rfl) (dD_arr rfl (by decide))) (dD_set rfl)
    refine ⟨Or.inr rfl, rfl, x_lt d (fun i hi => nb_ne (by omega)), dD_ty hh d (fun k hk _ _ => ?_) (fun k hg b hb => ?_), rxQ_dD d rfl rfl rfl rfl rfl rfl hq⟩
    · have := Nat.eq_of_beq_eq_true hk
      subst this
      show ac_ok (mset (aset (mset h 0 (.int 0)) 170 96 g2) 27 (.int 0) 170) (bB 170)
      rw [mset_ne (by decide), aset_self]
      refine ty_row (fun j hj => ?_)
      rw [hg j hj]
      have := tK (96 * i + j) (by omega)
      rw [show (96 * i + j) % 96 = j by omega] at this
      exact this
    · have hg2 : k = 0 ∨ k = 27 := by
        unfold g27G at hg
        simp only [Bool.or_eq_true, Nat.beq_eq] at hg
        exact hg
      rcases hg2 with rfl | rfl
      · cases (Option.some.inj hb : _ = b); exact ⟨_, mF_ne (by decide) (mF_as (by decide) (mF_self h0)), ⟨rfl, by decide, by decide⟩⟩
      · cases (Option.some.inj hb : _ = b); exact ⟨_, mF_self (mF_as (by decide) (mF_ne (by decide) h27)), ⟨rfl, by decide, by decide⟩⟩
end UKA
end MG70farx1
section MG70farx2
/-! the lengths of the ways, by hand -/
section LFR
variable {fr lo sl : Nat} {h : pm_H} {Q : pm_Rs → Prop} {c t : Nat} {w : Nat → Nat → Nat} {rd f0 : Nat → Int32}
theorem ix6 (u k : Nat) : (6 : Int32) * nI u + nI k = nI (6 * u + k) := by rw [show (6 : Int32) = nI 6 from rfl, hI_mul, nI_add]
/-- the roads as numbers -/
def rdOk (rd : Nat → Int32) (w : Nat → Nat → Nat) : Prop := ∀ a b, a < 6 → b < 6 → rd (6 * a + b) = nI (w a b) ∧ w a b ≤ 9
/-- the lengths as numbers -/
def frOk (c : Nat) (f0 f : Nat → Int32) (F : Nat → Nat) : Prop := (∀ j, j < c → f j = nI (F j) ∧ F j ≤ INF) ∧ ∀ j, c ≤ j → f j = f0 j
theorem INF_lt : INF = 1000000 := rfl
theorem frOk_up {f : Nat → Int32} {F : Nat → Nat} {a b : Nat} {v : Int32} (ha : a < c) (h : frOk c f0 f F) (hv : v = nI (fst1 w F a b a)) : frOk c f0 (upd f a v) (fst1 w F a b) := by
  refine ⟨fun j hj => ?_, fun j hj => ?_⟩
  · refine ⟨?_, Nat.le_trans (fst1_le _ _ _ _) (h.1 j hj).2⟩
    by_cases e : j = a
    · subst e
      simp only [upd, if_true]
      exact hv
    · simp only [upd, if_neg e]
      rw [(h.1 j hj).1]
      unfold fst1
      rw [if_neg e]
  · have : ¬ j = a := by omega
    simp only [upd, if_neg this]
    exact h.2 j hj
theorem fst1_no {F : Nat → Nat} {a b : Nat} (hw : ¬ 0 < w a b) : fst1 w F a b a = F a := by
  unfold fst1
  rw [if_pos rfl, if_neg hw]
theorem fst1_yes {F : Nat → Nat} {a b : Nat} (hw : 0 < w a b) : fst1 w F a b a = min (F a) (F b + w a b) := by
  unfold fst1
  rw [if_pos rfl, if_pos hw]
theorem lf_A (h3 : mF h 3 (.int (nI c))) (hc : c ≤ 6) (h39 : mF h 39 (.ref 185)) (h11 : mF h 11 (.ref 169)) (hR : h 169 = .inl (0, 36, .inl rd)) (hw : rdOk rd w) (ht : t < 1000000) (kk : ∀ f, frOk c f0 f (fun j => if j = t then 0 else INF) → pm_WP PT fr lo 237 (34, [some (.ref 162), some (.int (nI t)), some (.int (nI c)), none, none, none], [], aset h 185 6 f, 198, sl) Q) : ∀ (m i : Nat) (f : Nat → Int32), i + m = c → (∀ j, j < i → f j = nI (if j = t then 0 else INF)) → (∀ j, c ≤ j → f j = f0 j) → pm_WP PT fr lo 237 (2, [some (.ref 162), some (.int (nI t)), some (.int (nI i)), none, none, none], [], aset h 185 6 f, 198, sl) Q := by
  intro m
  induction m with
  | zero =>
    intro i f hi e1 e2
    obtain rfl : i = c := by omega
    refine wp_i rfl rfl rfl rfl ?_
    refine wp_i rfl rfl rfl rfl ?_
    show pm_WP PT fr lo 237 (4, [some (.ref 162), some (.int (nI t)), some (.int (nI i)), none, none, none], [.ref 162, .int (nI i)], (aset h 185 6 f), 198, sl) _
    refine wp_gfm rfl rfl (mF_as (by decide) h3) ?_
    show pm_WP PT fr lo 237 (7, [some (.ref 162), some (.int (nI t)), some (.int (nI i)), none, none, none], [.int (nI i), .int (nI i)], (aset h 185 6 f), 198, sl) _
    refine wp_icmp (c := .ge) (off := 27) (t := 34) rfl rfl (fun _ => ?_) (fun q => absurd (q.symm.trans ((hI_ge (by omega) (by omega)).trans (decide_eq_true (by omega)))) (by decide))
    show pm_WP PT fr lo 237 (34, [some (.ref 162), some (.int (nI t)), some (.int (nI i)), none, none, none], [], (aset h 185 6 f), 198, sl) _
    refine kk f ⟨fun j hj => ⟨e1 j hj, ?_⟩, e2⟩
    show (if j = t then 0 else INF) ≤ INF
    split
    · exact Nat.zero_le _
    · exact Nat.le_refl _
  | succ m ih =>
    intro i f hi e1 e2
    refine wp_i rfl rfl rfl rfl ?_
    refine wp_i rfl rfl rfl rfl ?_
    show pm_WP PT fr lo 237 (4, [some (.ref 162), some (.int (nI t)), some (.int (nI i)), none, none, none], [.ref 162, .int (nI i)], (aset h 185 6 f), 198, sl) _
    refine wp_gfm rfl rfl (mF_as (by decide) h3) ?_
    show pm_WP PT fr lo 237 (7, [some (.ref 162), some (.int (nI t)), some (.int (nI i)), none, none, none], [.int (nI c), .int (nI i)], (aset h 185 6 f), 198, sl) _
    refine wp_icmp (c := .ge) (off := 27) (t := 34) rfl rfl (fun q => absurd (q.symm.trans ((hI_ge (by omega) (by omega)).trans (decide_eq_false (by omega)))) (by decide)) (fun _ => ?_)
    refine wp_i rfl rfl rfl rfl ?_
    show pm_WP PT fr lo 237 (11, [some (.ref 162), some (.int (nI t)), some (.int (nI i)), none, none, none], [.ref 162], (aset h 185 6 f), 198, sl) _
    refine wp_gfm rfl rfl (mF_as (by decide) h39) ?_
    refine wp_i rfl rfl rfl rfl ?_
    refine wp_i rfl rfl rfl rfl ?_
    refine wp_i rfl rfl rfl rfl ?_
    show pm_WP PT fr lo 237 (17, [some (.ref 162), some (.int (nI t)), some (.int (nI i)), none, none, none], [.int (nI t), .int (nI i), .int (nI i), .ref 185], (aset h 185 6 f), 198, sl) _
    refine wp_icmp (c := .ne) (off := 7) (t := 24) rfl rfl (fun q => ?_) (fun q => ?_)
    · have q : ¬ i = t := of_decide_eq_true ((hI_ne (by omega) (by omega)).symm.trans q)
      refine wp_i rfl rfl rfl rfl ?_
      show pm_WP PT fr lo 237 (27, [some (.ref 162), some (.int (nI t)), some (.int (nI i)), none, none, none], [.int 1000000, .int (nI i), .ref 185], (aset h 185 6 f), 198, sl) _
      refine wp_ism rfl (aset_self _ _ _ _) (hI_in (by omega) (by omega)) (by decide) ?_
      rw [nI_clamp (by omega)]
      refine wp_i rfl rfl rfl rfl ?_
      refine wp_i rfl rfl rfl rfl ?_
      show pm_WP PT fr lo 237 (2, [some (.ref 162), some (.int (nI t)), some (.int (nI i + 1)), none, none, none], [], (aset (aset h 185 6 f) 185 6 (upd f i (1000000))), 198, sl) _
      rw [nI_1 i, aset_aset]
      refine ih (i + 1) _ (by omega) (fun j hj => ?_) (fun j hj => ?_)
      · by_cases e : j = i
        · subst e
          simp only [upd, if_true]
          rw [if_neg q]
          rfl
        · simp only [upd, if_neg e]
          exact e1 j (by omega)
      · have : ¬ j = i := by omega
        simp only [upd, if_neg this]
        exact e2 j hj
    · have q : i = t := Decidable.not_not.mp (of_decide_eq_false ((hI_ne (by omega) (by omega)).symm.trans q))
      refine wp_i rfl rfl rfl rfl ?_
      refine wp_i rfl rfl rfl rfl ?_
      show pm_WP PT fr lo 237 (27, [some (.ref 162), some (.int (nI t)), some (.int (nI i)), none, none, none], [.int 0, .int (nI i), .ref 185], (aset h 185 6 f), 198, sl) _
      refine wp_ism rfl (aset_self _ _ _ _) (hI_in (by omega) (by omega)) (by decide) ?_
      rw [nI_clamp (by omega)]
      refine wp_i rfl rfl rfl rfl ?_
      refine wp_i rfl rfl rfl rfl ?_
      show pm_WP PT fr lo 237 (2, [some (.ref 162), some (.int (nI t)), some (.int (nI i + 1)), none, none, none], [], (aset (aset h 185 6 f) 185 6 (upd f i (0))), 198, sl) _
      rw [nI_1 i, aset_aset]
      refine ih (i + 1) _ (by omega) (fun j hj => ?_) (fun j hj => ?_)
      · by_cases e : j = i
        · subst e
          simp only [upd, if_true]
          rw [if_pos q]
          rfl
        · simp only [upd, if_neg e]
          exact e1 j (by omega)
      · have : ¬ j = i := by omega
        simp only [upd, if_neg this]
        exact e2 j hj
theorem lf_B (h3 : mF h 3 (.int (nI c))) (hc : c ≤ 6) (h39 : mF h 39 (.ref 185)) (h11 : mF h 11 (.ref 169)) (hR : h 169 = .inl (0, 36, .inl rd)) (hw : rdOk rd w) (hf : 1 ≤ fr) (hl : 20 ≤ lo) {r a : Nat} (ha : a < c) (kk : ∀ f F x5, frOk c f0 f F → fOk w c t r a c F → pm_WP PT fr lo 237 (125, [some (.ref 162), some (.int (nI t)), some (.int (nI r)), some (.int (nI a)), some (.int (nI c)), x5], [], aset h 185 6 f, 198, sl) Q) : ∀ (m b : Nat) (f : Nat → Int32) (F : Nat → Nat) (x5 : Option Value), b + m = c → frOk c f0 f F → fOk w c t r a b F → pm_WP PT fr lo 237 (57, [some (.ref 162), some (.int (nI t)), some (.int (nI r)), some (.int (nI a)), some (.int (nI b)), x5], [], aset h 185 6 f, 198, sl) Q := by
  intro m
  induction m with
  | zero =>
    intro b f F x5 hb e1 e2
    obtain rfl : b = c := by omega
    refine wp_i rfl rfl rfl rfl ?_
    refine wp_i rfl rfl rfl rfl ?_
    show pm_WP PT fr lo 237 (60, [some (.ref 162), some (.int (nI t)), some (.int (nI r)), some (.int (nI a)), some (.int (nI b)), x5], [.ref 162, .int (nI b)], (aset h 185 6 f), 198, sl) _
    refine wp_gfm rfl rfl (mF_as (by decide) h3) ?_
    show pm_WP PT fr lo 237 (63, [some (.ref 162), some (.int (nI t)), some (.int (nI r)), some (.int (nI a)), some (.int (nI b)), x5], [.int (nI b), .int (nI b)], (aset h 185 6 f), 198, sl) _
    refine wp_icmp (c := .ge) (off := 62) (t := 125) rfl rfl (fun _ => ?_) (fun q => absurd (q.symm.trans ((hI_ge (by omega) (by omega)).trans (decide_eq_true (by omega)))) (by decide))
    show pm_WP PT fr lo 237 (125, [some (.ref 162), some (.int (nI t)), some (.int (nI r)), some (.int (nI a)), some (.int (nI b)), x5], [], (aset h 185 6 f), 198, sl) _
    exact kk f F x5 e1 e2
  | succ m ih =>
    intro b f F x5 hb e1 e2
    have hbc : b < c := by omega
    obtain ⟨ew, hw9⟩ := hw a b (by omega) (by omega)
    obtain ⟨ea, la⟩ := e1.1 a ha
    obtain ⟨eb, lb⟩ := e1.1 b hbc
    have hI0 := INF_lt
    refine wp_i rfl rfl rfl rfl ?_
    refine wp_i rfl rfl rfl rfl ?_
    show pm_WP PT fr lo 237 (60, [some (.ref 162), some (.int (nI t)), some (.int (nI r)), some (.int (nI a)), some (.int (nI b)), x5], [.ref 162, .int (nI b)], (aset h 185 6 f), 198, sl) _
    refine wp_gfm rfl rfl (mF_as (by decide) h3) ?_
    show pm_WP PT fr lo 237 (63, [some (.ref 162), some (.int (nI t)), some (.int (nI r)), some (.int (nI a)), some (.int (nI b)), x5], [.int (nI c), .int (nI b)], (aset h 185 6 f), 198, sl) _
    refine wp_icmp (c := .ge) (off := 62) (t := 125) rfl rfl (fun q => absurd (q.symm.trans ((hI_ge (by omega) (by omega)).trans (decide_eq_false (by omega)))) (by decide)) (fun _ => ?_)
    refine wp_i rfl rfl rfl rfl ?_
    show pm_WP PT fr lo 237 (67, [some (.ref 162), some (.int (nI t)), some (.int (nI r)), some (.int (nI a)), some (.int (nI b)), x5], [.ref 162], (aset h 185 6 f), 198, sl) _
    refine wp_gfm rfl rfl (mF_as (by decide) h11) ?_
    refine wp_i rfl rfl rfl rfl ?_
    refine wp_i rfl rfl rfl rfl ?_
    refine wp_i rfl rfl rfl rfl ?_
    refine wp_i rfl rfl rfl rfl ?_
    refine wp_i rfl rfl rfl rfl ?_
    show pm_WP PT fr lo 237 (77, [some (.ref 162), some (.int (nI t)), some (.int (nI r)), some (.int (nI a)), some (.int (nI b)), x5], [.int ((6 * (nI a)) + (nI b)), .ref 169], (aset h 185 6 f), 198, sl) _
    rw [ix6 a b]
    show pm_WP PT fr lo 237 (77, [some (.ref 162), some (.int (nI t)), some (.int (nI r)), some (.int (nI a)), some (.int (nI b)), x5], [.int (nI (6 * a + b)), .ref 169], (aset h 185 6 f), 198, sl) _
    refine wp_iam rfl (aset_ne (by decide) hR) (hI_in (by omega) (by omega)) (by decide) ?_
    rw [nI_clamp (by omega), ew]
    show pm_WP PT fr lo 237 (78, [some (.ref 162), some (.int (nI t)), some (.int (nI r)), some (.int (nI a)), some (.int (nI b)), x5], [.int (nI (w a b))], (aset h 185 6 f), 198, sl) _
    refine wp_i rfl rfl rfl rfl ?_
    refine wp_i rfl rfl rfl rfl ?_
    show pm_WP PT fr lo 237 (81, [some (.ref 162), some (.int (nI t)), some (.int (nI r)), some (.int (nI a)), some (.int (nI b)), some (.int (nI (w a b)))], [.ref 162], (aset h 185 6 f), 198, sl) _
    refine wp_gfm rfl rfl (mF_as (by decide) h39) ?_
    refine wp_i rfl rfl rfl rfl ?_
    refine wp_i rfl rfl rfl rfl ?_
    show pm_WP PT fr lo 237 (87, [some (.ref 162), some (.int (nI t)), some (.int (nI r)), some (.int (nI a)), some (.int (nI b)), some (.int (nI (w a b)))], [.int (nI (w a b)), .int (nI a), .ref 185], (aset h 185 6 f), 198, sl) _
    refine wp_if (c := .le) (off := 25) (t := 112) rfl rfl (fun q => ?_) (fun q => ?_)
    · have q : ¬ 0 < w a b := Nat.not_lt.mpr (of_decide_eq_true ((hI_le (b := 0) (by omega) (by omega)).symm.trans q))
      refine wp_i rfl rfl rfl rfl ?_
      show pm_WP PT fr lo 237 (113, [some (.ref 162), some (.int (nI t)), some (.int (nI r)), some (.int (nI a)), some (.int (nI b)), some (.int (nI (w a b)))], [.ref 162, .int (nI a), .ref 185], (aset h 185 6 f), 198, sl) _
      refine wp_gfm rfl rfl (mF_as (by decide) h39) ?_
      refine wp_i rfl rfl rfl rfl ?_
      show pm_WP PT fr lo 237 (117, [some (.ref 162), some (.int (nI t)), some (.int (nI r)), some (.int (nI a)), some (.int (nI b)), some (.int (nI (w a b)))], [.int (nI a), .ref 185, .int (nI a), .ref 185], (aset h 185 6 f), 198, sl) _
      refine wp_iam rfl (aset_self _ _ _ _) (hI_in (by omega) (by omega)) (by decide) ?_
      rw [nI_clamp (by omega), ea]
      show pm_WP PT fr lo 237 (118, [some (.ref 162), some (.int (nI t)), some (.int (nI r)), some (.int (nI a)), some (.int (nI b)), some (.int (nI (w a b)))], [.int (nI (F a)), .int (nI a), .ref 185], (aset h 185 6 f), 198, sl) _
      show pm_WP PT fr lo 237 (118, [some (.ref 162), some (.int (nI t)), some (.int (nI r)), some (.int (nI a)), some (.int (nI b)), some (.int (nI (w a b)))], [.int (nI (F a)), .int (nI a), .ref 185], (aset h 185 6 f), 198, sl) _
      refine wp_ism rfl (aset_self _ _ _ _) (hI_in (by omega) (by omega)) (by decide) ?_
      rw [nI_clamp (by omega)]
      refine wp_i rfl rfl rfl rfl ?_
      refine wp_i rfl rfl rfl rfl ?_
      show pm_WP PT fr lo 237 (57, [some (.ref 162), some (.int (nI t)), some (.int (nI r)), some (.int (nI a)), some (.int (nI b + 1)), some (.int (nI (w a b)))], [], (aset (aset h 185 6 f) 185 6 (upd f a (nI (F a)))), 198, sl) _
      rw [nI_1 b, aset_aset]
      exact ih (b + 1) _ (fst1 w F a b) _ (by omega) (frOk_up ha e1 (by rw [fst1_no q])) (fOk_b ha hbc e2)
    · have q : 0 < w a b := Nat.lt_of_not_le (of_decide_eq_false ((hI_le (b := 0) (by omega) (by omega)).symm.trans q))
      refine wp_i rfl rfl rfl rfl ?_
      show pm_WP PT fr lo 237 (91, [some (.ref 162), some (.int (nI t)), some (.int (nI r)), some (.int (nI a)), some (.int (nI b)), some (.int (nI (w a b)))], [.ref 162, .int (nI a), .ref 185], (aset h 185 6 f), 198, sl) _
      refine wp_gfm rfl rfl (mF_as (by decide) h39) ?_
      refine wp_i rfl rfl rfl rfl ?_
      show pm_WP PT fr lo 237 (95, [some (.ref 162), some (.int (nI t)), some (.int (nI r)), some (.int (nI a)), some (.int (nI b)), some (.int (nI (w a b)))], [.int (nI a), .ref 185, .int (nI a), .ref 185], (aset h 185 6 f), 198, sl) _
      refine wp_iam rfl (aset_self _ _ _ _) (hI_in (by omega) (by omega)) (by decide) ?_
      rw [nI_clamp (by omega), ea]
      show pm_WP PT fr lo 237 (96, [some (.ref 162), some (.int (nI t)), some (.int (nI r)), some (.int (nI a)), some (.int (nI b)), some (.int (nI (w a b)))], [.int (nI (F a)), .int (nI a), .ref 185], (aset h 185 6 f), 198, sl) _
      refine wp_i rfl rfl rfl rfl ?_
      show pm_WP PT fr lo 237 (97, [some (.ref 162), some (.int (nI t)), some (.int (nI r)), some (.int (nI a)), some (.int (nI b)), some (.int (nI (w a b)))], [.ref 162, .int (nI (F a)), .int (nI a), .ref 185], (aset h 185 6 f), 198, sl) _
      refine wp_gfm rfl rfl (mF_as (by decide) h39) ?_
      refine wp_i rfl rfl rfl rfl ?_
      show pm_WP PT fr lo 237 (102, [some (.ref 162), some (.int (nI t)), some (.int (nI r)), some (.int (nI a)), some (.int (nI b)), some (.int (nI (w a b)))], [.int (nI b), .ref 185, .int (nI (F a)), .int (nI a), .ref 185], (aset h 185 6 f), 198, sl) _
      refine wp_iam rfl (aset_self _ _ _ _) (hI_in (by omega) (by omega)) (by decide) ?_
      rw [nI_clamp (by omega), eb]
      show pm_WP PT fr lo 237 (103, [some (.ref 162), some (.int (nI t)), some (.int (nI r)), some (.int (nI a)), some (.int (nI b)), some (.int (nI (w a b)))], [.int (nI (F b)), .int (nI (F a)), .int (nI a), .ref 185], (aset h 185 6 f), 198, sl) _
      refine wp_i rfl rfl rfl rfl ?_
      refine wp_i rfl rfl rfl rfl ?_
      show pm_WP PT fr lo 237 (106, [some (.ref 162), some (.int (nI t)), some (.int (nI r)), some (.int (nI a)), some (.int (nI b)), some (.int (nI (w a b)))], [.int ((nI (F b)) + (nI (w a b))), .int (nI (F a)), .int (nI a), .ref 185], (aset h 185 6 f), 198, sl) _
      rw [nI_add]
      show pm_WP PT fr lo 237 (106, [some (.ref 162), some (.int (nI t)), some (.int (nI r)), some (.int (nI a)), some (.int (nI b)), some (.int (nI (w a b)))], [.int (nI (F b + w a b)), .int (nI (F a)), .int (nI a), .ref 185], (aset h 185 6 f), 198, sl) _
      refine wp_min rfl rfl hf (by show pm_sum [Value.int (nI a), Value.ref 185] + 13 ≤ lo; have : pm_sum [Value.int (nI a), Value.ref 185] = 2 := rfl; omega) ?_
      rw [hI_min (by omega) (by omega)]
      show pm_WP PT fr lo 237 (109, [some (.ref 162), some (.int (nI t)), some (.int (nI r)), some (.int (nI a)), some (.int (nI b)), some (.int (nI (w a b)))], [.int (nI (min (F a) (F b + w a b))), .int (nI a), .ref 185], (aset h 185 6 f), 198, sl) _
      refine wp_i rfl rfl rfl rfl ?_
      show pm_WP PT fr lo 237 (118, [some (.ref 162), some (.int (nI t)), some (.int (nI r)), some (.int (nI a)), some (.int (nI b)), some (.int (nI (w a b)))], [.int (nI (min (F a) (F b + w a b))), .int (nI a), .ref 185], (aset h 185 6 f), 198, sl) _
      refine wp_ism rfl (aset_self _ _ _ _) (hI_in (by omega) (by omega)) (by decide) ?_
      rw [nI_clamp (by omega)]
      refine wp_i rfl rfl rfl rfl ?_
      refine wp_i rfl rfl rfl rfl ?_
      show pm_WP PT fr lo 237 (57, [some (.ref 162), some (.int (nI t)), some (.int (nI r)), some (.int (nI a)), some (.int (nI b + 1)), some (.int (nI (w a b)))], [], (aset (aset h 185 6 f) 185 6 (upd f a (nI (min (F a) (F b + w a b))))), 198, sl) _
      rw [nI_1 b, aset_aset]
      exact ih (b + 1) _ (fst1 w F a b) _ (by omega) (frOk_up ha e1 (by rw [fst1_yes q])) (fOk_b ha hbc e2)
theorem lf_C (h3 : mF h 3 (.int (nI c))) (hc : c ≤ 6) (h39 : mF h 39 (.ref 185)) (h11 : mF h 11 (.ref 169)) (hR : h 169 = .inl (0, 36, .inl rd)) (hw : rdOk rd w) (hf : 1 ≤ fr) (hl : 20 ≤ lo) {r : Nat} (kk : ∀ f F x4 x5, frOk c f0 f F → fOk w c t r c 0 F → pm_WP PT fr lo 237 (131, [some (.ref 162), some (.int (nI t)), some (.int (nI r)), some (.int (nI c)), x4, x5], [], aset h 185 6 f, 198, sl) Q) : ∀ (m a : Nat) (f : Nat → Int32) (F : Nat → Nat) (x4 x5 : Option Value), a + m = c → frOk c f0 f F → fOk w c t r a 0 F → pm_WP PT fr lo 237 (46, [some (.ref 162), some (.int (nI t)), some (.int (nI r)), some (.int (nI a)), x4, x5], [], aset h 185 6 f, 198, sl) Q := by
  intro m
  induction m with
  | zero =>
    intro a f F x4 x5 ha e1 e2
    obtain rfl : a = c := by omega
    refine wp_i rfl rfl rfl rfl ?_
    refine wp_i rfl rfl rfl rfl ?_
    show pm_WP PT fr lo 237 (48, [some (.ref 162), some (.int (nI t)), some (.int (nI r)), some (.int (nI a)), x4, x5], [.ref 162, .int (nI a)], (aset h 185 6 f), 198, sl) _
    refine wp_gfm rfl rfl (mF_as (by decide) h3) ?_
    show pm_WP PT fr lo 237 (51, [some (.ref 162), some (.int (nI t)), some (.int (nI r)), some (.int (nI a)), x4, x5], [.int (nI a), .int (nI a)], (aset h 185 6 f), 198, sl) _
    refine wp_icmp (c := .ge) (off := 80) (t := 131) rfl rfl (fun _ => ?_) (fun q => absurd (q.symm.trans ((hI_ge (by omega) (by omega)).trans (decide_eq_true (by omega)))) (by decide))
    show pm_WP PT fr lo 237 (131, [some (.ref 162), some (.int (nI t)), some (.int (nI r)), some (.int (nI a)), x4, x5], [], (aset h 185 6 f), 198, sl) _
    exact kk f F x4 x5 e1 e2
  | succ m ih =>
    intro a f F x4 x5 ha e1 e2
    refine wp_i rfl rfl rfl rfl ?_
    refine wp_i rfl rfl rfl rfl ?_
    show pm_WP PT fr lo 237 (48, [some (.ref 162), some (.int (nI t)), some (.int (nI r)), some (.int (nI a)), x4, x5], [.ref 162, .int (nI a)], (aset h 185 6 f), 198, sl) _
    refine wp_gfm rfl rfl (mF_as (by decide) h3) ?_
    show pm_WP PT fr lo 237 (51, [some (.ref 162), some (.int (nI t)), some (.int (nI r)), some (.int (nI a)), x4, x5], [.int (nI c), .int (nI a)], (aset h 185 6 f), 198, sl) _
    refine wp_icmp (c := .ge) (off := 80) (t := 131) rfl rfl (fun q => absurd (q.symm.trans ((hI_ge (by omega) (by omega)).trans (decide_eq_false (by omega)))) (by decide)) (fun _ => ?_)
    refine wp_i rfl rfl rfl rfl ?_
    refine wp_i rfl rfl rfl rfl ?_
    show pm_WP PT fr lo 237 (57, [some (.ref 162), some (.int (nI t)), some (.int (nI r)), some (.int (nI a)), some (.int 0), x5], [], (aset h 185 6 f), 198, sl) _
    refine lf_B h3 hc h39 h11 hR hw hf hl (by omega) (fun f2 F2 y5 g1 g2 => ?_) c 0 f F x5 (by omega) e1 e2
    refine wp_i rfl rfl rfl rfl ?_
    refine wp_i rfl rfl rfl rfl ?_
    show pm_WP PT fr lo 237 (46, [some (.ref 162), some (.int (nI t)), some (.int (nI r)), some (.int (nI a + 1)), some (.int (nI c)), y5], [], (aset h 185 6 f2), 198, sl) _
    rw [nI_1 a]
    exact ih (a + 1) f2 F2 _ _ (by omega) g1 (fOk_a (by omega) g2)
theorem lf_D (h3 : mF h 3 (.int (nI c))) (hc : c ≤ 6) (h39 : mF h 39 (.ref 185)) (h11 : mF h 11 (.ref 169)) (hR : h 169 = .inl (0, 36, .inl rd)) (hw : rdOk rd w) (hf : 1 ≤ fr) (hl : 20 ≤ lo) (kk : ∀ f F, frOk c f0 f F → fOk w c t c 0 0 F → Q (none, aset h 185 6 f, 198, sl)) : ∀ (m r : Nat) (f : Nat → Int32) (F : Nat → Nat) (x3 x4 x5 : Option Value), r + m = c → frOk c f0 f F → fOk w c t r 0 0 F → pm_WP PT fr lo 237 (36, [some (.ref 162), some (.int (nI t)), some (.int (nI r)), x3, x4, x5], [], aset h 185 6 f, 198, sl) Q := by
  intro m
  induction m with
  | zero =>
    intro r f F x3 x4 x5 hr e1 e2
    obtain rfl : r = c := by omega
    refine wp_i rfl rfl rfl rfl ?_
    refine wp_i rfl rfl rfl rfl ?_
    show pm_WP PT fr lo 237 (38, [some (.ref 162), some (.int (nI t)), some (.int (nI r)), x3, x4, x5], [.ref 162, .int (nI r)], (aset h 185 6 f), 198, sl) _
    refine wp_gfm rfl rfl (mF_as (by decide) h3) ?_
    show pm_WP PT fr lo 237 (41, [some (.ref 162), some (.int (nI t)), some (.int (nI r)), x3, x4, x5], [.int (nI r), .int (nI r)], (aset h 185 6 f), 198, sl) _
    refine wp_icmp (c := .ge) (off := 96) (t := 137) rfl rfl (fun _ => ?_) (fun q => absurd (q.symm.trans ((hI_ge (by omega) (by omega)).trans (decide_eq_true (by omega)))) (by decide))
    show pm_WP PT fr lo 237 (137, [some (.ref 162), some (.int (nI t)), some (.int (nI r)), x3, x4, x5], [], (aset h 185 6 f), 198, sl) _
    exact wp_vret rfl rfl (kk f F e1 e2)
  | succ m ih =>
    intro r f F x3 x4 x5 hr e1 e2
    refine wp_i rfl rfl rfl rfl ?_
    refine wp_i rfl rfl rfl rfl ?_
    show pm_WP PT fr lo 237 (38, [some (.ref 162), some (.int (nI t)), some (.int (nI r)), x3, x4, x5], [.ref 162, .int (nI r)], (aset h 185 6 f), 198, sl) _
    refine wp_gfm rfl rfl (mF_as (by decide) h3) ?_
    show pm_WP PT fr lo 237 (41, [some (.ref 162), some (.int (nI t)), some (.int (nI r)), x3, x4, x5], [.int (nI c), .int (nI r)], (aset h 185 6 f), 198, sl) _
    refine wp_icmp (c := .ge) (off := 96) (t := 137) rfl rfl (fun q => absurd (q.symm.trans ((hI_ge (by omega) (by omega)).trans (decide_eq_false (by omega)))) (by decide)) (fun _ => ?_)
    refine wp_i rfl rfl rfl rfl ?_
    refine wp_i rfl rfl rfl rfl ?_
    show pm_WP PT fr lo 237 (46, [some (.ref 162), some (.int (nI t)), some (.int (nI r)), some (.int 0), x4, x5], [], (aset h 185 6 f), 198, sl) _
    refine lf_C h3 hc h39 h11 hR hw hf hl (fun f2 F2 y4 y5 g1 g2 => ?_) c 0 f F x4 x5 (by omega) e1 e2
    refine wp_i rfl rfl rfl rfl ?_
    refine wp_i rfl rfl rfl rfl ?_
    show pm_WP PT fr lo 237 (36, [some (.ref 162), some (.int (nI t)), some (.int (nI r + 1)), some (.int (nI c)), y4, y5], [], (aset h 185 6 f2), 198, sl) _
    rw [nI_1 r]
    exact ih (r + 1) f2 F2 _ _ _ (by omega) g1 (fOk_r g2)
theorem hd_laysFar (h3 : mF h 3 (.int (nI c))) (hc : c ≤ 6) (h39 : mF h 39 (.ref 185)) (h11 : mF h 11 (.ref 169)) (hR : h 169 = .inl (0, 36, .inl rd)) (hw : rdOk rd w) (hF : h 185 = .inl (0, 6, .inl f0)) (ht : t < 1000000) (hf : 1 ≤ fr) (hl : 20 ≤ lo) : pm_WP PT fr lo 237 (0, pm_l0 [.ref 162, .int (nI t)] 6, [], h, 198, sl) (fun x => ∃ f : Nat → Int32, x = (none, aset h 185 6 f, 198, sl) ∧ frOk c f0 f (lD w c t c)) := by
  refine wp_i rfl rfl rfl rfl ?_
  refine wp_i rfl rfl rfl rfl ?_
  show pm_WP PT fr lo 237 (2, [some (.ref 162), some (.int (nI t)), some (.int 0), none, none, none], [], h, 198, sl) _
  have key := lf_A (fr := fr) (lo := lo) (sl := sl) (f0 := f0) (Q := fun x => ∃ f : Nat → Int32, x = (none, aset h 185 6 f, 198, sl) ∧ frOk c f0 f (lD w c t c)) h3 hc h39 h11 hR hw ht (fun f e1 => ?_) c 0 f0 (by omega) (fun j hj => by omega) (fun j _ => rfl)
  · rw [aset_same hF] at key
    exact key
  · refine wp_i rfl rfl rfl rfl ?_
    refine wp_i rfl rfl rfl rfl ?_
    show pm_WP PT fr lo 237 (36, [some (.ref 162), some (.int (nI t)), some (.int 0), none, none, none], [], (aset h 185 6 f), 198, sl) _
    exact lf_D h3 hc h39 h11 hR hw hf hl (fun f2 F2 g1 g2 => ⟨f2, rfl, fun j hj => by rw [← fOk_end g2 j hj]; exact g1.1 j hj, g1.2⟩) c 0 f _ none none none (by omega) e1 fOk_0
end LFR
end MG70farx2
section MG70farx3
/-! way, by hand -/
section WAY
variable {fr lo sl : Nat} {h : pm_H} {Q : pm_Rs → Prop} {c t a : Nat} {w : Nat → Nat → Nat} {rd f f0 : Nat → Int32}
theorem ty_lar (hh : ah_ok bB 198 [] h) : ∃ R : Nat → Int64, h 163 = .inl (2, 128, .inr (.inl R)) := by
  have h0 : ac_ok (h 163) (bB 163) := hh 163 (by decide)
  have hb : bB 163 = .inl (2, 128, al_top) := rfl
  rw [hb] at h0
  cases e : h 163 with
  | inr q => rw [e] at h0; obtain ⟨ci, fs⟩ := q; exact h0.elim
  | inl q =>
    rw [e] at h0
    obtain ⟨kd, m, f | f | f | f | f⟩ := q
    · have := (h0.2.2 0 (by rw [h0.2.1]; decide)).1
      cases this
    · obtain ⟨rfl, rfl, q⟩ := h0
      exact ⟨f, rfl⟩
    · exact h0.elim
    · exact h0.elim
    · have q := h0.2.2 0 (by rw [h0.2.1]; decide)
      cases e3 : f 0 with
      | none => rw [e3] at q; cases q
      | some p => rw [e3] at q; cases q.1
theorem ty_rd (hh : ah_ok bB 198 [] h) : ∃ (rd : Nat → Int32) (w : Nat → Nat → Nat), h 169 = .inl (0, 36, .inl rd) ∧ rdOk rd w := by
  obtain ⟨rd, e, q⟩ := ty_arr hh (i := 169) (by decide) rfl rfl (by decide)
  refine ⟨rd, fun a b => (rd (6 * a + b)).toInt.toNat, e, fun a b ha hb => ?_⟩
  have hq := q (6 * a + b) (by omega)
  obtain ⟨n, e1, e2, e3⟩ := hI_of (x := rd (6 * a + b)) hq.1
  have h9 : (rd (6 * a + b)).toInt ≤ 9 := hq.2
  refine ⟨?_, by show (rd (6 * a + b)).toInt.toNat ≤ 9; omega⟩
  show rd (6 * a + b) = nI (rd (6 * a + b)).toInt.toNat
  rw [e3, Int.toNat_natCast]
  exact e1
theorem ty_far (hh : ah_ok bB 198 [] h) : ∃ f : Nat → Int32, h 185 = .inl (0, 6, .inl f) ∧ ∀ j, j < 6 → av_ok (.int (f j)) (0, 0, 1000000) := by
  have hb : ∃ cs, bB 185 = .inr (1000, cs) ∧ cs = [(0, 0, 1000000), (0, 0, 1000000), (0, 0, 1000000), (0, 0, 1000000), (0, 0, 1000000), (0, 0, 1000000)] := ⟨_, rfl, rfl⟩
  obtain ⟨cs, eb, rfl⟩ := hb
  obtain ⟨f, e, q⟩ := ty_arrE hh (i := 185) (by decide) eb
  refine ⟨f, e, fun j hj => q j _ ?_⟩
  have : j = 0 ∨ j = 1 ∨ j = 2 ∨ j = 3 ∨ j = 4 ∨ j = 5 := by omega
  rcases this with rfl | rfl | rfl | rfl | rfl | rfl <;> rfl
theorem ty_farI {f : Nat → Int32} (q : ∀ j, j < 6 → av_ok (.int (f j)) (0, 0, 1000000)) : ac_ok (.inl (0, 6, .inl f)) (bB 185) := by
  have hb : ∃ cs, bB 185 = .inr (1000, cs) ∧ cs = [(0, 0, 1000000), (0, 0, 1000000), (0, 0, 1000000), (0, 0, 1000000), (0, 0, 1000000), (0, 0, 1000000)] := ⟨_, rfl, rfl⟩
  obtain ⟨cs, eb, rfl⟩ := hb
  rw [eb]
  refine ⟨rfl, rfl, fun j b hb => ?_⟩
  have hj : j < 6 := (List.getElem?_eq_some_iff.mp hb).1
  have hbe : b = (0, 0, 1000000) := by
    have : j = 0 ∨ j = 1 ∨ j = 2 ∨ j = 3 ∨ j = 4 ∨ j = 5 := by omega
    rcases this with rfl | rfl | rfl | rfl | rfl | rfl <;> exact (Option.some.inj hb).symm
  rw [hbe]
  exact q j hj
theorem far_ty {F : Nat → Nat} (q : ∀ j, j < 6 → av_ok (.int (f0 j)) (0, 0, 1000000)) (hf : frOk c f0 f F) : ∀ j, j < 6 → av_ok (.int (f j)) (0, 0, 1000000) := by
  intro j hj
  by_cases z : j < c
  · obtain ⟨e, hl⟩ := hf.1 j z
    rw [e]
    have := INF_lt
    exact ⟨rfl, by rw [nI_toInt (by omega)]; show (0 : Int) ≤ _; omega, by rw [nI_toInt (by omega)]; show _ ≤ (1000000 : Int); omega⟩
  · rw [hf.2 j (by omega)]
    exact q j hj
def wyC (i : Nat) : Bool := Nat.beq i 185 || Nat.beq i 163
def wyG (g : Nat) : Bool := Nat.beq g 0 || Nat.beq g 1
/-- on the way: what is the same, what is told -/
def wyI (h0 h : pm_H) (f : Nat → Int32) (k : Nat) : Prop := dD wyC wyG h0 h ∧ mF h 0 (.int 0) ∧ mF h 1 (.int (nI k)) ∧ (∃ R : Nat → Int64, h 163 = .inl (2, 128, .inr (.inl R))) ∧ h 185 = .inl (0, 6, .inl f)
theorem lset_arr {a b n m : Nat} {R : Nat → Int64} {g : Nat → Int32} (hn : b ≠ a) (q : h b = .inl (0, m, .inl g)) : lset h a n R b = .inl (0, m, .inl g) := by
  rw [lset_nei hn]
  exact q
theorem wyI_en {h0 : pm_H} {k : Nat} {R R2 : Nat → Int64} (q : wyI h0 h f k) : wyI h0 (mset (lset h 163 128 R2) 1 (.int (nI (k + 1)))) f (k + 1) := by
  obtain ⟨d, m0, m1, -, m4⟩ := q
  refine ⟨dD_tr d (dD_tr (dD_lset rfl (by decide)) (dD_set rfl)), mF_ne (by decide) (mF_ls (by decide) m0), mF_self (mF_ls (by decide) m1), ⟨R2, ?_⟩, mset_arr (by decide) (lset_arr (by decide) m4)⟩
  rw [mset_ne (by decide), lset_self]
theorem wyP {k : Nat} {hk : pm_H} (hI : mInv h) (q : wyI h hk f k) (hk2 : k ≤ 100) (tf : ∀ j, j < 6 → av_ok (.int (f j)) (0, 0, 1000000)) {A : Option Value → Prop} {v : Option Value} (hA : A v) : mPost A h sl (v, hk, 198, sl) := by
  obtain ⟨d, m0, m1, ⟨R, m3⟩, m4⟩ := q
  refine ⟨hA, rfl, x_lt d (fun i hi => by unfold wyC; rw [nb_ne (by omega), nb_ne (by omega)]; rfl), dD_ty hI.1 d (fun i hi _ _ => ?_) (fun g hg b hb => ?_), rxQ_dD d rfl rfl rfl rfl rfl rfl hI.2⟩
  · unfold wyC at hi
    rw [Bool.or_eq_true] at hi
    rcases hi with hi | hi
    · have := Nat.eq_of_beq_eq_true hi
      subst this
      show ac_ok (hk 185) _
      rw [m4]
      exact ty_farI tf
    · have := Nat.eq_of_beq_eq_true hi
      subst this
      show ac_ok (hk 163) _
      rw [m3]
      exact ⟨rfl, rfl, fun j _ => al_top_ok _⟩
  · unfold wyG at hg
    rw [Bool.or_eq_true] at hg
    rcases hg with hg | hg
    · have := Nat.eq_of_beq_eq_true hg
      subst this
      cases (Option.some.inj hb : _ = b)
      exact ⟨_, m0, ⟨rfl, by decide, by decide⟩⟩
    · have := Nat.eq_of_beq_eq_true hg
      subst this
      cases (Option.some.inj hb : _ = b)
      exact ⟨_, m1, av_nI (by omega) (by omega) (by omega)⟩
theorem wy_S (h3 : mF h 3 (.int (nI c))) (hc : c ≤ 6) (h39 : mF h 39 (.ref 185)) (h11 : mF h 11 (.ref 169)) (hR : h 169 = .inl (0, 36, .inl rd)) (hw : rdOk rd w) (hF : h 185 = .inl (0, 6, .inl f)) (hf : frOk c f0 f (lD w c t c)) {s : Nat} (hs : s < c) (kk : ∀ b y5 y6, b < c → 0 < w s b → lD w c t c b + w s b = lD w c t c s → pm_WP PT fr lo 238 (134, [some (.ref 162), some (.int (nI a)), some (.int (nI t)), some (.int (nI s)), some (.int (nI b)), y5, y6], [], h, 198, sl) Q) : ∀ (m b : Nat) (x6 : Option Value), b + m = c → (∃ b2, b ≤ b2 ∧ b2 < c ∧ 0 < w s b2 ∧ lD w c t c b2 + w s b2 = lD w c t c s) → pm_WP PT fr lo 238 (67, [some (.ref 162), some (.int (nI a)), some (.int (nI t)), some (.int (nI s)), some (.int (-1)), some (.int (nI b)), x6], [], h, 198, sl) Q := by
  intro m
  induction m with
  | zero =>
    intro b x6 hb e1
    obtain ⟨b2, q1, q2, -⟩ := e1
    omega
  | succ m ih =>
    intro b x6 hb e1
    have hbc : b < c := by omega
    obtain ⟨ew, hw9⟩ := hw s b (by omega) (by omega)
    obtain ⟨es, ls⟩ := hf.1 s hs
    obtain ⟨eb, lb⟩ := hf.1 b hbc
    have hI0 := INF_lt
    refine wp_i rfl rfl rfl rfl ?_
    refine wp_i rfl rfl rfl rfl ?_
    show pm_WP PT fr lo 238 (70, [some (.ref 162), some (.int (nI a)), some (.int (nI t)), some (.int (nI s)), some (.int (-1)), some (.int (nI b)), x6], [.ref 162, .int (nI b)], h, 198, sl) _
    refine wp_gfm rfl rfl h3 ?_
    show pm_WP PT fr lo 238 (73, [some (.ref 162), some (.int (nI a)), some (.int (nI t)), some (.int (nI s)), some (.int (-1)), some (.int (nI b)), x6], [.int (nI c), .int (nI b)], h, 198, sl) _
    refine wp_icmp (c := .ge) (off := 61) (t := 134) rfl rfl (fun q => absurd (q.symm.trans ((hI_ge (by omega) (by omega)).trans (decide_eq_false (by omega)))) (by decide)) (fun _ => ?_)
    refine wp_i rfl rfl rfl rfl ?_
    refine wp_i rfl rfl rfl rfl ?_
    refine wp_i rfl rfl rfl rfl ?_
    show pm_WP PT fr lo 238 (82, [some (.ref 162), some (.int (nI a)), some (.int (nI t)), some (.int (nI s)), some (.int (-1)), some (.int (nI b)), x6], [.ref 162], h, 198, sl) _
    refine wp_gfm rfl rfl h11 ?_
    refine wp_i rfl rfl rfl rfl ?_
    refine wp_i rfl rfl rfl rfl ?_
    refine wp_i rfl rfl rfl rfl ?_
    refine wp_i rfl rfl rfl rfl ?_
    refine wp_i rfl rfl rfl rfl ?_
    show pm_WP PT fr lo 238 (92, [some (.ref 162), some (.int (nI a)), some (.int (nI t)), some (.int (nI s)), some (.int (-1)), some (.int (nI b)), x6], [.int ((6 * (nI s)) + (nI b)), .ref 169], h, 198, sl) _
    rw [ix6 s b]
    show pm_WP PT fr lo 238 (92, [some (.ref 162), some (.int (nI a)), some (.int (nI t)), some (.int (nI s)), some (.int (-1)), some (.int (nI b)), x6], [.int (nI (6 * s + b)), .ref 169], h, 198, sl) _
    refine wp_iam rfl hR (hI_in (by omega) (by omega)) (by decide) ?_
    rw [nI_clamp (by omega), ew]
    show pm_WP PT fr lo 238 (93, [some (.ref 162), some (.int (nI a)), some (.int (nI t)), some (.int (nI s)), some (.int (-1)), some (.int (nI b)), x6], [.int (nI (w s b))], h, 198, sl) _
    refine wp_i rfl rfl rfl rfl ?_
    refine wp_i rfl rfl rfl rfl ?_
    show pm_WP PT fr lo 238 (97, [some (.ref 162), some (.int (nI a)), some (.int (nI t)), some (.int (nI s)), some (.int (-1)), some (.int (nI b)), some (.int (nI (w s b)))], [.int (nI (w s b))], h, 198, sl) _
    refine wp_if (c := .le) (off := 27) (t := 124) rfl rfl (fun q => ?_) (fun q => ?_)
    · have q : ¬ 0 < w s b := Nat.not_lt.mpr (of_decide_eq_true ((hI_le (b := 0) (by omega) (by omega)).symm.trans q))
      show pm_WP PT fr lo 238 (124, [some (.ref 162), some (.int (nI a)), some (.int (nI t)), some (.int (nI s)), some (.int (-1)), some (.int (nI b)), some (.int (nI (w s b)))], [], h, 198, sl) _
      refine wp_i rfl rfl rfl rfl ?_
      refine wp_i rfl rfl rfl rfl ?_
      refine wp_i rfl rfl rfl rfl ?_
      refine wp_i rfl rfl rfl rfl ?_
      show pm_WP PT fr lo 238 (67, [some (.ref 162), some (.int (nI a)), some (.int (nI t)), some (.int (nI s)), some (.int (-1)), some (.int (nI b + 1)), some (.int (nI (w s b)))], [], h, 198, sl) _
      rw [nI_1 b]
      refine ih (b + 1) _ (by omega) ?_
      obtain ⟨b2, r1, r2, r3, r4⟩ := e1
      refine ⟨b2, ?_, r2, r3, r4⟩
      have : b ≠ b2 := fun z => by subst z; exact q r3
      omega
    · have q : 0 < w s b := Nat.lt_of_not_le (of_decide_eq_false ((hI_le (b := 0) (by omega) (by omega)).symm.trans q))
      refine wp_i rfl rfl rfl rfl ?_
      show pm_WP PT fr lo 238 (101, [some (.ref 162), some (.int (nI a)), some (.int (nI t)), some (.int (nI s)), some (.int (-1)), some (.int (nI b)), some (.int (nI (w s b)))], [.ref 162], h, 198, sl) _
      refine wp_gfm rfl rfl h39 ?_
      refine wp_i rfl rfl rfl rfl ?_
      show pm_WP PT fr lo 238 (106, [some (.ref 162), some (.int (nI a)), some (.int (nI t)), some (.int (nI s)), some (.int (-1)), some (.int (nI b)), some (.int (nI (w s b)))], [.int (nI b), .ref 185], h, 198, sl) _
      refine wp_iam rfl hF (hI_in (by omega) (by omega)) (by decide) ?_
      rw [nI_clamp (by omega), eb]
      show pm_WP PT fr lo 238 (107, [some (.ref 162), some (.int (nI a)), some (.int (nI t)), some (.int (nI s)), some (.int (-1)), some (.int (nI b)), some (.int (nI (w s b)))], [.int (nI (lD w c t c b))], h, 198, sl) _
      refine wp_i rfl rfl rfl rfl ?_
      refine wp_i rfl rfl rfl rfl ?_
      refine wp_i rfl rfl rfl rfl ?_
      show pm_WP PT fr lo 238 (111, [some (.ref 162), some (.int (nI a)), some (.int (nI t)), some (.int (nI s)), some (.int (-1)), some (.int (nI b)), some (.int (nI (w s b)))], [.ref 162, .int ((nI (lD w c t c b)) + (nI (w s b)))], h, 198, sl) _
      refine wp_gfm rfl rfl h39 ?_
      refine wp_i rfl rfl rfl rfl ?_
      show pm_WP PT fr lo 238 (115, [some (.ref 162), some (.int (nI a)), some (.int (nI t)), some (.int (nI s)), some (.int (-1)), some (.int (nI b)), some (.int (nI (w s b)))], [.int (nI s), .ref 185, .int ((nI (lD w c t c b)) + (nI (w s b)))], h, 198, sl) _
      refine wp_iam rfl hF (hI_in (by omega) (by omega)) (by decide) ?_
      rw [nI_clamp (by omega), es, nI_add]
      show pm_WP PT fr lo 238 (116, [some (.ref 162), some (.int (nI a)), some (.int (nI t)), some (.int (nI s)), some (.int (-1)), some (.int (nI b)), some (.int (nI (w s b)))], [.int (nI (lD w c t c s)), .int (nI (lD w c t c b + w s b))], h, 198, sl) _
      show pm_WP PT fr lo 238 (116, [some (.ref 162), some (.int (nI a)), some (.int (nI t)), some (.int (nI s)), some (.int (-1)), some (.int (nI b)), some (.int (nI (w s b)))], [.int (nI (lD w c t c s)), .int (nI (lD w c t c b + w s b))], h, 198, sl) _
      refine wp_icmp (c := .ne) (off := 8) (t := 124) rfl rfl (fun q2 => ?_) (fun q2 => ?_)
      · have q2 : ¬ lD w c t c b + w s b = lD w c t c s := of_decide_eq_true ((hI_ne (by omega) (by omega)).symm.trans q2)
        show pm_WP PT fr lo 238 (124, [some (.ref 162), some (.int (nI a)), some (.int (nI t)), some (.int (nI s)), some (.int (-1)), some (.int (nI b)), some (.int (nI (w s b)))], [], h, 198, sl) _
        refine wp_i rfl rfl rfl rfl ?_
        refine wp_i rfl rfl rfl rfl ?_
        refine wp_i rfl rfl rfl rfl ?_
        refine wp_i rfl rfl rfl rfl ?_
        show pm_WP PT fr lo 238 (67, [some (.ref 162), some (.int (nI a)), some (.int (nI t)), some (.int (nI s)), some (.int (-1)), some (.int (nI b + 1)), some (.int (nI (w s b)))], [], h, 198, sl) _
        rw [nI_1 b]
        refine ih (b + 1) _ (by omega) ?_
        obtain ⟨b2, r1, r2, r3, r4⟩ := e1
        refine ⟨b2, ?_, r2, r3, r4⟩
        have : b ≠ b2 := fun z => by subst z; exact q2 r4
        omega
      · have q2 : lD w c t c b + w s b = lD w c t c s := Decidable.not_not.mp (of_decide_eq_false ((hI_ne (by omega) (by omega)).symm.trans q2))
        show pm_WP PT fr lo 238 (119, [some (.ref 162), some (.int (nI a)), some (.int (nI t)), some (.int (nI s)), some (.int (-1)), some (.int (nI b)), some (.int (nI (w s b)))], [], h, 198, sl) _
        refine wp_i rfl rfl rfl rfl ?_
        refine wp_i rfl rfl rfl rfl ?_
        refine wp_i rfl rfl rfl rfl ?_
        refine wp_i rfl rfl rfl rfl ?_
        refine wp_i rfl rfl rfl rfl ?_
        show pm_WP PT fr lo 238 (67, [some (.ref 162), some (.int (nI a)), some (.int (nI t)), some (.int (nI s)), some (.int (nI b)), some (.int (nI b + 1)), some (.int (nI (w s b)))], [], h, 198, sl) _
        refine wp_i rfl rfl rfl rfl ?_
        refine wp_i rfl rfl rfl rfl ?_
        show pm_WP PT fr lo 238 (70, [some (.ref 162), some (.int (nI a)), some (.int (nI t)), some (.int (nI s)), some (.int (nI b)), some (.int (nI b + 1)), some (.int (nI (w s b)))], [.ref 162, .int (nI b + 1)], h, 198, sl) _
        refine wp_gfm rfl rfl h3 ?_
        show pm_WP PT fr lo 238 (73, [some (.ref 162), some (.int (nI a)), some (.int (nI t)), some (.int (nI s)), some (.int (nI b)), some (.int (nI b + 1)), some (.int (nI (w s b)))], [.int (nI c), .int (nI b + 1)], h, 198, sl) _
        refine wp_icmp (c := .ge) (off := 61) (t := 134) rfl rfl (fun q3 => ?_) (fun q3 => ?_)
        · show pm_WP PT fr lo 238 (134, [some (.ref 162), some (.int (nI a)), some (.int (nI t)), some (.int (nI s)), some (.int (nI b)), some (.int (nI b + 1)), some (.int (nI (w s b)))], [], h, 198, sl) _
          exact kk b _ _ hbc q q2
        · refine wp_i rfl rfl rfl rfl ?_
          show pm_WP PT fr lo 238 (78, [some (.ref 162), some (.int (nI a)), some (.int (nI t)), some (.int (nI s)), some (.int (nI b)), some (.int (nI b + 1)), some (.int (nI (w s b)))], [.int (nI b)], h, 198, sl) _
          refine wp_if (c := .ge) (off := 56) (t := 134) rfl rfl (fun _ => ?_) (fun q => absurd (q.symm.trans ((hI_ge (b := 0) (by omega) (by omega)).trans (decide_eq_true (by omega)))) (by decide))
          show pm_WP PT fr lo 238 (134, [some (.ref 162), some (.int (nI a)), some (.int (nI t)), some (.int (nI s)), some (.int (nI b)), some (.int (nI b + 1)), some (.int (nI (w s b)))], [], h, 198, sl) _
          exact kk b _ _ hbc q q2
theorem wy_L {h0 : pm_H} (h3 : mF h0 3 (.int (nI c))) (hc : c ≤ 6) (h39 : mF h0 39 (.ref 185)) (h11 : mF h0 11 (.ref 169)) (h2 : mF h0 2 (.ref 163)) (hR : h0 169 = .inl (0, 36, .inl rd)) (hw : rdOk rd w) (hf : frOk c f0 f (lD w c t c)) (ht : t < c) (ha : a < c) (hf1 : 1 ≤ fr) (hl1 : 40 ≤ lo) (kk : ∀ h k, wyI h0 h f k → k ≤ 61 → Q (some (.int (f a)), h, 198, sl)) : ∀ (m s k : Nat) (h : pm_H) (x4 x5 x6 : Option Value), lD w c t c s ≤ m → s < c → lD w c t c s < INF → k + m ≤ 60 → wyI h0 h f k → pm_WP PT fr lo 238 (56, [some (.ref 162), some (.int (nI a)), some (.int (nI t)), some (.int (nI s)), x4, x5, x6], [], h, 198, sl) Q := by
  intro m
  induction m with
  | zero =>
    intro s k h x4 x5 x6 hm hs hi hk hq
    by_cases z : s = t
    · subst z
      obtain ⟨d, m0, m1, -, m4⟩ := id hq
      have p39 := dD_mF d rfl h39
      refine wp_i rfl rfl rfl rfl ?_
      refine wp_i rfl rfl rfl rfl ?_
      show pm_WP PT fr lo 238 (58, [some (.ref 162), some (.int (nI a)), some (.int (nI s)), some (.int (nI s)), x4, x5, x6], [.int (nI s), .int (nI s)], h, 198, sl) _
      refine wp_icmp (c := .eq) (off := 88) (t := 146) rfl rfl (fun _ => ?_) (fun q => absurd (q.symm.trans ((hI_eq (by omega) (by omega)).trans (decide_eq_true rfl))) (by decide))
      refine wp_i rfl rfl rfl rfl ?_
      show pm_WP PT fr lo 238 (147, [some (.ref 162), some (.int (nI a)), some (.int (nI s)), some (.int (nI s)), x4, x5, x6], [.ref 162], h, 198, sl) _
      refine wp_gfm rfl rfl p39 ?_
      refine wp_i rfl rfl rfl rfl ?_
      show pm_WP PT fr lo 238 (151, [some (.ref 162), some (.int (nI a)), some (.int (nI s)), some (.int (nI s)), x4, x5, x6], [.int (nI a), .ref 185], h, 198, sl) _
      refine wp_iam rfl m4 (hI_in (by omega) (by omega)) (by decide) ?_
      rw [nI_clamp (by omega)]
      show pm_WP PT fr lo 238 (152, [some (.ref 162), some (.int (nI a)), some (.int (nI s)), some (.int (nI s)), x4, x5, x6], [.int (f a)], h, 198, sl) _
      exact wp_iret rfl rfl (kk h k hq (by omega))
    · obtain ⟨b, q1, q2, q3⟩ := lD_eqw (w := w) (n := c) (t := t) hs z hi
      omega
  | succ m ih =>
    intro s k h x4 x5 x6 hm hs hi hk hq
    obtain ⟨d, m0, m1, ⟨R, m3⟩, m4⟩ := id hq
    have p39 := dD_mF d rfl h39
    by_cases z : s = t
    · subst z
      refine wp_i rfl rfl rfl rfl ?_
      refine wp_i rfl rfl rfl rfl ?_
      show pm_WP PT fr lo 238 (58, [some (.ref 162), some (.int (nI a)), some (.int (nI s)), some (.int (nI s)), x4, x5, x6], [.int (nI s), .int (nI s)], h, 198, sl) _
      refine wp_icmp (c := .eq) (off := 88) (t := 146) rfl rfl (fun _ => ?_) (fun q => absurd (q.symm.trans ((hI_eq (by omega) (by omega)).trans (decide_eq_true rfl))) (by decide))
      refine wp_i rfl rfl rfl rfl ?_
      show pm_WP PT fr lo 238 (147, [some (.ref 162), some (.int (nI a)), some (.int (nI s)), some (.int (nI s)), x4, x5, x6], [.ref 162], h, 198, sl) _
      refine wp_gfm rfl rfl p39 ?_
      refine wp_i rfl rfl rfl rfl ?_
      show pm_WP PT fr lo 238 (151, [some (.ref 162), some (.int (nI a)), some (.int (nI s)), some (.int (nI s)), x4, x5, x6], [.int (nI a), .ref 185], h, 198, sl) _
      refine wp_iam rfl m4 (hI_in (by omega) (by omega)) (by decide) ?_
      rw [nI_clamp (by omega)]
      show pm_WP PT fr lo 238 (152, [some (.ref 162), some (.int (nI a)), some (.int (nI s)), some (.int (nI s)), x4, x5, x6], [.int (f a)], h, 198, sl) _
      exact wp_iret rfl rfl (kk h k hq (by omega))
    · have p3 := dD_mF d rfl h3
      have p11 := dD_mF d rfl h11
      have p2 := dD_mF d rfl h2
      have pR := (d.1 169 (by decide) rfl).trans hR
      obtain ⟨b0, q1, q2, q3⟩ := lD_eqw (w := w) (n := c) (t := t) hs z hi
      refine wp_i rfl rfl rfl rfl ?_
      refine wp_i rfl rfl rfl rfl ?_
      show pm_WP PT fr lo 238 (58, [some (.ref 162), some (.int (nI a)), some (.int (nI t)), some (.int (nI s)), x4, x5, x6], [.int (nI t), .int (nI s)], h, 198, sl) _
      refine wp_icmp (c := .eq) (off := 88) (t := 146) rfl rfl (fun q => absurd (q.symm.trans ((hI_eq (by omega) (by omega)).trans (decide_eq_false z))) (by decide)) (fun _ => ?_)
      refine wp_i rfl rfl rfl rfl ?_
      refine wp_i rfl rfl rfl rfl ?_
      refine wp_i rfl rfl rfl rfl ?_
      refine wp_i rfl rfl rfl rfl ?_
      show pm_WP PT fr lo 238 (67, [some (.ref 162), some (.int (nI a)), some (.int (nI t)), some (.int (nI s)), some (.int (-1)), some (.int 0), x6], [], h, 198, sl) _
      refine wy_S p3 hc p39 p11 pR hw m4 hf hs (fun b y5 y6 r1 r2 r3 => ?_) c 0 x6 (by omega) ⟨b0, by omega, q1, q2, q3⟩
      refine wp_i rfl rfl rfl rfl ?_
      refine wp_i rfl rfl rfl rfl ?_
      refine wp_i rfl rfl rfl rfl ?_
      refine wp_i rfl rfl rfl rfl ?_
      refine wp_i rfl rfl rfl rfl ?_
      show pm_WP PT fr lo 238 (140, [some (.ref 162), some (.int (nI a)), some (.int (nI t)), some (.int (nI b)), some (.int (nI b)), y5, y6], [.long ((nI b)).toInt64, .ref 162], h, 198, sl) _
      refine wp_callM (t := 167) (As := [.long ((nI b)).toInt64]) (rest := []) (mx := 3) rfl rfl rfl rfl (Nat.le_of_ble_eq_true rfl) (Nat.le_of_ble_eq_true rfl) hf1 (by omega) rfl (mF_obj m1) (wp_mono (hd_enters (nI b).toInt64 m1 (by omega) p2 m3) ?_)
      rintro _ rfl
      show pm_WP PT fr lo 238 (143, [some (.ref 162), some (.int (nI a)), some (.int (nI t)), some (.int (nI b)), some (.int (nI b)), y5, y6], [], (mset (lset h 163 128 (vp_updL R k (nI b).toInt64)) 1 (.int (nI (k + 1)))), 198, sl) _
      refine wp_i rfl rfl rfl rfl ?_
      show pm_WP PT fr lo 238 (56, [some (.ref 162), some (.int (nI a)), some (.int (nI t)), some (.int (nI b)), some (.int (nI b)), y5, y6], [], (mset (lset h 163 128 (vp_updL R k (nI b).toInt64)) 1 (.int (nI (k + 1)))), 198, sl) _
      exact ih b (k + 1) _ _ _ _ (by omega) r1 (by omega) (by omega) (wyI_en (R := R) hq)
theorem hm_way (hI : mInv h) (x y : Int32) (hf : 100 ≤ fr) (hl : 4000 ≤ lo) : pm_WP PT fr lo 238 (0, pm_l0 [.ref 162, .int x, .int y] 7, [], h, 198, sl) (mPost anInt h sl) := by
  obtain ⟨hh, hq⟩ := id hI
  obtain ⟨x0, h0, -⟩ := ty_fld hh (g := 0) rfl
  obtain ⟨x1, h1, -⟩ := ty_fld hh (g := 1) rfl
  obtain ⟨c, h3, hc⟩ := ty_nat hh (g := 3) (u := 6) rfl (by decide)
  have h2 := ty_ref hh (g := 2) (p := 163) rfl
  have h39 := ty_ref hh (g := 39) (p := 185) rfl
  have h11 := ty_ref hh (g := 11) (p := 169) rfl
  obtain ⟨rd, w, hR, hw⟩ := ty_rd hh
  obtain ⟨f0, hF, tF⟩ := ty_far hh
  obtain ⟨R, hL⟩ := ty_lar hh
  refine wp_i rfl rfl rfl rfl ?_
  refine wp_i rfl rfl rfl rfl ?_
  show pm_WP PT fr lo 238 (2, [some (.ref 162), some (.int x), some (.int y), none, none, none, none], [.int 0, .ref 162], h, 198, sl) _
  refine wp_pfm rfl rfl rfl (by decide) h0 ?_
  refine wp_i rfl rfl rfl rfl ?_
  refine wp_i rfl rfl rfl rfl ?_
  show pm_WP PT fr lo 238 (7, [some (.ref 162), some (.int x), some (.int y), none, none, none, none], [.int x, .ref 162], (mset h 0 (.int 0)), 198, sl) _
  refine wp_callM (t := 168) (As := [.int x]) (rest := []) (mx := 2) rfl rfl rfl rfl (Nat.le_of_ble_eq_true rfl) (Nat.le_of_ble_eq_true rfl) (by omega) (by omega) rfl (mF_obj (mF_self h0)) (wp_mono (hd_isCourt (c := c) x (mF_ne (by decide) h3) (by omega) (by omega)) ?_)
  rintro _ rfl
  cases b1 : in_b x.toInt64 0 (nI c - 1).toInt64 with
  | false =>
    show pm_WP PT fr lo 238 (10, [some (.ref 162), some (.int x), some (.int y), none, none, none, none], [.int 0], (mset h 0 (.int 0)), 198, sl) _
    refine wp_i rfl rfl rfl rfl ?_
    refine wp_i rfl rfl rfl rfl ?_
    show pm_WP PT fr lo 238 (22, [some (.ref 162), some (.int x), some (.int y), none, none, none, none], [.int (-1)], (mset h 0 (.int 0)), 198, sl) _
    exact wp_iret rfl rfl (post0 hI h0 ⟨_, rfl⟩)
  | true =>
    show pm_WP PT fr lo 238 (10, [some (.ref 162), some (.int x), some (.int y), none, none, none, none], [.int 1], (mset h 0 (.int 0)), 198, sl) _
    refine wp_i rfl rfl rfl rfl ?_
    refine wp_i rfl rfl rfl rfl ?_
    refine wp_i rfl rfl rfl rfl ?_
    show pm_WP PT fr lo 238 (15, [some (.ref 162), some (.int x), some (.int y), none, none, none, none], [.int y, .ref 162], (mset h 0 (.int 0)), 198, sl) _
    refine wp_callM (t := 168) (As := [.int y]) (rest := []) (mx := 2) rfl rfl rfl rfl (Nat.le_of_ble_eq_true rfl) (Nat.le_of_ble_eq_true rfl) (by omega) (by omega) rfl (mF_obj (mF_self h0)) (wp_mono (hd_isCourt (c := c) y (mF_ne (by decide) h3) (by omega) (by omega)) ?_)
    rintro _ rfl
    cases b2 : in_b y.toInt64 0 (nI c - 1).toInt64 with
    | false =>
      show pm_WP PT fr lo 238 (18, [some (.ref 162), some (.int x), some (.int y), none, none, none, none], [.int 0], (mset h 0 (.int 0)), 198, sl) _
      refine wp_i rfl rfl rfl rfl ?_
      refine wp_i rfl rfl rfl rfl ?_
      show pm_WP PT fr lo 238 (22, [some (.ref 162), some (.int x), some (.int y), none, none, none, none], [.int (-1)], (mset h 0 (.int 0)), 198, sl) _
      exact wp_iret rfl rfl (post0 hI h0 ⟨_, rfl⟩)
    | true =>
      show pm_WP PT fr lo 238 (18, [some (.ref 162), some (.int x), some (.int y), none, none, none, none], [.int 1], (mset h 0 (.int 0)), 198, sl) _
      refine wp_i rfl rfl rfl rfl ?_
      obtain ⟨a, rfl, ha⟩ := isC_iv hc b1
      obtain ⟨t, rfl, ht⟩ := isC_iv hc b2
      show pm_WP PT fr lo 238 (23, [some (.ref 162), some (.int (nI a)), some (.int (nI t)), none, none, none, none], [], (mset h 0 (.int 0)), 198, sl) _
      refine wp_i rfl rfl rfl rfl ?_
      refine wp_i rfl rfl rfl rfl ?_
      show pm_WP PT fr lo 238 (25, [some (.ref 162), some (.int (nI a)), some (.int (nI t)), none, none, none, none], [.int (nI t), .ref 162], (mset h 0 (.int 0)), 198, sl) _
      refine wp_callM (t := 237) (As := [.int (nI t)]) (rest := []) (mx := 6) rfl rfl rfl rfl (Nat.le_of_ble_eq_true rfl) (Nat.le_of_ble_eq_true rfl) (by omega) (by omega) rfl (mF_obj (mF_self h0)) (wp_mono (hd_laysFar (w := w) (mF_ne (by decide) h3) hc (mF_ne (by decide) h39) (mF_ne (by decide) h11) (mset_arr (by decide) hR) hw (mset_arr (by decide) hF) (by omega) (by omega) (by omega)) ?_)
      rintro _ ⟨f, rfl, hf2⟩
      have tf := far_ty tF hf2
      obtain ⟨ea, la⟩ := hf2.1 a ha
      have hI0 := INF_lt
      refine wp_i rfl rfl rfl rfl ?_
      show pm_WP PT fr lo 238 (29, [some (.ref 162), some (.int (nI a)), some (.int (nI t)), none, none, none, none], [.ref 162], (aset (mset h 0 (.int 0)) 185 6 f), 198, sl) _
      refine wp_gfm rfl rfl (mF_as (by decide) (mF_ne (by decide) h39)) ?_
      refine wp_i rfl rfl rfl rfl ?_
      show pm_WP PT fr lo 238 (33, [some (.ref 162), some (.int (nI a)), some (.int (nI t)), none, none, none, none], [.int (nI a), .ref 185], (aset (mset h 0 (.int 0)) 185 6 f), 198, sl) _
      refine wp_iam rfl (aset_self _ _ _ _) (hI_in (by omega) (by omega)) (by decide) ?_
      rw [nI_clamp (by omega), ea]
      show pm_WP PT fr lo 238 (34, [some (.ref 162), some (.int (nI a)), some (.int (nI t)), none, none, none, none], [.int (nI (lD w c t c a))], (aset (mset h 0 (.int 0)) 185 6 f), 198, sl) _
      refine wp_i rfl rfl rfl rfl ?_
      show pm_WP PT fr lo 238 (37, [some (.ref 162), some (.int (nI a)), some (.int (nI t)), none, none, none, none], [.int 1000000, .int (nI (lD w c t c a))], (aset (mset h 0 (.int 0)) 185 6 f), 198, sl) _
      refine wp_icmp (c := .lt) (off := 6) (t := 43) rfl rfl (fun q => ?_) (fun q => ?_)
      · have q : lD w c t c a < INF := of_decide_eq_true ((hI_lt (b := 1000000) (by omega) (by omega)).symm.trans q)
        refine wp_i rfl rfl rfl rfl ?_
        refine wp_i rfl rfl rfl rfl ?_
        show pm_WP PT fr lo 238 (45, [some (.ref 162), some (.int (nI a)), some (.int (nI t)), none, none, none, none], [.int 0, .ref 162], (aset (mset h 0 (.int 0)) 185 6 f), 198, sl) _
        refine wp_pfm rfl rfl rfl (by decide) (mF_as (by decide) (mF_ne (by decide) h1)) ?_
        refine wp_i rfl rfl rfl rfl ?_
        refine wp_i rfl rfl rfl rfl ?_
        refine wp_i rfl rfl rfl rfl ?_
        refine wp_i rfl rfl rfl rfl ?_
        refine wp_i rfl rfl rfl rfl ?_
        have w0 : wyI h (mset (aset (mset h 0 (.int 0)) 185 6 f) 1 (.int 0)) f 0 := ⟨dD_tr (dD_tr (dD_set rfl) (dD_arr rfl (by decide))) (dD_set rfl), mF_ne (by decide) (mF_as (by decide) (mF_self h0)), mF_self (mF_as (by decide) (mF_ne (by decide) h1)), ⟨R, by rw [mset_ne (by decide), aset_nei (by decide), mset_ne (by decide)]; exact hL⟩, mset_arr (by decide) (aset_self _ _ _ _)⟩
        generalize (mset (aset (mset h 0 (.int 0)) 185 6 f) 1 (.int 0)) = hg at w0 ⊢
        obtain ⟨R2, m3⟩ := id w0.2.2.2.1
        show pm_WP PT fr lo 238 (53, [some (.ref 162), some (.int (nI a)), some (.int (nI t)), some (.int (nI a)), none, none, none], [.long ((nI a)).toInt64, .ref 162], hg, 198, sl) _
        refine wp_callM (t := 167) (As := [.long ((nI a)).toInt64]) (rest := []) (mx := 3) rfl rfl rfl rfl (Nat.le_of_ble_eq_true rfl) (Nat.le_of_ble_eq_true rfl) (by omega) (by omega) rfl (mF_obj w0.2.2.1) (wp_mono (hd_enters (nI a).toInt64 w0.2.2.1 (by omega) (dD_mF w0.1 rfl h2) m3) ?_)
        rintro _ rfl
        show pm_WP PT fr lo 238 (56, [some (.ref 162), some (.int (nI a)), some (.int (nI t)), some (.int (nI a)), none, none, none], [], (mset (lset hg 163 128 (vp_updL R2 0 (nI a).toInt64)) 1 (.int (nI (0 + 1)))), 198, sl) _
        have hb := lD_bd (w := w) (n := c) (t := t) (fun i j hi hj => (hw i j (by omega) (by omega)).2) c a ha
        exact wy_L h3 hc h39 h11 h2 hR hw hf2 ht ha (by omega) (by omega) (fun h2 k q1 q2 => wyP hI q1 (by omega) tf ⟨_, rfl⟩) 54 a (0 + 1) _ none none none (by omega) ha q (by omega) (wyI_en (R := R2) w0)
      · refine wp_i rfl rfl rfl rfl ?_
        show pm_WP PT fr lo 238 (42, [some (.ref 162), some (.int (nI a)), some (.int (nI t)), none, none, none, none], [.int (-2)], (aset (mset h 0 (.int 0)) 185 6 f), 198, sl) _
        obtain ⟨k1, h1, lk⟩ := ty_nat hh (g := 1) (u := 100) rfl (by decide)
        exact wp_iret rfl rfl (wyP hI ⟨dD_tr (dD_set rfl) (dD_arr rfl (by decide)), mF_as (by decide) (mF_self h0), mF_as (by decide) (mF_ne (by decide) h1), ⟨R, by rw [aset_nei (by decide), mset_ne (by decide)]; exact hL⟩, aset_self _ _ _ _⟩ lk tf ⟨_, rfl⟩)
end WAY
end MG70farx3
