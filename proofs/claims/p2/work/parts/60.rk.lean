/-! what is kept by the reference, and the callees that are known by hand -/
section RKN
def rowT (j : Nat) : av := match bB 170 with
  | .inr (_, as) => as.getD j (0, 0, 0)
  | _ => (0, 0, 0)
def rowsOk (h : pm_H) (a n : Nat) : Prop := ∃ f : Nat → Int32, h a = .inl (0, n, .inl f) ∧ ∀ j, j < n → av_ok (.int (f j)) (rowT (j % 96))
def codeOk (h : pm_H) : Prop := ∃ (n dn : Nat) (f : Nat → Int32), mF h 23 (.int (nI n)) ∧ h 174 = .inl (0, 80, .inl f) ∧ n ≤ 80 ∧ (n = 0 ∨ (dep f n = some dn ∧ 1 ≤ dn))
def cgOk (h : pm_H) : Prop := ∃ c g : Nat, mF h 3 (.int (nI c)) ∧ mF h 4 (.int (nI g)) ∧ c ≤ 6 ∧ g ≤ 8 ∧ (0 < g → 0 < c)
def rxQ (h : pm_H) : Prop := codeOk h ∧ cgOk h ∧ rowsOk h 178 1536 ∧ rowsOk h 196 288
def rxPf (ci f : Nat) : Bool := Nat.beq ci 11 && (Nat.beq f 3 || (Nat.beq f 4 || (Nat.beq f 23 || Nat.beq f 24)))
def rxC (i : Nat) : Bool := Nat.blt i 162 || (Nat.beq i 174 || (Nat.beq i 175 || Nat.beq i 193))
def rxF0 : fr_F := (fun i => rxC i || (Nat.beq i 178 || Nat.beq i 196), rxPf)
def rxF : fr_F := (rxC, rxPf)
variable {h h' : pm_H}
theorem rxle : ∀ h h', fm rxF0 h h' → fm rxF h h' := by
  intro h h' q
  refine ⟨fun i hi => q.1 i ?_, q.2⟩
  have hi : rxC i = true := hi
  show (rxC i || (Nat.beq i 178 || Nat.beq i 196)) = true
  rw [hi]
  rfl
theorem fm_mF {F : fr_F} {g : Nat} {v : Value} (q : fm F h h') (hg : F.2 11 g = true) (m : mF h g v) : mF h' g v := by
  obtain ⟨fs, e, e1⟩ := m
  obtain ⟨fs', e', -, hk⟩ := q.2 162 11 fs e
  exact ⟨fs', e', (hk g hg).trans e1⟩
theorem rxpp : pp_ok rxF0 rxQ := by
  intro h h' q hp
  obtain ⟨⟨n, dn, f, c1, c2, c3, c4⟩, ⟨c, g, d1, d2, d3⟩, ⟨f1, r1, r2⟩, f2, r3, r4⟩ := hp
  exact ⟨⟨n, dn, f, fm_mF q rfl c1, (q.1 174 rfl).trans c2, c3, c4⟩, ⟨c, g, fm_mF q rfl d1, fm_mF q rfl d2, d3⟩, ⟨f1, (q.1 178 rfl).trans r1, r2⟩, f2, (q.1 196 rfl).trans r3, r4⟩
theorem fm_ms {F : fr_F} {g : Nat} {v w : Value} (hF : F.1 162 = false) (hg : F.2 11 g = false) (m : mF h g w) : fm F h (mset h g v) := by
  obtain ⟨fs, e, -⟩ := m
  rw [mset_of e]
  exact fm_fld hF e hg
theorem fm_as {F : fr_F} {a n : Nat} {f g : Nat → Int32} (hF : F.1 a = false) (m : h a = .inl (0, n, .inl g)) : fm F h (aset h a n f) := fm_arr hF ⟨_, m⟩
/-! abstract heaps and updates -/
variable {o : ah} {as : List av}
theorem ob_fld (hh : ah_ok bB 198 o h) (e : ah_get bB o 162 = .inr (11, as)) {g : Nat} {a : av} (ha : as[g]? = some a) : ∃ v, mF h g v ∧ av_ok v a := by
  have h0 := hh 162 (by decide)
  rw [e] at h0
  obtain ⟨fs, ef, hl, hg⟩ := aE_obj h0 (by decide)
  have hlt : g < fs.length := by have := (List.getElem?_eq_some_iff.mp ha).1; omega
  exact ⟨fs[g], ⟨fs, ef, List.getElem?_eq_getElem hlt⟩, hg g fs[g] a (List.getElem?_eq_getElem hlt) ha⟩
theorem ob_ref (hh : ah_ok bB 198 o h) (e : ah_get bB o 162 = .inr (11, as)) {g p : Nat} (ha : as[g]? = some (2, (p : Int), 1)) : mF h g (.ref p) := by
  obtain ⟨v, h1, h2⟩ := ob_fld hh e ha
  obtain ⟨q, rfl, hq⟩ := av_ref rfl h2
  have : q = p := by simpa [av_ids] using hq
  subst this
  exact h1
theorem ob_nat (hh : ah_ok bB 198 o h) (e : ah_get bB o 162 = .inr (11, as)) {g : Nat} {l u : Int} (ha : as[g]? = some (0, l, u)) (hl : 0 ≤ l) (hu : u ≤ 1000000) : ∃ n : Nat, mF h g (.int (nI n)) ∧ l ≤ (n : Int) ∧ (n : Int) ≤ u := by
  obtain ⟨v, h1, h2⟩ := ob_fld hh e ha
  obtain ⟨x, rfl, h3, h4⟩ := av_int rfl h2
  dsimp only at h3 h4
  obtain ⟨n, rfl, hn, en⟩ := hI_of (show 0 ≤ x.toInt by omega)
  exact ⟨n, h1, by omega, by omega⟩
theorem ob_set (hh : ah_ok bB 198 o h) (e : ah_get bB o 162 = .inr (11, as)) {g : Nat} {v : Value} {a : av} (hv : av_ok v a) : ah_ok bB 198 (ah_put o 162 (.inr (11, as.set g a))) (mset h g v) := by
  have h0 := hh 162 (by decide)
  rw [e] at h0
  obtain ⟨fs, ef, hl, hg⟩ := aE_obj h0 (by decide)
  intro i hi
  rw [ah_put_get]
  by_cases q : i = 162
  · subst q
    rw [if_pos rfl, mset_of ef]
    simp only [va_up, if_pos]
    refine ⟨⟨rfl, by decide⟩, by simp [hl], fun j w b hw hb => ?_⟩
    by_cases ej : g = j
    · subst ej
      have hlt : g < fs.length := by
        have := (List.getElem?_eq_some_iff.mp hw).1
        simpa using this
      rw [List.getElem?_set_self hlt] at hw
      rw [List.getElem?_set_self (by omega)] at hb
      cases hw
      cases hb
      exact hv
    · rw [List.getElem?_set_ne ej] at hw hb
      exact hg j w b hw hb
  · rw [if_neg q, mset_ne q]
    exact hh i hi
theorem ob_arr (hh : ah_ok bB 198 o h) {i n : Nat} {c : ac} {f : Nat → Int32} (hc : ac_ok (.inl (0, n, .inl f)) c) : ah_ok bB 198 (ah_put o i c) (aset h i n f) := by
  intro j hj
  rw [ah_put_get]
  by_cases q : j = i
  · subst q; rw [if_pos rfl, aset_self]; exact hc
  · rw [if_neg q, aset_nei q]; exact hh j hj
theorem ob_int (hh : ah_ok bB 198 o h) {i n : Nat} {a : av} (hi : i < 198) (e : ah_get bB o i = .inl (0, n, a)) (ha : a.1 = 0) (hn : 0 < n) : ∃ f : Nat → Int32, h i = .inl (0, n, .inl f) ∧ ∀ j, j < n → av_ok (.int (f j)) a := by
  have h0 := hh i hi
  rw [e] at h0
  cases e2 : h i with
  | inr q => rw [e2] at h0; obtain ⟨ci, fs⟩ := q; exact h0.elim
  | inl q =>
    rw [e2] at h0
    obtain ⟨kd, m, f | f | f | f | f⟩ := q
    · obtain ⟨rfl, rfl, q⟩ := h0
      exact ⟨f, rfl, q⟩
    · obtain ⟨rfl, rfl, q⟩ := h0
      have := (q 0 hn).1
      omega
    · exact h0.elim
    · exact h0.elim
    · obtain ⟨rfl, rfl, q⟩ := h0
      have q := q 0 hn
      unfold aq at q
      rw [if_neg (by omega)] at q
      cases e3 : f 0 with
      | none => rw [e3] at q; have q : a.1 = 3 := q; omega
      | some p => rw [e3] at q; have := q.1; omega
theorem ob_intE (hh : ah_ok bB 198 o h) {i : Nat} {bs : List av} (hi : i < 198) (e : ah_get bB o i = .inr (1000, bs)) : ∃ f : Nat → Int32, h i = .inl (0, bs.length, .inl f) ∧ ∀ j a, bs[j]? = some a → av_ok (.int (f j)) a := by
  have h0 := hh i hi
  rw [e] at h0
  cases e2 : h i with
  | inr q => rw [e2] at h0; obtain ⟨ci, fs⟩ := q; have h1 := h0.1.1; have h2 := h0.1.2; omega
  | inl q =>
    rw [e2] at h0
    obtain ⟨kd, m, f | f | f | f | f⟩ := q
    · obtain ⟨q1, rfl, q⟩ := h0
      have : kd = 0 := by omega
      subst this
      exact ⟨f, rfl, q⟩
    · exact h0.elim
    · exact h0.elim
    · exact h0.elim
    · exact h0.elim
/-- the object is there and its field g holds a -/
def ob_is (o : ah) (g : Nat) (a : av) : Bool := match ah_get bB o 162 with
  | .inr (ci, as) => Nat.beq ci 11 && decide (as[g]? = some a)
  | _ => false
theorem ob_is_ok {g : Nat} {a : av} (e : ob_is o g a = true) : ∃ as, ah_get bB o 162 = .inr (11, as) ∧ as[g]? = some a := by
  unfold ob_is at e
  split at e
  · rename_i ci as eo
    rw [Bool.and_eq_true] at e
    have := Nat.eq_of_beq_eq_true e.1
    subst this
    exact ⟨as, eo, of_decide_eq_true e.2⟩
  · cases e
/-- the text is being read: from where on, how far -/
def rk_txt (o : ah) : Option (List av × av) := match ah_get bB o 162, ah_get bB o 172 with
  | .inr (ci, as), .inl (kd, n, b) => (match as[16]?, as[17]? with
    | some x, some y => cond (Nat.beq ci 11 && (decide (as[14]? = some (2, 172, 1)) && (decide (x.1 = 0 ∧ 0 ≤ x.2.1 ∧ x.2.2 ≤ 900) && (decide (y.1 = 0 ∧ 0 ≤ y.2.1 ∧ y.2.2 ≤ 80) && decide (kd = 0 ∧ n = 80 ∧ b.1 = 0))))) (some (as, x)) none
    | _, _ => none)
  | _, _ => none
theorem rk_txt_ok {x : av} (hh : ah_ok bB 198 o h) (e : rk_txt o = some (as, x)) : ah_get bB o 162 = .inr (11, as) ∧ as[16]? = some x ∧ x.1 = 0 ∧ ∃ (a t : Nat) (tp : Nat → Int32), mF h 16 (.int (nI a)) ∧ mF h 17 (.int (nI t)) ∧ mF h 14 (.ref 172) ∧ h 172 = .inl (0, 80, .inl tp) ∧ t ≤ 80 ∧ a < 1000 ∧ x.2.1 ≤ (a : Int) ∧ (a : Int) ≤ x.2.2 := by
  unfold rk_txt at e
  split at e
  · rename_i ci as' kd n b e1 e2
    split at e
    · rename_i x' y ex ey
      cases hc : (Nat.beq ci 11 && (decide (as'[14]? = some (2, 172, 1)) && (decide (x'.1 = 0 ∧ 0 ≤ x'.2.1 ∧ x'.2.2 ≤ 900) && (decide (y.1 = 0 ∧ 0 ≤ y.2.1 ∧ y.2.2 ≤ 80) && decide (kd = 0 ∧ n = 80 ∧ b.1 = 0))))) with
      | false => rw [hc] at e; cases e
      | true =>
        rw [hc] at e
        cases e
        rw [Bool.and_eq_true, Bool.and_eq_true, Bool.and_eq_true, Bool.and_eq_true] at hc
        obtain ⟨g1, g2, g3, g4, g5⟩ := hc
        have g1 := Nat.eq_of_beq_eq_true g1
        subst g1
        have g2 := of_decide_eq_true g2
        obtain ⟨x1, x2, x3⟩ := of_decide_eq_true g3
        obtain ⟨y1, y2, y3⟩ := of_decide_eq_true g4
        obtain ⟨rfl, rfl, b1⟩ := of_decide_eq_true g5
        obtain ⟨xk, xl, xu⟩ := x
        obtain ⟨yk, yl, yu⟩ := y
        dsimp only at x1 x2 x3 y1 y2 y3
        subst x1 y1
        obtain ⟨a, m16, a1, a2⟩ := ob_nat hh e1 ex x2 (by omega)
        obtain ⟨t, m17, t1, t2⟩ := ob_nat hh e1 ey y2 (by omega)
        obtain ⟨tp, ht, -⟩ := ob_int hh (by decide) e2 b1 (by decide)
        exact ⟨e1, ex, rfl, a, t, tp, m16, m17, ob_ref hh e1 g2, ht, by omega, by omega, a1, a2⟩
    · cases e
  · cases e
def rk_bump (o : ah) (as : List av) (x : av) (l u : Int) : ah := ah_put o 162 (.inr (11, as.set 16 (0, x.2.1 + l, x.2.2 + u)))
theorem rk_bump_ok {x : av} {b : Nat} {l u : Int} (hh : ah_ok bB 198 o h) (e : ah_get bB o 162 = .inr (11, as)) (h1 : x.2.1 + l ≤ (b : Int)) (h2 : (b : Int) ≤ x.2.2 + u) (hb : b < 100000) : ah_ok bB 198 (rk_bump o as x l u) (mset h 16 (.int (nI b))) := ob_set hh e ⟨rfl, by rw [nI_toInt (by omega)]; exact h1, by rw [nI_toInt (by omega)]; exact h2⟩
theorem rk_keep {g : Nat} {v w : Value} (hg : rxPf 11 g = false) (m : mF h g w) (hp : rxQ h) : fm rxF h (mset h g v) ∧ rxQ (mset h g v) := ⟨fm_ms rfl hg m, rxpp _ _ (fm_ms rfl hg m) hp⟩
end RKN
