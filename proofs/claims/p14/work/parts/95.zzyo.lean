section MG95zzyox0
/-! new COURTS on both sides -/
section CRL
variable {q : QT} {cq gc c N r : Nat} {h hx hm : pm_H}
/-- settled -/
def stI (c' : Nat) (h : pm_H) (i : Nat) (a : pm_H) : Prop := Ar a 14 = upd (Ar h 14) c' (nI 50) ∧ (∀ t, t < i → Ar a 15 (c' * 6 + t) = nI 10 ∧ Ar a 15 (t * 6 + c') = nI 10) ∧ ∀ k, (∀ t, t < i → k ≠ c' * 6 + t ∧ k ≠ t * 6 + c') → Ar a 15 k = Ar h 15 k
theorem st_step {c' k : Nat} {a : pm_H} (hc : c' < 6) (hk : k < c') (z : stI c' h k a) : stI c' h (k + 1) (w132_13b q cq gc a c' k) := by
  obtain ⟨z1, z2, z3⟩ := z
  unfold w132_13b
  refine ⟨(Ar_n (by decide)).trans z1, fun t ht => ?_, fun m hm => ?_⟩
  · rw [Ar_s]
    by_cases y : t = k
    · subst y
      exact ⟨by rw [up_n (by omega), up_e rfl], up_e rfl⟩
    · obtain ⟨e1, e2⟩ := z2 t (by omega)
      exact ⟨by rw [up_n (by omega), up_n (by omega)]; exact e1, by rw [up_n (by omega), up_n (by omega)]; exact e2⟩
  · rw [Ar_s, up_n (hm k (by omega)).2, up_n (hm k (by omega)).1]
    exact z3 m (fun t ht => hm t (by omega))
theorem w132_ar {c' : Nat} (hc : c' < 6) : stI c' h c' (w132 q cq gc h c') := by
  have z := lp_in (f := fun i a => w132_13b q cq gc a c' i) (P := stI c' h) c' 0 (aset h 14 6 (upd (Ar h 14) c' (nI 50))) ⟨Ar_s, fun t ht => absurd ht (Nat.not_lt_zero t), fun k _ => by rw [Ar_n (by decide)]⟩ (fun k a _ hk z => st_step hc (by omega) z)
  rw [Nat.zero_add] at z
  exact z
/-- so many new COURTS stand, on the class's side -/
def crJ (c : Nat) (h : pm_H) (i : Nat) (a : pm_H) : Prop := (∀ k, c ≤ k → k < c + i → Ar a 14 k = nI 50) ∧ (∀ k, (k < c ∨ c + i ≤ k) → Ar a 14 k = Ar h 14 k) ∧ (∀ x y, x < c + i → y < c + i → x ≠ y → (c ≤ x ∨ c ≤ y) → Ar a 15 (x * 6 + y) = nI 10) ∧ ∀ x y, x < c → y < c → Ar a 15 (x * 6 + y) = Ar h 15 (x * 6 + y)
theorem cr_step {i m : Nat} {a : pm_H} (hc : c + i < 6) (z : crJ c h i a) : crJ c h (i + 1) (w88_19b q cq gc a c m i) := by
  obtain ⟨z1, z2, z3, z4⟩ := z
  obtain ⟨s1, s2, s3⟩ := w132_ar (q := q) (cq := cq) (gc := gc) (h := a) hc
  unfold w88_19b
  refine ⟨fun k h1 h2 => ?_, fun k h1 => ?_, fun x y h1 h2 h3 h4 => ?_, fun x y h1 h2 => ?_⟩
  · rw [Ar_f, s1]
    by_cases y : k = c + i
    · exact up_e y
    · rw [up_n y]
      exact z1 k h1 (by omega)
  · rw [Ar_f, s1, up_n (by omega)]
    exact z2 k (by omega)
  · rw [Ar_f]
    by_cases y1 : x = c + i
    · rw [y1]
      exact (s2 y (by omega)).1
    · by_cases y2 : y = c + i
      · rw [y2]
        exact (s2 x (by omega)).2
      · rw [s3 (x * 6 + y) (fun t ht => ⟨by omega, by omega⟩)]
        exact z3 x y (by omega) (by omega) h3 h4
  · rw [Ar_f, s3 (x * 6 + y) (fun t ht => ⟨by omega, by omega⟩)]
    exact z4 x y h1 h2
theorem w88_ar (h1 : 1 ≤ N) (h6 : c + N ≤ 6) : crJ c h N (w88 q cq gc h N c).2 := by
  have z := lp_in (f := fun i a => w88_19b q cq gc a c N i) (P := crJ c h) N 0 (fset h 1 1 (.int (nI 0))) ⟨fun k h1 h2 => by omega, fun k _ => by rw [Ar_f], fun x y h1 h2 h3 h4 => by omega, fun x y _ _ => by rw [Ar_f]⟩ (fun k a _ hk z => cr_step (by omega) z)
  rw [Nat.zero_add] at z
  obtain ⟨z1, z2, z3, z4⟩ := z
  unfold w88
  rw [decide_eq_false (show ¬ N ≤ 0 by omega)]
  exact ⟨fun k a b => (congrFun (Ar_f.trans Ar_f) _).trans (z1 k a b), fun k a => (congrFun (Ar_f.trans Ar_f) _).trans (z2 k a), fun x y a b d e => (congrFun (Ar_f.trans Ar_f) _).trans (z3 x y a b d e), fun x y a b => (congrFun (Ar_f.trans Ar_f) _).trans (z4 x y a b)⟩
/-- the reference: one new COURT comes -/
def cmI (c' : Nat) (h : pm_H) (i : Nat) (a : pm_H) : Prop := (Ar a 164 = Ar h 164 ∧ Ar a 165 = Ar h 165 ∧ Ar a 173 = Ar h 173) ∧ (∀ t, t < i → (Ar a 170 (6 + 6 * c' + t) = nI 10 ∧ Ar a 170 (6 + 6 * t + c') = nI 10) ∧ Ar a 170 (42 + 6 * c' + t) = nI 0 ∧ Ar a 170 (42 + 6 * t + c') = nI 0) ∧ ∀ k, (∀ t, t < 6 → (k ≠ 6 + 6 * c' + t ∧ k ≠ 6 + 6 * t + c') ∧ k ≠ 42 + 6 * c' + t ∧ k ≠ 42 + 6 * t + c') → Ar a 170 k = Ar h 170 k
theorem w189_ar {x y : Nat} : (Ar (w189 q cq gc h x y) 164 = Ar h 164 ∧ Ar (w189 q cq gc h x y) 165 = Ar h 165 ∧ Ar (w189 q cq gc h x y) 173 = Ar h 173) ∧ Ar (w189 q cq gc h x y) 170 = upd (upd (Ar h 170) (6 + 6 * x + y) (nI 10)) (42 + 6 * x + y) (nI 0) := by
  unfold w189
  exact ⟨⟨(Ar_n (by decide)).trans (Ar_n (by decide)), (Ar_n (by decide)).trans (Ar_n (by decide)), (Ar_n (by decide)).trans (Ar_n (by decide))⟩, (Ar_n (by decide)).trans Ar_s⟩
theorem cm_step {c' k z1 z2 m : Nat} {t1 t2 t3 t4 : Int32} {a : pm_H} (hc : c' < 6) (hk : k < 6) (z : cmI c' h k a) : cmI c' h (k + 1) (w188_167b q cq gc a z1 c' t1 t2 t3 t4 m k) := by
  obtain ⟨⟨a1, a2, a3⟩, a4, a5⟩ := z
  unfold w188_167b
  obtain ⟨⟨b1, b2, b3⟩, b4⟩ := w189_ar (q := q) (cq := cq) (gc := gc) (h := a) (x := c') (y := k)
  obtain ⟨⟨d1, d2, d3⟩, d4⟩ := w189_ar (q := q) (cq := cq) (gc := gc) (h := w189 q cq gc a c' k) (x := k) (y := c')
  refine ⟨⟨d1.trans (b1.trans a1), d2.trans (b2.trans a2), d3.trans (b3.trans a3)⟩, fun t ht => ?_, fun j hj => ?_⟩
  · rw [d4, b4]
    by_cases y : t = k
    · subst y
      refine ⟨⟨?_, ?_⟩, ?_, ?_⟩
      · rw [up_n (by omega)]
        by_cases y : 6 + 6 * c' + t = 6 + 6 * t + c'
        · exact up_e y
        · rw [up_n y, up_n (by omega), up_e rfl]
      · rw [up_n (by omega), up_e rfl]
      · by_cases y : 42 + 6 * c' + t = 42 + 6 * t + c'
        · exact up_e y
        · rw [up_n y, up_n (by omega), up_e rfl]
      · exact up_e rfl
    · obtain ⟨⟨e1, e2⟩, e3, e4⟩ := a4 t (by omega)
      refine ⟨⟨?_, ?_⟩, ?_, ?_⟩
      · rw [up_n (by omega)]
        by_cases y : 6 + 6 * c' + t = 6 + 6 * k + c'
        · exact up_e y
        · rw [up_n y, up_n (by omega), up_n (by omega)]
          exact e1
      · rw [up_n (by omega), up_n (by omega), up_n (by omega)]
        by_cases y : 6 + 6 * t + c' = 6 + 6 * c' + k
        · exact up_e y
        · rw [up_n y]
          exact e2
      · by_cases y : 42 + 6 * c' + t = 42 + 6 * k + c'
        · exact up_e y
        · rw [up_n y, up_n (by omega), up_n (by omega), up_n (by omega)]
          exact e3
      · rw [up_n (by omega), up_n (by omega)]
        by_cases y : 42 + 6 * t + c' = 42 + 6 * c' + k
        · exact up_e y
        · rw [up_n y, up_n (by omega)]
          exact e4
  · obtain ⟨⟨e1, e2⟩, e3, e4⟩ := hj k hk
    rw [d4, b4, up_n e4, up_n e2, up_n e3, up_n e1]
    exact a5 j hj
def tsI (c' m : Nat) (h : pm_H) (i : Nat) (a : pm_H) : Prop := (Ar a 164 = Ar h 164 ∧ Ar a 170 = Ar h 170 ∧ Ar a 173 = Ar h 173) ∧ (∀ t, t < i → Ar a 165 (5 * c' + t) = Ar h 173 (6 * m + 1 + t)) ∧ ∀ k, (k < 5 * c' ∨ 5 * c' + i ≤ k) → Ar a 165 k = Ar h 165 k
theorem ts_step {c' k z1 m : Nat} {t1 t2 t3 t4 : Int32} {a : pm_H} (z : tsI c' m h k a) : tsI c' m h (k + 1) (w188_112b q cq gc a z1 c' t1 t2 t3 t4 m k) := by
  obtain ⟨⟨a1, a2, a3⟩, a4, a5⟩ := z
  unfold w188_112b
  refine ⟨⟨(Ar_n (by decide)).trans a1, (Ar_n (by decide)).trans a2, (Ar_n (by decide)).trans a3⟩, fun t ht => ?_, fun j hj => ?_⟩
  · rw [Ar_s]
    by_cases y : t = k
    · rw [y, up_e rfl, a3]
    · rw [up_n (by omega)]
      exact a4 t (by omega)
  · rw [Ar_s, up_n (by omega)]
    exact a5 j (by omega)
/-- so many new COURTS stand, on the reference's side -/
def crM (c : Nat) (h : pm_H) (i : Nat) (a : pm_H) : Prop := (Ar a 173 = Ar h 173 ∧ (∀ k, k < i → Ar a 164 (c + k) = Ar h 173 (6 * k) ∧ ∀ t, t < 5 → Ar a 165 (5 * (c + k) + t) = Ar h 173 (6 * k + 1 + t)) ∧ (∀ k, k < c → Ar a 164 k = Ar h 164 k) ∧ ∀ k, k < 5 * c → Ar a 165 k = Ar h 165 k) ∧ (∀ k, c ≤ k → k < c + i → Ar a 170 k = nI 50) ∧ (∀ k, (k < c ∨ c + i ≤ k ∧ k < 6) → Ar a 170 k = Ar h 170 k) ∧ (∀ x y, x < c + i → y < c + i → (c ≤ x ∨ c ≤ y) → Ar a 170 (6 + 6 * x + y) = nI 10) ∧ (∀ x y, x < c → y < c → Ar a 170 (6 + 6 * x + y) = Ar h 170 (6 + 6 * x + y)) ∧ (∀ x y, x < 6 → y < 6 → Ar a 170 (42 + 6 * x + y) = nI 0 ∨ Ar a 170 (42 + 6 * x + y) = Ar h 170 (42 + 6 * x + y)) ∧ (∀ x y, x < c → y < c → Ar a 170 (42 + 6 * x + y) = Ar h 170 (42 + 6 * x + y)) ∧ ∀ k, 78 ≤ k → Ar a 170 k = Ar h 170 k
theorem crM_step {i z1 : Nat} {t1 t2 t3 t4 : Int32} {a : pm_H} (hc : c + i < 6) (z : crM c h i a) : crM c h (i + 1) (w188_81b q cq gc a z1 c t1 t2 t3 t4 i) := by
  obtain ⟨⟨a1, a2, a3, a4⟩, b1, b2, b3, b4, b5, b6, b7⟩ := z
  have y1 := lp_in (f := fun j b => w188_112b q cq gc b z1 (c + i) t1 t2 t3 t4 i j) (P := tsI (c + i) i (aset a 164 6 (upd (Ar a 164) (c + i) (Ar a 173 (6 * i))))) 5 0 _ ⟨⟨rfl, rfl, rfl⟩, fun t ht => absurd ht (Nat.not_lt_zero t), fun k _ => rfl⟩ (fun k b _ hk z => ts_step z)
  have y1 : tsI (c + i) i (aset a 164 6 (upd (Ar a 164) (c + i) (Ar a 173 (6 * i)))) (0 + 5) (w188_112 q cq gc z1 (c + i) t1 t2 t3 t4 i 5 0 (aset a 164 6 (upd (Ar a 164) (c + i) (Ar a 173 (6 * i))))) := y1
  unfold w188_81b
  generalize w188_112 q cq gc z1 (c + i) t1 t2 t3 t4 i 5 0 (aset a 164 6 (upd (Ar a 164) (c + i) (Ar a 173 (6 * i)))) = u at y1 ⊢
  obtain ⟨⟨u1, u2, u3⟩, u4, u5⟩ := y1
  rw [Ar_s] at u1
  rw [Ar_n (by decide)] at u2 u3
  have y2 := lp_in (f := fun j b => w188_167b q cq gc b z1 (c + i) t1 t2 t3 t4 i j) (P := cmI (c + i) (aset u 170 96 (upd (Ar a 170) (c + i) (nI 50)))) 6 0 _ ⟨⟨rfl, rfl, rfl⟩, fun t ht => absurd ht (Nat.not_lt_zero t), fun k _ => rfl⟩ (fun k b _ hk z => cm_step (z2 := z1) hc (by omega) z)
  have y2 : cmI (c + i) (aset u 170 96 (upd (Ar a 170) (c + i) (nI 50))) (0 + 6) (w188_167 q cq gc z1 (c + i) t1 t2 t3 t4 i 6 0 (aset u 170 96 (upd (Ar a 170) (c + i) (nI 50)))) := y2
  generalize w188_167 q cq gc z1 (c + i) t1 t2 t3 t4 i 6 0 (aset u 170 96 (upd (Ar a 170) (c + i) (nI 50))) = w at y2 ⊢
  obtain ⟨⟨w1, w2, w3⟩, w4, w5⟩ := y2
  rw [Ar_n (by decide)] at w1 w2 w3
  rw [Ar_s] at w5
  have V4 : Ar w 164 = upd (Ar a 164) (c + i) (Ar a 173 (6 * i)) := w1.trans u1
  have V3 : Ar w 173 = Ar h 173 := w3.trans (u3.trans a1)
  have V5 : ∀ k, k < 5 * (c + i) → Ar w 165 k = Ar a 165 k := fun k hk => by rw [w2, u5 k (by omega), Ar_n (by decide)]
  have V6 : ∀ t, t < 5 → Ar w 165 (5 * (c + i) + t) = Ar h 173 (6 * i + 1 + t) := fun t ht => by rw [w2, u4 t (by omega), Ar_n (by decide), a1]
  refine ⟨⟨Ar_f.trans V3, fun k hk => ?_, fun k hk => ?_, fun k hk => ?_⟩, fun k h1 h2 => ?_, fun k h1 => ?_, fun x y h1 h2 h3 => ?_, fun x y h1 h2 => ?_, fun x y h1 h2 => ?_, fun x y h1 h2 => ?_, fun k h1 => ?_⟩
  · rw [Ar_f, Ar_f, V4]
    by_cases y : k = i
    · rw [y, up_e rfl, a1]
      exact ⟨rfl, V6⟩
    · rw [up_n (by omega)]
      obtain ⟨e1, e2⟩ := a2 k (by omega)
      exact ⟨e1, fun t ht => by rw [V5 _ (by omega)]; exact e2 t ht⟩
  · rw [Ar_f, V4, up_n (by omega)]
    exact a3 k hk
  · rw [Ar_f, V5 k (by omega)]
    exact a4 k hk
  · rw [Ar_f, w5 k (fun t ht => ⟨⟨by omega, by omega⟩, by omega, by omega⟩)]
    by_cases y : k = c + i
    · exact up_e y
    · rw [up_n y]
      exact b1 k h1 (by omega)
  · rw [Ar_f, w5 k (fun t ht => ⟨⟨by omega, by omega⟩, by omega, by omega⟩), up_n (by omega)]
    exact b2 k (by omega)
  · rw [Ar_f]
    by_cases y1 : x = c + i
    · rw [y1]
      exact (w4 y (by omega)).1.1
    · by_cases y2 : y = c + i
      · rw [y2]
        exact (w4 x (by omega)).1.2
      · rw [w5 _ (fun t ht => ⟨⟨by omega, by omega⟩, by omega, by omega⟩), up_n (by omega)]
        exact b3 x y (by omega) (by omega) h3
  · rw [Ar_f, w5 _ (fun t ht => ⟨⟨by omega, by omega⟩, by omega, by omega⟩), up_n (by omega)]
    exact b4 x y h1 h2
  · rw [Ar_f]
    by_cases y1 : x = c + i
    · rw [y1]
      exact Or.inl (w4 y (by omega)).2.1
    · by_cases y2 : y = c + i
      · rw [y2]
        exact Or.inl (w4 x (by omega)).2.2
      · rw [w5 _ (fun t ht => ⟨⟨by omega, by omega⟩, by omega, by omega⟩), up_n (by omega)]
        exact b5 x y h1 h2
  · rw [Ar_f, w5 _ (fun t ht => ⟨⟨by omega, by omega⟩, by omega, by omega⟩), up_n (by omega)]
    exact b6 x y h1 h2
  · rw [Ar_f, w5 _ (fun t ht => ⟨⟨by omega, by omega⟩, by omega, by omega⟩), up_n (by omega)]
    exact b7 k h1
theorem w188_ar {F x1 x2 x3 : Int32} (h6 : c + r ≤ 6) : crM c h r (w188 q cq gc h r c F x1 x2 x3).2 := by
  have z := lp_in (f := fun i a => w188_81b q cq gc a r c x1 x2 x3 F i) (P := crM c h) r 0 h ⟨⟨rfl, fun k hk => absurd hk (Nat.not_lt_zero k), fun _ _ => rfl, fun _ _ => rfl⟩, fun k h1 h2 => by omega, fun _ _ => rfl, fun x y h1 h2 h3 => by omega, fun _ _ _ _ => rfl, fun _ _ _ _ => Or.inr rfl, fun _ _ _ _ => rfl, fun _ _ => rfl⟩ (fun k a _ hk z => crM_step (by omega) z)
  rw [Nat.zero_add] at z
  have z : crM c h r (w188_81 q cq gc r c x1 x2 x3 F r 0 h) := z
  have e : ∀ b, Ar (w188 q cq gc h r c F x1 x2 x3).2 b = Ar (w188_81 q cq gc r c x1 x2 x3 F r 0 h) b := fun b => by
    unfold w188 w190
    exact Ar_f.trans Ar_f
  unfold crM at z ⊢
  rw [e 164, e 165, e 170, e 173]
  exact z
/-- both sides are alike behind new COURTS -/
theorem crt_rel (h6 : c + N ≤ 6) {X M X' M' : pm_H} {f : Nat → Int32} (hx : crJ c X N X') (hm : crM c M N M') (hv : ∀ k, k < N → Ar X 6 (c + k) = f (7 * k) - nI 48 ∧ ∀ j, j < 5 → Ar X 7 (5 * (c + k) + j) = f (7 * k + 1 + j) - nI 48) (hw : ∀ k, k < N → ∀ j, j < 6 → Ar M 173 (6 * k + j) = f (7 * k + j) - nI 48 ∧ dgt (f (7 * k + j) - nI 48)) {d hd ha : Nat → Int32} {x m : Int32} (s : RS c gc (Ar X 14) (Ar X 15) d hd ha x m (Ar M 170)) (ri : RI c gc (Ar M 170)) : RS (c + N) gc (Ar X' 14) (Ar X' 15) d hd ha x m (Ar M' 170) ∧ RI (c + N) gc (Ar M' 170) ∧ ∀ k, k < N → (Ar X 6 (c + k) = Ar M' 164 (c + k) ∧ dgt (Ar M' 164 (c + k))) ∧ ∀ j, j < 5 → Ar X 7 ((c + k) * 5 + j) = Ar M' 165 (5 * (c + k) + j) := by
  obtain ⟨x1, x2, x3, x4⟩ := hx
  obtain ⟨⟨m1, m2, m3, m4⟩, b1, b2, b3, b4, b5, b6, b7⟩ := hm
  obtain ⟨s1, s2, s3, s4, s5, s6, s7⟩ := s
  obtain ⟨r1, r2, r3, r4, r5⟩ := ri
  have ten : 0 ≤ (nI 10).toInt ∧ (nI 10).toInt ≤ 20 := by decide
  have z42 : ∀ a b, a < 6 → b < 6 → Ar M' 170 (42 + 6 * a + b) = Ar M 170 (42 + 6 * a + b) := fun a b h1 h2 => by
    rcases b5 a b h1 h2 with e | e
    · by_cases y : c ≤ a ∨ c ≤ b
      · rw [e, (r3 a b h1 h2).2 (by omega)]
        rfl
      · exact b6 a b (by omega) (by omega)
    · exact e
  refine ⟨⟨fun k hk => ?_, fun a b h1 h2 h3 => ?_, fun a b h1 h2 => ?_, fun j hj => ?_, fun j hj => ?_, ?_, ?_⟩, ⟨fun k hk => ?_, fun a b h1 h2 h3 => ?_, fun a b h1 h2 => ?_, fun j hj => ?_, fun k h1 h2 => ?_⟩, fun k hk => ?_⟩
  · by_cases y : c ≤ k ∧ k < c + N
    · rw [x1 k y.1 y.2, b1 k y.1 y.2]
    · rw [x2 k (by omega), b2 k (by omega)]
      exact s1 k hk
  · by_cases y : c ≤ a ∨ c ≤ b
    · rw [x3 a b h1 h2 h3 y, b3 a b h1 h2 y]
    · rw [x4 a b (by omega) (by omega), b4 a b (by omega) (by omega)]
      exact s2 a b (by omega) (by omega) h3
  · rw [z42 a b h1 h2]
    exact s3 a b h1 h2
  · rw [b7 _ (by omega)]
    exact s4 j hj
  · rw [b7 _ (by omega)]
    exact s5 j hj
  · rw [b7 _ (by omega)]
    exact s6
  · rw [b7 _ (by omega)]
    exact s7
  · by_cases y : c ≤ k ∧ k < c + N
    · rw [b1 k y.1 y.2]
      decide
    · rw [b2 k (by omega)]
      exact r1 k hk
  · by_cases y : c ≤ a ∨ c ≤ b
    · rw [b3 a b h1 h2 y]
      exact ten
    · rw [b4 a b (by omega) (by omega)]
      exact r2 a b (by omega) (by omega) h3
  · rw [z42 a b h1 h2]
    exact ⟨(r3 a b h1 h2).1, fun y => (r3 a b h1 h2).2 (by omega)⟩
  · obtain ⟨w, hw, e⟩ := r4 j hj
    exact ⟨w, by omega, (b7 _ (by omega)).trans e⟩
  · rw [b7 _ (by omega)]
    exact r5 k h1 h2
  · obtain ⟨e1, e2⟩ := m2 k hk
    obtain ⟨f1, f2⟩ := hv k hk
    have g0 := hw k hk 0 (by omega)
    refine ⟨⟨?_, ?_⟩, fun j hj => ?_⟩
    · rw [f1, e1]
      exact g0.1.symm
    · rw [e1, show Ar M 173 (6 * k) = f (7 * k) - nI 48 from g0.1]
      exact g0.2
    · rw [e2 j hj, show (c + k) * 5 + j = 5 * (c + k) + j by omega, f2 j hj]
      have g1 := (hw k hk (1 + j) (by omega)).1
      rw [show 6 * k + 1 + j = 6 * k + (1 + j) by omega, g1, show 7 * k + 1 + j = 7 * k + (1 + j) by omega]
end CRL
end MG95zzyox0
section MG95zzyox1
/-! the class's LINES of GIFTS, with their values -/
section GVX
variable {n fr lo sl n0 cc gc p t a g ln : Nat} {h g0 : pm_H} {R : pm_Rs} {f : Nat → Int32} {L1 L2 L3 L5 L6 k w e d : Int32}
def gW (h : pm_H) (g : Nat) (k w e d : Int32) : pm_H := aset (aset (aset (aset (aset h 9 8 (upd (Ar h 9) g k)) 10 8 (upd (Ar h 10) g w)) 11 8 (upd (Ar h 11) g e)) 17 8 (upd (Ar h 17) g d)) 18 8 (upd (Ar h 18) g (shl (nI 1) d))
def gR (R : pm_Rs) (h : pm_H) (sl : Nat) (s : Bool × Nat) (g : Nat) (k w e d : Int32) : Prop := R = (some (.int (xgA s)), cond s.1 (gW h g k w e d) h, 198, sl)
theorem xv_no {a : Nat} {pc : Nat} {L1 L2 L3 : Int32} {x5 x6 x7 x8 : Option Value} (hi : pm_ins PT 131 pc = some (.iconst (-1), 1)) (hi2 : pm_ins PT 131 (pc + 1) = some (.iload 4, 2)) (hi3 : pm_ins PT 131 (pc + 1 + 2) = some (.isub, 1)) (hi4 : pm_ins PT 131 (pc + 1 + 2 + 1) = some (.ireturn, 1)) (hh : pm_run PT n fr lo 131 (pc, [some (.ref 0), some (.int L1), some (.int L2), some (.int L3), some (.int (nI a)), x5, x6, x7, x8], [], h, 198, sl) = some R) : R = (some (.int (Int32.ofInt (-1) - nI a)), h, 198, sl) := by
  obtain ⟨n, hh⟩ := rn_i hi rfl rfl rfl hh
  obtain ⟨n, hh⟩ := rn_i hi2 rfl rfl rfl hh
  obtain ⟨n, hh⟩ := rn_i hi3 rfl rfl rfl hh
  exact (rn_ret hi4 (Or.inl rfl) hh).2
theorem xv_145 {a : Nat} (hn : n0 ≤ 80) (hc : cc ≤ 6) (ha : a < 900) (x : pX h n0 cc f) {L1 L2 L3 L5 L6 L7 : Int32} (hw : WT h) (hg : g < 8) (hh : pm_run PT n fr lo 131 (145, [some (.ref 0), some (.int (nI g)), some (.int L2), some (.int L3), some (.int (nI a)), some (.int L5), some (.int L6), some (.int L7), none], [], h, 198, sl) = some R) : gR R h sl (cond (dgi f (a + 1) (min n0 55) (Int32.ofInt 0) (nI cc - Int32.ofInt 1)) (true, a + 2) (false, a + 1)) g L3 L5 L7 (f (a + 1) - 48) := by
  obtain ⟨⟨fs, a1, a2, a3⟩, ⟨gs, g1, g2, g3⟩, c1, rs, d1, d2⟩ := id x
  obtain ⟨n, hh⟩ := rn_i rfl rfl rfl rfl hh
  obtain ⟨n, hh⟩ := rn_i rfl rfl rfl rfl hh
  obtain ⟨n, hh⟩ := rn_gfo (g := 0) rfl rfl (by decide) a1 a2 hh
  obtain ⟨n, hh⟩ := rn_i rfl rfl rfl rfl hh
  obtain ⟨n, hh⟩ := rn_i rfl rfl rfl rfl hh
  have e1 : nI a + Int32.ofInt 1 = nI (a + 1) := (Int32.ofNat_add a 1).symm
  have hh : pm_run PT n fr lo 131 (156, [some (.ref 0), some (.int (nI g)), some (.int L2), some (.int L3), some (.int (nI a + Int32.ofInt 1)), some (.int L5), some (.int L6), some (.int L7), none], [.int (nI 55), .int (nI a + Int32.ofInt 1), .ref 1], h, 198, sl) = some R := hh
  rw [e1] at hh
  obtain ⟨n, fr', lo', r1, hr1, hh⟩ := rn_call (w := 0) (t := 81) rfl rfl hh
  have er := dgA_run (l := 55) hn (by decide) (by omega) x hr1
  subst er
  have hh : pm_run PT n fr lo 131 (159, [some (.ref 0), some (.int (nI g)), some (.int L2), some (.int L3), some (.int (nI (a + 1))), some (.int L5), some (.int L6), some (.int L7), none], [.int (dgA f n0 (a + 1) 55)], h, 198, sl) = some R := hh
  obtain ⟨n, hh⟩ := rn_i rfl rfl rfl rfl hh
  obtain ⟨n, hh⟩ := rn_i rfl rfl rfl rfl hh
  obtain ⟨n, hh⟩ := rn_gfo (g := 2) rfl rfl (by decide) a1 a3 hh
  obtain ⟨n, hh⟩ := rn_i rfl rfl rfl rfl hh
  obtain ⟨n, fr', lo', r1, hr1, hh⟩ := rn_call (w := 0) (t := 23) rfl rfl hh
  have er := ic_run hc d1 d2 hr1
  subst er
  have hh : pm_run PT n fr lo 131 (170, [some (.ref 0), some (.int (nI g)), some (.int L2), some (.int L3), some (.int (nI (a + 1))), some (.int L5), some (.int L6), some (.int L7), some (.int (dgA f n0 (a + 1) 55))], [.int (cond (decide (0 ≤ (dgA f n0 (a + 1) 55).toInt ∧ (dgA f n0 (a + 1) 55).toInt < (cc : Int))) 1 0)], h, 198, sl) = some R := hh
  have ed : decide (0 ≤ (dgA f n0 (a + 1) 55).toInt ∧ (dgA f n0 (a + 1) 55).toInt < (cc : Int)) = dgi f (a + 1) (min n0 55) (Int32.ofInt 0) (nI cc - Int32.ofInt 1) := by
    rw [dgi_rng (by omega) (cc_m1 hc)]
    cases hd : dg f (a + 1) (min n0 55) with
    | false =>
      rw [dgA_no hd, show (Int32.ofInt (-1)).toInt = -1 by decide, decide_eq_false (by omega)]
      rfl
    | true =>
      obtain ⟨v1, v2⟩ := dg_val hd
      rw [dgA_yes hd, Bool.true_and, Bool.eq_iff_iff, decide_eq_true_iff, decide_eq_true_iff]
      omega
  rw [ed] at hh
  obtain ⟨n, hh⟩ := rn_if (cc := .ne) (off := 8) (t := 178) rfl rfl hh
  cases hi : dgi f (a + 1) (min n0 55) (Int32.ofInt 0) (nI cc - Int32.ofInt 1) with
  | false =>
    rw [hi] at hh
    have hh : pm_run PT n fr lo 131 (173, [some (.ref 0), some (.int (nI g)), some (.int L2), some (.int L3), some (.int (nI (a + 1))), some (.int L5), some (.int L6), some (.int L7), some (.int (dgA f n0 (a + 1) 55))], [], h, 198, sl) = some R := hh
    exact xv_no rfl rfl rfl rfl hh
  | true =>
    rw [hi] at hh
    have hh : pm_run PT n fr lo 131 (178, [some (.ref 0), some (.int (nI g)), some (.int L2), some (.int L3), some (.int (nI (a + 1))), some (.int L5), some (.int L6), some (.int L7), some (.int (dgA f n0 (a + 1) 55))], [], h, 198, sl) = some R := hh
    have hd : dg f (a + 1) (min n0 55) = true := by
      rw [dgi_rng (by omega) (cc_m1 hc), Bool.and_eq_true] at hi
      exact hi.1
    rw [dgA_yes hd] at hh
    obtain ⟨e, -, -⟩ := w131_ok (q := (0, 0, 0)) (cc := 0) (gc := 0) hw hg (by omega) hh
    exact e
theorem xv_119 (hn : n0 ≤ 80) (hc : cc ≤ 6) (ha : a < 800) (x : pX h n0 cc f) (hw : WT h) (hg : g < 8) (hh : pm_run PT n fr lo 131 (119, [some (.ref 0), some (.int (nI g)), some (.int L2), some (.int L3), some (.int (nI a)), some (.int (L5)), some (.int (L6)), none, none], [], h, 198, sl) = some R) : gR R h sl (rgE f (min n0 55) cc (a + 1)) g L3 L5 (f (a + 1) - 48) (f (a + 2) - 48) := by
  obtain ⟨⟨fs, a1, a2, a3⟩, -⟩ := id x
  obtain ⟨n, hh⟩ := rn_i rfl rfl rfl rfl hh
  obtain ⟨n, hh⟩ := rn_i rfl rfl rfl rfl hh
  obtain ⟨n, hh⟩ := rn_gfo (g := 0) rfl rfl (by decide) a1 a2 hh
  obtain ⟨n, hh⟩ := rn_i rfl rfl rfl rfl hh
  obtain ⟨n, hh⟩ := rn_i rfl rfl rfl rfl hh
  have e1 : nI a + Int32.ofInt 1 = nI (a + 1) := (Int32.ofNat_add a 1).symm
  have hh : pm_run PT n fr lo 131 (130, [some (.ref 0), some (.int (nI g)), some (.int L2), some (.int L3), some (.int (nI a + Int32.ofInt 1)), some (.int (L5)), some (.int (L6)), none, none], [.int (nI 55), .int (nI a + Int32.ofInt 1), .ref 1], h, 198, sl) = some R := hh
  rw [e1] at hh
  obtain ⟨n, fr', lo', r1, hr1, hh⟩ := rn_call (w := 0) (t := 81) rfl rfl hh
  have er := dgA_run (l := 55) hn (by decide) (by omega) x hr1
  subst er
  have hh : pm_run PT n fr lo 131 (133, [some (.ref 0), some (.int (nI g)), some (.int L2), some (.int L3), some (.int (nI (a + 1))), some (.int (L5)), some (.int (L6)), none, none], [.int (dgA f n0 (a + 1) 55)], h, 198, sl) = some R := hh
  obtain ⟨n, hh⟩ := rn_i rfl rfl rfl rfl hh
  obtain ⟨n, hh⟩ := rn_i rfl rfl rfl rfl hh
  obtain ⟨n, hh⟩ := rn_if (cc := .ge) (off := 8) (t := 145) rfl rfl hh
  unfold rgE
  cases hd : dg f (a + 1) (min n0 55) with
  | false =>
    rw [dgA_no hd, show pm_cmp .ge (Int32.ofInt (-1)) 0 = false by decide] at hh
    have hh : pm_run PT n fr lo 131 (140, [some (.ref 0), some (.int (nI g)), some (.int L2), some (.int L3), some (.int (nI (a + 1))), some (.int (L5)), some (.int (L6)), some (.int (Int32.ofInt (-1))), none], [], h, 198, sl) = some R := hh
    exact xv_no rfl rfl rfl rfl hh
  | true =>
    obtain ⟨v1, v2⟩ := dg_val hd
    rw [dgA_yes hd, ge0_val v1] at hh
    simp only [cond_true]
    have hh : pm_run PT n fr lo 131 (145, [some (.ref 0), some (.int (nI g)), some (.int L2), some (.int L3), some (.int (nI (a + 1))), some (.int (L5)), some (.int (L6)), some (.int (f (a + 1) - 48)), none], [], h, 198, sl) = some R := hh
    exact xv_145 (L1 := L2) hn hc (by omega) x hw hg hh
theorem xv_95 (hn : n0 ≤ 80) (hc : cc ≤ 6) (ha : a < 700) (x : pX h n0 cc f) (hw : WT h) (hg : g < 8) (hh : pm_run PT n fr lo 131 (95, [some (.ref 0), some (.int (nI g)), some (.int L2), some (.int L3), some (.int (nI a)), some (.int (L5)), some (.int (L6)), none, none], [], h, 198, sl) = some R) : gR R h sl (rgC f (min n0 55) cc (a + 1)) g L3 L5 (f (a + 2) - 48) (f (a + 3) - 48) := by
  obtain ⟨⟨fs, a1, a2, a3⟩, -⟩ := id x
  obtain ⟨n, hh⟩ := rn_i rfl rfl rfl rfl hh
  obtain ⟨n, hh⟩ := rn_i rfl rfl rfl rfl hh
  obtain ⟨n, hh⟩ := rn_gfo (g := 0) rfl rfl (by decide) a1 a2 hh
  obtain ⟨n, hh⟩ := rn_i rfl rfl rfl rfl hh
  obtain ⟨n, hh⟩ := rn_i rfl rfl rfl rfl hh
  have e1 : nI a + Int32.ofInt 1 = nI (a + 1) := (Int32.ofNat_add a 1).symm
  have hh : pm_run PT n fr lo 131 (106, [some (.ref 0), some (.int (nI g)), some (.int L2), some (.int L3), some (.int (nI a + Int32.ofInt 1)), some (.int (L5)), some (.int (L6)), none, none], [.int (nI 55), .int (nI a + Int32.ofInt 1), .ref 1], h, 198, sl) = some R := hh
  rw [e1] at hh
  obtain ⟨n, fr', lo', r1, hr1, hh⟩ := rn_call (w := 0) (t := 80) rfl rfl hh
  have er := sgA_run (l := 55) hn (by decide) (by omega) x hr1
  subst er
  have hh : pm_run PT n fr lo 131 (109, [some (.ref 0), some (.int (nI g)), some (.int L2), some (.int L3), some (.int (nI (a + 1))), some (.int (L5)), some (.int (L6)), none, none], [.int (sgA f n0 (a + 1) 55)], h, 198, sl) = some R := hh
  obtain ⟨n, hh⟩ := rn_i rfl rfl rfl rfl hh
  obtain ⟨n, hh⟩ := rn_icmp (cc := .eq) (off := 8) (t := 119) rfl rfl hh
  have hh : pm_run PT n fr lo 131 (cond (pm_cmp .eq (sgA f n0 (a + 1) 55) 44) 119 114, [some (.ref 0), some (.int (nI g)), some (.int L2), some (.int L3), some (.int (nI (a + 1))), some (.int (L5)), some (.int (L6)), none, none], [], h, 198, sl) = some R := hh
  have es : pm_cmp .eq (sgA f n0 (a + 1) 55) 44 = decide (a + 1 < min n0 55 ∧ f (a + 1) = 44) := by
    unfold sgA
    by_cases q : a + 1 < min n0 55
    · rw [decide_eq_true q]
      show decide (f (a + 1) = 44) = _
      rw [Bool.eq_iff_iff, decide_eq_true_iff, decide_eq_true_iff]
      exact ⟨fun e => ⟨q, e⟩, fun e => e.2⟩
    · rw [decide_eq_false q, decide_eq_false (fun e => q e.1)]
      show pm_cmp .eq (Int32.ofInt (-1)) 44 = false
      decide
  rw [es] at hh
  unfold rgC
  cases v : decide (a + 1 < min n0 55 ∧ f (a + 1) = 44) with
  | false =>
    rw [v] at hh
    exact xv_no rfl rfl rfl rfl hh
  | true =>
    rw [v] at hh
    simp only [cond_true]
    exact xv_119 hn hc (by omega) x hw hg hh
theorem xv_85 {v : Int32} (hn : n0 ≤ 80) (hc : cc ≤ 6) (ha : a < 700) (x : pX h n0 cc f) (hw : WT h) (hg : g < 8) (hh : pm_run PT n fr lo 131 (85, [some (.ref 0), some (.int (nI g)), some (.int L2), some (.int L3), some (.int (nI a)), some (.int (v)), some (.int (L6)), none, none], [], h, 198, sl) = some R) : gR R h sl (rgW f (min n0 55) cc (a + 1, v)) g L3 v (f (a + 2) - 48) (f (a + 3) - 48) := by
  obtain ⟨n, hh⟩ := rn_i rfl rfl rfl rfl hh
  obtain ⟨n, hh⟩ := rn_if (cc := .ne) (off := 8) (t := 95) rfl rfl hh
  unfold rgW
  dsimp only
  by_cases z : v = 0
  · rw [show pm_cmp .ne v 0 = false from decide_eq_false (fun q => q z)] at hh
    rw [decide_eq_true z]
    simp only [cond_true]
    have hh : pm_run PT n fr lo 131 (90, [some (.ref 0), some (.int (nI g)), some (.int L2), some (.int L3), some (.int (nI a)), some (.int (v)), some (.int (L6)), none, none], [], h, 198, sl) = some R := hh
    exact xv_no rfl rfl rfl rfl hh
  · rw [show pm_cmp .ne v 0 = true from decide_eq_true z] at hh
    rw [decide_eq_false z]
    simp only [cond_false]
    exact xv_95 hn hc ha x hw hg hh
theorem xv_24 (hn : n0 ≤ 80) (hc : cc ≤ 6) (hp : p < 600) (x : pX h n0 cc f) (hw : WT h) (hg : g < 8) (hh : pm_run PT n fr lo 131 (24, [some (.ref 0), some (.int (nI g)), some (.int (nI p)), some (.int L3), none, none, none, none, none], [], h, 198, sl) = some R) : gR R h sl (cond (dg f (p + 1) (min n0 55)) (rgW f (min n0 55) cc (nbr f (min n0 55) 2 (p + 1) 0)) (false, p + 1)) g L3 (nbr f (min n0 55) 2 (p + 1) 0).2 (f ((nbr f (min n0 55) 2 (p + 1) 0).1 + 1) - 48) (f ((nbr f (min n0 55) 2 (p + 1) 0).1 + 2) - 48) := by
  obtain ⟨⟨fs, a1, a2, a3⟩, -⟩ := id x
  obtain ⟨n, hh⟩ := rn_i rfl rfl rfl rfl hh
  obtain ⟨n, hh⟩ := rn_i rfl rfl rfl rfl hh
  obtain ⟨n, hh⟩ := rn_i rfl rfl rfl rfl hh
  obtain ⟨n, hh⟩ := rn_i rfl rfl rfl rfl hh
  obtain ⟨n, hh⟩ := rn_i rfl rfl rfl rfl hh
  obtain ⟨n, hh⟩ := rn_gfo (g := 0) rfl rfl (by decide) a1 a2 hh
  obtain ⟨n, hh⟩ := rn_i rfl rfl rfl rfl hh
  obtain ⟨n, hh⟩ := rn_i rfl rfl rfl rfl hh
  have e1 : nI p + Int32.ofInt 1 = nI (p + 1) := (Int32.ofNat_add p 1).symm
  have hh : pm_run PT n fr lo 131 (37, [some (.ref 0), some (.int (nI g)), some (.int (nI p)), some (.int L3), some (.int (nI p + Int32.ofInt 1)), none, none, none, none], [.int (nI 55), .int (nI p + Int32.ofInt 1), .ref 1], h, 198, sl) = some R := hh
  rw [e1] at hh
  obtain ⟨n, fr', lo', r1, hr1, hh⟩ := rn_call (w := 0) (t := 81) rfl rfl hh
  have er := dgA_run (l := 55) hn (by decide) (by omega) x hr1
  subst er
  have hh : pm_run PT n fr lo 131 (40, [some (.ref 0), some (.int (nI g)), some (.int (nI p)), some (.int L3), some (.int (nI (p + 1))), none, none, none, none], [.int (dgA f n0 (p + 1) 55)], h, 198, sl) = some R := hh
  obtain ⟨n, hh⟩ := rn_i rfl rfl rfl rfl hh
  obtain ⟨n, hh⟩ := rn_i rfl rfl rfl rfl hh
  obtain ⟨n, hh⟩ := rn_if (cc := .ge) (off := 8) (t := 52) rfl rfl hh
  cases hd : dg f (p + 1) (min n0 55) with
  | false =>
    rw [dgA_no hd, show pm_cmp .ge (Int32.ofInt (-1)) 0 = false by decide] at hh
    have hh : pm_run PT n fr lo 131 (47, [some (.ref 0), some (.int (nI g)), some (.int (nI p)), some (.int L3), some (.int (nI (p + 1))), some (.int (Int32.ofInt (-1))), none, none, none], [], h, 198, sl) = some R := hh
    exact xv_no rfl rfl rfl rfl hh
  | true =>
    obtain ⟨v1, v2⟩ := dg_val hd
    rw [dgA_yes hd, ge0_val v1] at hh
    simp only [cond_true]
    have en : nbr f (min n0 55) 2 (p + 1) 0 = nbr f (min n0 55) 1 (p + 2) (f (p + 1) - 48) := by
      rw [show nbr f (min n0 55) 2 (p + 1) 0 = nbr f (min n0 55) (1 + 1) (p + 1) 0 from rfl, nbr_gt _ hd]
      have ez : (10 * 0 + f (p + 1) - 48 : Int32) = f (p + 1) - 48 := by simp
      rw [ez]
    rw [en]
    have hh : pm_run PT n fr lo 131 (52, [some (.ref 0), some (.int (nI g)), some (.int (nI p)), some (.int L3), some (.int (nI (p + 1))), some (.int (f (p + 1) - 48)), none, none, none], [], h, 198, sl) = some R := hh
    obtain ⟨n, hh⟩ := rn_i rfl rfl rfl rfl hh
    obtain ⟨n, hh⟩ := rn_gfo (g := 0) rfl rfl (by decide) a1 a2 hh
    obtain ⟨n, hh⟩ := rn_i rfl rfl rfl rfl hh
    obtain ⟨n, hh⟩ := rn_i rfl rfl rfl rfl hh
    obtain ⟨n, hh⟩ := rn_i rfl rfl rfl rfl hh
    obtain ⟨n, hh⟩ := rn_i rfl rfl rfl rfl hh
    have e2 : nI (p + 1) + Int32.ofInt 1 = nI (p + 2) := (Int32.ofNat_add (p + 1) 1).symm
    have hh : pm_run PT n fr lo 131 (62, [some (.ref 0), some (.int (nI g)), some (.int (nI p)), some (.int L3), some (.int (nI (p + 1))), some (.int (f (p + 1) - 48)), none, none, none], [.int (nI 55), .int (nI (p + 1) + Int32.ofInt 1), .ref 1], h, 198, sl) = some R := hh
    rw [e2] at hh
    obtain ⟨n, fr', lo', r1, hr1, hh⟩ := rn_call (w := 0) (t := 81) rfl rfl hh
    have er := dgA_run (l := 55) hn (by decide) (by omega) x hr1
    subst er
    have hh : pm_run PT n fr lo 131 (65, [some (.ref 0), some (.int (nI g)), some (.int (nI p)), some (.int L3), some (.int (nI (p + 1))), some (.int (f (p + 1) - 48)), none, none, none], [.int (dgA f n0 (p + 2) 55)], h, 198, sl) = some R := hh
    obtain ⟨n, hh⟩ := rn_i rfl rfl rfl rfl hh
    obtain ⟨n, hh⟩ := rn_i rfl rfl rfl rfl hh
    obtain ⟨n, hh⟩ := rn_if (cc := .lt) (off := 16) (t := 85) rfl rfl hh
    show gR R h sl (rgW f (min n0 55) cc (nbr f (min n0 55) (0 + 1) (p + 2) (f (p + 1) - 48))) g L3 (nbr f (min n0 55) (0 + 1) (p + 2) (f (p + 1) - 48)).2 (f ((nbr f (min n0 55) (0 + 1) (p + 2) (f (p + 1) - 48)).1 + 1) - 48) (f ((nbr f (min n0 55) (0 + 1) (p + 2) (f (p + 1) - 48)).1 + 2) - 48)
    cases he : dg f (p + 2) (min n0 55) with
    | false =>
      rw [dgA_no he, show pm_cmp .lt (Int32.ofInt (-1)) 0 = true by decide] at hh
      have eb : nbr f (min n0 55) (0 + 1) (p + 2) (f (p + 1) - 48) = (p + 1 + 1, f (p + 1) - 48) := by
        unfold nbr
        rw [he]
        rfl
      rw [eb]
      exact xv_85 hn hc (by omega) x hw hg hh
    | true =>
      obtain ⟨w1, w2⟩ := dg_val he
      rw [dgA_yes he, lt0_val w1] at hh
      have eb : nbr f (min n0 55) (0 + 1) (p + 2) (f (p + 1) - 48) = (p + 2 + 1, nI 10 * (f (p + 1) - 48) + (f (p + 2) - 48)) := by
        rw [nbr_gt _ he]
        show (p + 2 + 1, 10 * (f (p + 1) - 48) + f (p + 2) - 48) = _
        rw [Int32.sub_eq_add_neg (10 * (f (p + 1) - 48) + f (p + 2)), Int32.sub_eq_add_neg (f (p + 2)), Int32.add_assoc]
        rfl
      rw [eb]
      obtain ⟨n, hh⟩ := rn_i rfl rfl rfl rfl hh
      obtain ⟨n, hh⟩ := rn_i rfl rfl rfl rfl hh
      obtain ⟨n, hh⟩ := rn_i rfl rfl rfl rfl hh
      obtain ⟨n, hh⟩ := rn_i rfl rfl rfl rfl hh
      obtain ⟨n, hh⟩ := rn_i rfl rfl rfl rfl hh
      obtain ⟨n, hh⟩ := rn_i rfl rfl rfl rfl hh
      obtain ⟨n, hh⟩ := rn_i rfl rfl rfl rfl hh
      have e3 : nI (p + 1) + Int32.ofInt 1 = nI (p + 2) := (Int32.ofNat_add (p + 1) 1).symm
      have hh : pm_run PT n fr lo 131 (85, [some (.ref 0), some (.int (nI g)), some (.int (nI p)), some (.int L3), some (.int (nI (p + 1) + Int32.ofInt 1)), some (.int (nI 10 * (f (p + 1) - 48) + (f (p + 2) - 48))), some (.int (f (p + 2) - 48)), none, none], [], h, 198, sl) = some R := hh
      rw [e3] at hh
      exact xv_85 hn hc (by omega) x hw hg hh
theorem xv_run (hn : n0 ≤ 80) (hc : cc ≤ 6) (hp : p < 600) (x : pX h n0 cc f) (hw : WT h) (hg : g < 8) (hh : pm_run PT n fr lo 131 (0, pm_l0 [.ref 0, .int (nI g), .int (nI p)] 9, [], h, 198, sl) = some R) : gR R h sl (rgL f (min n0 55) cc p) g (f p - 48) (nbr f (min n0 55) 2 (p + 1) 0).2 (f ((nbr f (min n0 55) 2 (p + 1) 0).1 + 1) - 48) (f ((nbr f (min n0 55) 2 (p + 1) 0).1 + 2) - 48) := by
  obtain ⟨⟨fs, a1, a2, a3⟩, -⟩ := id x
  obtain ⟨n, hh⟩ := rn_i rfl rfl rfl rfl hh
  obtain ⟨n, hh⟩ := rn_gfo (g := 0) rfl rfl (by decide) a1 a2 hh
  obtain ⟨n, hh⟩ := rn_i rfl rfl rfl rfl hh
  obtain ⟨n, hh⟩ := rn_i rfl rfl rfl rfl hh
  obtain ⟨n, fr', lo', r1, hr1, hh⟩ := rn_call (w := 0) (t := 81) rfl rfl hh
  have er := dgA_run (l := 55) hn (by decide) (by omega) x hr1
  subst er
  have hh : pm_run PT n fr lo 131 (10, [some (.ref 0), some (.int (nI g)), some (.int (nI p)), none, none, none, none, none, none], [.int (dgA f n0 p 55)], h, 198, sl) = some R := hh
  have no : ∀ (n : Nat) (y : Int32), pm_run PT n fr lo 131 (20, [some (.ref 0), some (.int (nI g)), some (.int (nI p)), some (.int y), none, none, none, none, none], [], h, 198, sl) = some R → R = (some (.int (Int32.ofInt (-1) - nI p)), h, 198, sl) := by
    intro n y hh
    obtain ⟨n, hh⟩ := rn_i rfl rfl rfl rfl hh
    obtain ⟨n, hh⟩ := rn_i rfl rfl rfl rfl hh
    obtain ⟨n, hh⟩ := rn_i rfl rfl rfl rfl hh
    exact (rn_ret rfl (Or.inl rfl) hh).2
  obtain ⟨n, hh⟩ := rn_i rfl rfl rfl rfl hh
  obtain ⟨n, hh⟩ := rn_i rfl rfl rfl rfl hh
  obtain ⟨n, hh⟩ := rn_if (cc := .lt) (off := 8) (t := 20) rfl rfl hh
  unfold rgL
  rw [dgi_rng (c := 5) (by decide) (by decide)]
  cases hd : dg f p (min n0 55) with
  | false =>
    rw [dgA_no hd, show pm_cmp .lt (Int32.ofInt (-1)) 0 = true by decide] at hh
    show gR R h sl (cond (false && _) _ (false, p)) g _ _ _ _
    exact no n _ hh
  | true =>
    obtain ⟨v1, v2⟩ := dg_val hd
    rw [dgA_yes hd, lt0_val v1] at hh
    have hh : pm_run PT n fr lo 131 (15, [some (.ref 0), some (.int (nI g)), some (.int (nI p)), some (.int (f p - 48)), none, none, none, none, none], [], h, 198, sl) = some R := hh
    obtain ⟨n, hh⟩ := rn_i rfl rfl rfl rfl hh
    obtain ⟨n, hh⟩ := rn_i rfl rfl rfl rfl hh
    obtain ⟨n, hh⟩ := rn_icmp (cc := .lt) (off := 7) (t := 24) rfl rfl hh
    have el : pm_cmp .lt (f p - 48) (Int32.ofInt 5) = decide ((f p - 48).toInt < ((5 : Nat) : Int)) := by
      simp only [pm_cmp]
      rw [Bool.eq_iff_iff, decide_eq_true_iff, decide_eq_true_iff, Int32.lt_iff_toInt_lt, show (Int32.ofInt 5).toInt = ((5 : Nat) : Int) by decide]
    rw [el] at hh
    rw [Bool.true_and]
    cases y : decide ((f p - 48).toInt < ((5 : Nat) : Int)) with
    | false =>
      rw [y] at hh
      simp only [cond_false]
      exact no n _ hh
    | true =>
      rw [y] at hh
      simp only [cond_true]
      exact xv_24 hn hc hp x hw hg hh
theorem gW_ar : Ar (gW h g k w e d) 9 = upd (Ar h 9) g k ∧ Ar (gW h g k w e d) 10 = upd (Ar h 10) g w ∧ Ar (gW h g k w e d) 11 = upd (Ar h 11) g e ∧ Ar (gW h g k w e d) 17 = upd (Ar h 17) g d ∧ Ar (gW h g k w e d) 18 = upd (Ar h 18) g (shl (nI 1) d) := by
  unfold gW
  refine ⟨?_, ?_, ?_, ?_, Ar_s⟩
  · rw [Ar_n (by decide), Ar_n (by decide), Ar_n (by decide), Ar_n (by decide), Ar_s]
  · rw [Ar_n (by decide), Ar_n (by decide), Ar_n (by decide), Ar_s]
  · rw [Ar_n (by decide), Ar_n (by decide), Ar_s]
  · rw [Ar_n (by decide), Ar_s]
theorem gW_ne {i : Nat} (h1 : i ≠ 9) (h2 : i ≠ 10) (h3 : i ≠ 11) (h4 : i ≠ 17) (h5 : i ≠ 18) : gW h g k w e d i = h i := by
  unfold gW
  rw [asR_ne h5, asR_ne h4, asR_ne h3, asR_ne h2, asR_ne h1]
theorem gW_wt (hw : WT h) : WT (gW h g k w e d) := wt_as rfl (wt_as rfl (wt_as rfl (wt_as rfl (wt_as rfl hw))))
theorem pX_e {h' : pm_H} (h0 : h' 0 = h 0) (h1 : h' 1 = h 1) (h2 : h' 2 = h 2) (h5 : h' 5 = h 5) (x : pX h n0 cc f) : pX h' n0 cc f := by
  obtain ⟨⟨fs, a1, a2⟩, ⟨gs, b1, b2⟩, c1, rs, d1, d2⟩ := x
  exact ⟨⟨fs, h0.trans a1, a2⟩, ⟨gs, h1.trans b1, b2⟩, h2.trans c1, rs, h5.trans d1, d2⟩
/-- what a LINE that begins at p tells of the gift g -/
def gvL (f : Nat → Int32) (t p : Nat) (h : pm_H) (g : Nat) : Prop := Ar h 9 g = f p - 48 ∧ Ar h 10 g = (nbr f t 2 (p + 1) 0).2 ∧ Ar h 11 g = f ((nbr f t 2 (p + 1) 0).1 + 1) - 48 ∧ Ar h 17 g = f ((nbr f t 2 (p + 1) 0).1 + 2) - 48 ∧ Ar h 18 g = shl (nI 1) (f ((nbr f t 2 (p + 1) 0).1 + 2) - 48)
/-- where the LINES begin -/
def gps (f : Nat → Int32) (t cc : Nat) : Nat → Nat
  | 0 => 0
  | r + 1 => (rgL f t cc (gps f t cc r)).2 + 1
def gvX (g0 h : pm_H) (n0 cc gc : Nat) (f : Nat → Int32) (ln : Nat) : Prop := (pX h n0 cc f ∧ rG h (.int (nI gc)) ∧ WT h) ∧ (∀ i, i ≠ 9 → i ≠ 10 → i ≠ 11 → i ≠ 17 → i ≠ 18 → h i = g0 i) ∧ (∀ j, j < gc → Ar h 9 j = Ar g0 9 j ∧ Ar h 10 j = Ar g0 10 j ∧ Ar h 11 j = Ar g0 11 j ∧ Ar h 17 j = Ar g0 17 j ∧ Ar h 18 j = Ar g0 18 j) ∧ ∀ r, r < ln → (rgL f (min n0 55) cc (gps f (min n0 55) cc r)).1 = true ∧ gvL f (min n0 55) (gps f (min n0 55) cc r) h (gc + r)
theorem gvX_0 (x : gvX g0 h n0 cc gc f ln) : gvX g0 h n0 cc gc f 0 := ⟨x.1, x.2.1, x.2.2.1, fun r hr => by omega⟩
theorem gvX_s (x : gvX g0 h n0 cc gc f ln) (hy : (rgL f (min n0 55) cc (gps f (min n0 55) cc ln)).1 = true) : gvX g0 (gW h (gc + ln) (f (gps f (min n0 55) cc ln) - 48) (nbr f (min n0 55) 2 (gps f (min n0 55) cc ln + 1) 0).2 (f ((nbr f (min n0 55) 2 (gps f (min n0 55) cc ln + 1) 0).1 + 1) - 48) (f ((nbr f (min n0 55) 2 (gps f (min n0 55) cc ln + 1) 0).1 + 2) - 48)) n0 cc gc f (ln + 1) := by
  obtain ⟨⟨x1, ⟨rs, x2, x3⟩, x4⟩, x5, x6, x7⟩ := x
  obtain ⟨p, hp⟩ : ∃ p, p = gps f (min n0 55) cc ln := ⟨_, rfl⟩
  rw [← hp]
  have hA := gW_ar (h := h) (g := gc + ln) (k := f p - 48) (w := (nbr f (min n0 55) 2 (p + 1) 0).2) (e := f ((nbr f (min n0 55) 2 (p + 1) 0).1 + 1) - 48) (d := f ((nbr f (min n0 55) 2 (p + 1) 0).1 + 2) - 48)
  have hN := fun i h1 h2 h3 h4 h5 => gW_ne (h := h) (g := gc + ln) (k := f p - 48) (w := (nbr f (min n0 55) 2 (p + 1) 0).2) (e := f ((nbr f (min n0 55) 2 (p + 1) 0).1 + 1) - 48) (d := f ((nbr f (min n0 55) 2 (p + 1) 0).1 + 2) - 48) (i := i) h1 h2 h3 h4 h5
  have hW := gW_wt (g := gc + ln) (k := f p - 48) (w := (nbr f (min n0 55) 2 (p + 1) 0).2) (e := f ((nbr f (min n0 55) 2 (p + 1) 0).1 + 1) - 48) (d := f ((nbr f (min n0 55) 2 (p + 1) 0).1 + 2) - 48) x4
  generalize gW h (gc + ln) (f p - 48) (nbr f (min n0 55) 2 (p + 1) 0).2 (f ((nbr f (min n0 55) 2 (p + 1) 0).1 + 1) - 48) (f ((nbr f (min n0 55) 2 (p + 1) 0).1 + 2) - 48) = h' at *
  obtain ⟨a9, a10, a11, a17, a18⟩ := hA
  refine ⟨⟨pX_e (hN 0 (by decide) (by decide) (by decide) (by decide) (by decide)) (hN 1 (by decide) (by decide) (by decide) (by decide) (by decide)) (hN 2 (by decide) (by decide) (by decide) (by decide) (by decide)) (hN 5 (by decide) (by decide) (by decide) (by decide) (by decide)) x1, ⟨rs, (hN 5 (by decide) (by decide) (by decide) (by decide) (by decide)).trans x2, x3⟩, hW⟩, fun i h1 h2 h3 h4 h5 => (hN i h1 h2 h3 h4 h5).trans (x5 i h1 h2 h3 h4 h5), fun j hj => ?_, fun r hr => ?_⟩
  · have nj : j ≠ gc + ln := by omega
    rw [a9, a10, a11, a17, a18]
    unfold upd
    rw [if_neg nj, if_neg nj, if_neg nj, if_neg nj, if_neg nj]
    exact x6 j hj
  · by_cases z : r = ln
    · rw [z]
      refine ⟨hy, ?_⟩
      unfold gvL
      rw [a9, a10, a11, a17, a18, ← hp]
      unfold upd
      rw [if_pos rfl, if_pos rfl, if_pos rfl, if_pos rfl, if_pos rfl]
      exact ⟨rfl, rfl, rfl, rfl, rfl⟩
    · obtain ⟨y1, y2⟩ := x7 r (by omega)
      refine ⟨y1, ?_⟩
      unfold gvL at y2 ⊢
      rw [a9, a10, a11, a17, a18]
      unfold upd
      have nj : gc + r ≠ gc + ln := by omega
      rw [if_neg nj, if_neg nj, if_neg nj, if_neg nj, if_neg nj]
      exact y2
/-- what stands when the reader ends: nothing of the gifts that there are is changed; all LINES, if they are so many -/
def gP (g0 : pm_H) (R : pm_Rs) (n0 cc gc : Nat) (f : Nat → Int32) (sl : Nat) : Prop := R.2.2 = (198, sl) ∧ gvX g0 R.2.1 n0 cc gc f 0 ∧ ∀ N, 1 ≤ N → N < 10 → R.1 = some (.int (nI N)) → gvX g0 R.2.1 n0 cc gc f N
theorem gP_no {b : Nat} (hb : b < 100) (x : gvX g0 h n0 cc gc f ln) (e : R = (some (.int (Int32.ofInt (-1) - nI b)), h, 198, sl)) : gP g0 R n0 cc gc f sl := by
  rw [e]
  refine ⟨rfl, gvX_0 x, fun N h1 h2 e2 => ?_⟩
  have e2 : Int32.ofInt (-1) - nI b = nI N := Value.int.inj (Option.some.inj e2)
  exact absurd e2 (m1_nN b hb N h2)
theorem gxs_loop (hn : n0 ≤ 80) (hc : cc ≤ 6) : ∀ (k ln n : Nat) (h : pm_H) (x3 : Option Value), gc + ln + k = 9 → 0 < k → gps f (min n0 55) cc ln ≤ min n0 55 → gvX g0 h n0 cc gc f ln → pm_run PT n fr lo 130 (16, [some (.ref 0), some (.int (nI (gps f (min n0 55) cc ln))), some (.int (nI ln)), x3], [], h, 198, sl) = some R → gP g0 R n0 cc gc f sl := by
  intro k
  induction k with
  | zero => intro ln n h x3 hk h0; exact absurd h0 (by omega)
  | succ k ih =>
    intro ln n h x3 hk h0 hp X hh
    obtain ⟨x, xg, xw⟩ := X.1
    obtain ⟨⟨fs, a1, a2, a3⟩, ⟨gs, g1, g2, g3⟩, c1, -⟩ := id x
    obtain ⟨rs, d1, d2⟩ := id xg
    have hs : gps f (min n0 55) cc (ln + 1) = (rgL f (min n0 55) cc (gps f (min n0 55) cc ln)).2 + 1 := rfl
    have hX := fun hy => gvX_s X hy
    have hle := rgL_le (tp := f) (cc := cc) hp
    obtain ⟨p, ep⟩ : ∃ p, p = gps f (min n0 55) cc ln := ⟨_, rfl⟩
    rw [← ep] at hp hh hs hX hle
    obtain ⟨n, hh⟩ := rn_i rfl rfl rfl rfl hh
    obtain ⟨n, hh⟩ := rn_i rfl rfl rfl rfl hh
    obtain ⟨n, hh⟩ := rn_icmp (cc := .ge) (off := 79) (t := 98) rfl rfl hh
    have ec : pm_cmp .ge (nI ln) (Int8.ofInt 8).toInt32 = decide (8 ≤ ln) := hI_ge (a := ln) (b := 8) (by omega) (by omega)
    rw [ec] at hh
    by_cases z6 : 8 ≤ ln
    · rw [decide_eq_true z6] at hh
      obtain ⟨n, hh⟩ := rn_i rfl rfl rfl rfl hh
      obtain ⟨n, hh⟩ := rn_i rfl rfl rfl rfl hh
      obtain ⟨n, hh⟩ := rn_i rfl rfl rfl rfl hh
      exact gP_no (b := p) (by omega) X (rn_ret rfl (Or.inl rfl) hh).2
    · rw [decide_eq_false z6] at hh
      obtain ⟨n, hh⟩ := rn_i rfl rfl rfl rfl hh
      obtain ⟨n, hh⟩ := rn_gfo (g := 2) rfl rfl (by decide) a1 a3 hh
      obtain ⟨n, hh⟩ := rn_gfo (g := 1) rfl rfl (by decide) d1 d2 hh
      obtain ⟨n, hh⟩ := rn_i rfl rfl rfl rfl hh
      obtain ⟨n, hh⟩ := rn_i rfl rfl rfl rfl hh
      obtain ⟨n, hh⟩ := rn_i rfl rfl rfl rfl hh
      obtain ⟨n, hh⟩ := rn_i rfl rfl rfl rfl hh
      obtain ⟨n, hh⟩ := rn_i rfl rfl rfl rfl hh
      obtain ⟨n, hh⟩ := rn_icmp (cc := .lt) (off := 7) (t := 42) rfl rfl hh
      have ea : nI gc + nI ln = nI (gc + ln) := nI_add gc ln
      have hh : pm_run PT n fr lo 130 (cond (pm_cmp .lt (nI gc + nI ln) (nI 8)) 42 38, [some (.ref 0), some (.int (nI p)), some (.int (nI ln)), some (.int (nI gc + nI ln))], [], h, 198, sl) = some R := hh
      rw [ea, hI_lt (by omega) (by omega)] at hh
      by_cases z : gc + ln = 8
      · rw [decide_eq_false (by omega)] at hh
        obtain ⟨n, hh⟩ := rn_i rfl rfl rfl rfl hh
        obtain ⟨n, hh⟩ := rn_i rfl rfl rfl rfl hh
        obtain ⟨n, hh⟩ := rn_i rfl rfl rfl rfl hh
        exact gP_no (b := p) (by omega) X (rn_ret rfl (Or.inl rfl) hh).2
      · rw [decide_eq_true (by omega)] at hh
        have hh : pm_run PT n fr lo 130 (42, [some (.ref 0), some (.int (nI p)), some (.int (nI ln)), some (.int (nI (gc + ln)))], [], h, 198, sl) = some R := hh
        obtain ⟨n, hh⟩ := rn_i rfl rfl rfl rfl hh
        obtain ⟨n, hh⟩ := rn_i rfl rfl rfl rfl hh
        obtain ⟨n, hh⟩ := rn_i rfl rfl rfl rfl hh
        obtain ⟨n, fr', lo', r1, hr1, hh⟩ := rn_call (w := 0) (t := 131) rfl rfl hh
        have hv : gR r1 h sl (rgL f (min n0 55) cc p) (gc + ln) (f p - 48) (nbr f (min n0 55) 2 (p + 1) 0).2 (f ((nbr f (min n0 55) 2 (p + 1) 0).1 + 1) - 48) (f ((nbr f (min n0 55) 2 (p + 1) 0).1 + 2) - 48) := xv_run hn hc (by omega) x xw (by omega) hr1
        unfold gR at hv
        generalize gW h (gc + ln) (f p - 48) (nbr f (min n0 55) 2 (p + 1) 0).2 (f ((nbr f (min n0 55) 2 (p + 1) 0).1 + 1) - 48) (f ((nbr f (min n0 55) 2 (p + 1) 0).1 + 2) - 48) = h' at hX hv
        have hv : r1 = (some (.int (xgA (rgL f (min n0 55) cc p))), cond (rgL f (min n0 55) cc p).1 h' h, 198, sl) := hv
        rw [hv] at hh
        have hh : pm_run PT n fr lo 130 (48, [some (.ref 0), some (.int (nI p)), some (.int (nI ln)), some (.int (nI (gc + ln)))], [.int (xgA (rgL f (min n0 55) cc p))], cond (rgL f (min n0 55) cc p).1 h' h, 198, sl) = some R := hh
        generalize rgL f (min n0 55) cc p = w at *
        have y1 := neg_ge (a := w.2) (by omega)
        unfold xgA at hh
        cases y : w.1 with
        | false =>
          rw [y, cond_false, cond_false] at hh
          obtain ⟨n, hh⟩ := rn_i rfl rfl rfl rfl hh
          obtain ⟨n, hh⟩ := rn_i rfl rfl rfl rfl hh
          obtain ⟨n, hh⟩ := rn_if (cc := .ge) (off := 5) (t := 55) rfl rfl hh
          rw [y1] at hh
          obtain ⟨n, hh⟩ := rn_i rfl rfl rfl rfl hh
          exact gP_no (b := w.2) (by omega) X (rn_ret rfl (Or.inl rfl) hh).2
        | true =>
          rw [y, cond_true, cond_true] at hh
          have hX := hX y
          generalize w.2 = b at *
          obtain ⟨x', -⟩ := id hX.1
          obtain ⟨⟨fs, a1, a2, a3⟩, ⟨gs, g1, g2, g3⟩, -⟩ := id x'
          obtain ⟨n, hh⟩ := rn_i rfl rfl rfl rfl hh
          obtain ⟨n, hh⟩ := rn_i rfl rfl rfl rfl hh
          obtain ⟨n, hh⟩ := rn_if (cc := .ge) (off := 5) (t := 55) rfl rfl hh
          have eg : pm_cmp .ge (nI b) 0 = true := by
            have := hI_ge (a := b) (b := 0) (by omega) (by omega)
            rw [decide_eq_true (Nat.zero_le b)] at this
            exact this
          rw [eg] at hh
          obtain ⟨n, hh⟩ := rn_i rfl rfl rfl rfl hh
          obtain ⟨n, hh⟩ := rn_i rfl rfl rfl rfl hh
          obtain ⟨n, hh⟩ := rn_gfo (g := 0) rfl rfl (by decide) a1 a2 hh
          obtain ⟨n, hh⟩ := rn_gfo (g := 1) rfl rfl (by decide) g1 g3 hh
          obtain ⟨n, hh⟩ := rn_icmp (cc := .ne) (off := 7) (t := 70) rfl rfl hh
          rw [hI_ne (by omega) (by omega)] at hh
          by_cases u : b = n0
          · rw [decide_eq_false (fun q => q u)] at hh
            obtain ⟨n, hh⟩ := rn_i rfl rfl rfl rfl hh
            obtain ⟨n, hh⟩ := rn_i rfl rfl rfl rfl hh
            obtain ⟨n, hh⟩ := rn_i rfl rfl rfl rfl hh
            have e1 : nI ln + Int32.ofInt 1 = nI (ln + 1) := (Int32.ofNat_add ln 1).symm
            have e := (rn_ret rfl (Or.inl rfl) hh).2
            rw [e]
            refine ⟨rfl, gvX_0 hX, fun N h1 h2 e2 => ?_⟩
            have e2 : nI ln + Int32.ofInt 1 = nI N := Value.int.inj (Option.some.inj e2)
            rw [e1] at e2
            have e3 : ln + 1 = N := nI_ij (by omega) (by omega) e2
            rw [← e3]
            exact hX
          · rw [decide_eq_true u] at hh
            have hh : pm_run PT n fr lo 130 (70, [some (.ref 0), some (.int (nI b)), some (.int (nI ln)), some (.int (nI (gc + ln)))], [], h', 198, sl) = some R := hh
            obtain ⟨n, hh⟩ := rn_i rfl rfl rfl rfl hh
            obtain ⟨n, hh⟩ := rn_gfo (g := 0) rfl rfl (by decide) a1 a2 hh
            obtain ⟨n, hh⟩ := rn_i rfl rfl rfl rfl hh
            obtain ⟨n, hh⟩ := rn_i rfl rfl rfl rfl hh
            obtain ⟨n, fr', lo', r1, hr1, hh⟩ := rn_call (w := 0) (t := 80) rfl rfl hh
            have er := sgA_run (l := 55) hn (by decide) (by omega) x' hr1
            subst er
            have hh : pm_run PT n fr lo 130 (80, [some (.ref 0), some (.int (nI b)), some (.int (nI ln)), some (.int (nI (gc + ln)))], [.int (sgA f n0 b 55)], h', 198, sl) = some R := hh
            obtain ⟨n, hh⟩ := rn_i rfl rfl rfl rfl hh
            obtain ⟨n, hh⟩ := rn_icmp (cc := .eq) (off := 7) (t := 89) rfl rfl hh
            have hh : pm_run PT n fr lo 130 (cond (pm_cmp .eq (sgA f n0 b 55) 59) 89 85, [some (.ref 0), some (.int (nI b)), some (.int (nI ln)), some (.int (nI (gc + ln)))], [], h', 198, sl) = some R := hh
            have es : pm_cmp .eq (sgA f n0 b 55) 59 = decide (b < min n0 55 ∧ f b = 59) := by
              unfold sgA
              by_cases q : b < min n0 55
              · rw [decide_eq_true q]
                show decide (f b = 59) = _
                rw [Bool.eq_iff_iff, decide_eq_true_iff, decide_eq_true_iff]
                exact ⟨fun e => ⟨q, e⟩, fun e => e.2⟩
              · rw [decide_eq_false q, decide_eq_false (fun e => q e.1)]
                show pm_cmp .eq (Int32.ofInt (-1)) 59 = false
                decide
            rw [es] at hh
            cases v : decide (b < min n0 55 ∧ f b = 59) with
            | false =>
              rw [v] at hh
              obtain ⟨n, hh⟩ := rn_i rfl rfl rfl rfl hh
              obtain ⟨n, hh⟩ := rn_i rfl rfl rfl rfl hh
              obtain ⟨n, hh⟩ := rn_i rfl rfl rfl rfl hh
              exact gP_no (b := b) (by omega) hX (rn_ret rfl (Or.inl rfl) hh).2
            | true =>
              rw [v] at hh
              have vv := of_decide_eq_true v
              obtain ⟨n, hh⟩ := rn_i rfl rfl rfl rfl hh
              obtain ⟨n, hh⟩ := rn_i rfl rfl rfl rfl hh
              obtain ⟨n, hh⟩ := rn_i rfl rfl rfl rfl hh
              have hh : pm_run PT n fr lo 130 (16, [some (.ref 0), some (.int (nI b + Int32.ofInt 1)), some (.int (nI ln + Int32.ofInt 1)), some (.int (nI (gc + ln)))], [], h', 198, sl) = some R := hh
              rw [show nI b + Int32.ofInt 1 = nI (b + 1) from (Int32.ofNat_add b 1).symm, show nI ln + Int32.ofInt 1 = nI (ln + 1) from (Int32.ofNat_add ln 1).symm, ← hs] at hh
              exact ih (ln + 1) n h' _ (by omega) (by omega) (by omega) hX hh
theorem gxs_run (hn : n0 ≤ 80) (hc : cc ≤ 6) (hg : gc ≤ 8) (X : gvX g0 h n0 cc gc f 0) (hh : pm_run PT n fr lo 130 (0, pm_l0 [.ref 0] 4, [], h, 198, sl) = some R) : gP g0 R n0 cc gc f sl := by
  obtain ⟨x, -⟩ := id X.1
  obtain ⟨⟨fs, a1, a2, a3⟩, ⟨gs, g1, g2, g3⟩, -⟩ := id x
  obtain ⟨n, hh⟩ := rn_i rfl rfl rfl rfl hh
  obtain ⟨n, hh⟩ := rn_gfo (g := 0) rfl rfl (by decide) a1 a2 hh
  obtain ⟨n, hh⟩ := rn_gfo (g := 1) rfl rfl (by decide) g1 g3 hh
  obtain ⟨n, hh⟩ := rn_if (cc := .ne) (off := 5) (t := 12) rfl rfl hh
  cases z : pm_cmp .ne (nI n0) 0 with
  | false =>
    rw [z] at hh
    obtain ⟨n, hh⟩ := rn_i rfl rfl rfl rfl hh
    have e := (rn_ret rfl (Or.inl rfl) hh).2
    rw [e]
    refine ⟨rfl, X, fun N h1 h2 e2 => ?_⟩
    have e2 : nI 0 = nI N := Value.int.inj (Option.some.inj e2)
    have e3 : 0 = N := nI_ij (by omega) (by omega) e2
    omega
  | true =>
    rw [z] at hh
    have hh : pm_run PT n fr lo 130 (12, [some (.ref 0), none, none, none], [], h, 198, sl) = some R := hh
    obtain ⟨n, hh⟩ := rn_i rfl rfl rfl rfl hh
    obtain ⟨n, hh⟩ := rn_i rfl rfl rfl rfl hh
    obtain ⟨n, hh⟩ := rn_i rfl rfl rfl rfl hh
    obtain ⟨n, hh⟩ := rn_i rfl rfl rfl rfl hh
    have hh : pm_run PT n fr lo 130 (16, [some (.ref 0), some (.int (nI (gps f (min n0 55) cc 0))), some (.int (nI 0)), none], [], h, 198, sl) = some R := hh
    exact gxs_loop hn hc (9 - gc) 0 n h none (by omega) (by omega) (Nat.zero_le _) X hh
end GVX
end MG95zzyox1
section MG95zzyox2
/-! the reference's LINES of GIFTS, with their values -/
section GWM
variable {n fr lo sl t cc gc a rm j0 j1 : Nat} {h g0 : pm_H} {tp Rd Rd1 : Nat → Int32} {R : pm_Rs} {V : (Nat → Int32) → Prop} {s : Bool × Nat}
def pW (g0 h : pm_H) (tp : Nat → Int32) (t cc gc a rm : Nat) (Rd : Nat → Int32) : Prop := pG h tp t cc gc a rm ∧ h 173 = .inl (0, 36, .inl Rd) ∧ WT h ∧ (∀ i, i ≠ 162 → i ≠ 173 → h i = g0 i) ∧ ∀ g, g ≠ 16 → g ≠ 20 → Fi h 162 g = Fi g0 162 g
theorem pW_16 {b : Nat} (p : pW g0 h tp t cc gc a rm Rd) : pW g0 (mset h 16 (.int (nI b))) tp t cc gc b rm Rd := by
  obtain ⟨p1, p2, p3, p4, p5⟩ := p
  have e := mset_fs (v := .int (nI b)) p1.1.1.1
  refine ⟨pG_16 p1, mset_arr (by decide) p2, ?_, fun i h1 h2 => (mset_ne h1).trans (p4 i h1 h2), fun g h1 h2 => ?_⟩
  · rw [e]
    exact wt_fs rfl (by decide) rfl p3
  · rw [e]
    exact (Fi_n (Or.inr h1)).trans (p5 g h1 h2)
theorem pW_20 {b : Nat} (p : pW g0 h tp t cc gc a rm Rd) : pW g0 (mset h 20 (.int (nI b))) tp t cc gc a b Rd := by
  obtain ⟨p1, p2, p3, p4, p5⟩ := p
  have e := mset_fs (v := .int (nI b)) p1.1.2.1
  refine ⟨pG_20 p1, mset_arr (by decide) p2, ?_, fun i h1 h2 => (mset_ne h1).trans (p4 i h1 h2), fun g h1 h2 => ?_⟩
  · rw [e]
    exact wt_fs rfl (by decide) rfl p3
  · rw [e]
    exact (Fi_n (Or.inr h2)).trans (p5 g h1 h2)
theorem pW_rd {Rd' : Nat → Int32} (p : pW g0 h tp t cc gc a rm Rd) : pW g0 (aset h 173 36 Rd') tp t cc gc a rm Rd' := by
  obtain ⟨p1, p2, p3, p4, p5⟩ := p
  exact ⟨pG_rd p1, asR_self, wt_as rfl p3, fun i h1 h2 => (asR_ne h2).trans (p4 i h1 h2), fun g h1 h2 => (Fi_a (by decide)).trans (p5 g h1 h2)⟩
def gwR (g0 : pm_H) (R : pm_Rs) (tp : Nat → Int32) (t cc gc rm : Nat) (Rd : Nat → Int32) (j0 : Nat) (s : Bool × Nat) (V : (Nat → Int32) → Prop) (sl : Nat) : Prop := R.1 = some (.int (cond s.1 1 0)) ∧ R.2.2 = (198, sl) ∧ ∃ rm' Rd', pW g0 R.2.1 tp t cc gc s.2 rm' Rd' ∧ (∀ j, j < 4 * rm + j0 → Rd' j = Rd j) ∧ (s.1 = true → rm' = rm + 1 ∧ V Rd')
theorem gwR_mono (h : gwR g0 R tp t cc gc rm Rd1 j1 s V sl) (hj : j0 ≤ j1) (he : ∀ j, j < 4 * rm + j0 → Rd1 j = Rd j) : gwR g0 R tp t cc gc rm Rd j0 s V sl := by
  obtain ⟨h1, h2, rm', Rd', h3, h4, h5⟩ := h
  exact ⟨h1, h2, rm', Rd', h3, fun j hj' => (h4 j (by omega)).trans (he j hj'), h5⟩
/-- LINE r as it was read -/
def gvM (tp : Nat → Int32) (t cc r : Nat) (Rd : Nat → Int32) : Prop := Rd (4 * r) = tp (gps tp t cc r) - 48 ∧ Rd (4 * r + 1) = (nbr tp t 2 (gps tp t cc r + 1) 0).2 ∧ Rd (4 * r + 2) = tp ((nbr tp t 2 (gps tp t cc r + 1) 0).1 + 1) - 48 ∧ Rd (4 * r + 3) = tp ((nbr tp t 2 (gps tp t cc r + 1) 0).1 + 2) - 48
theorem rv_0 (p : pW g0 h tp t cc gc a rm Rd) {k1 : Int32} {j0 : Nat} (hh : pm_run PT n fr lo 191 (44, [some (.ref 162), some (.int k1)], [], h, 198, sl) = some R) : gwR g0 R tp t cc gc rm Rd j0 ((false, a)) V sl := by
  obtain ⟨n, hh⟩ := rn_i rfl rfl rfl rfl hh
  have e := (rn_ret rfl (Or.inr rfl) hh).2
  subst e
  exact ⟨rfl, rfl, rm, Rd, p, fun _ _ => rfl, fun q => by cases q⟩
theorem rv_102 (p : pW g0 h tp t cc gc a rm Rd) {k1 : Int32} {j0 : Nat} (hh : pm_run PT n fr lo 191 (102, [some (.ref 162), some (.int k1)], [], h, 198, sl) = some R) : gwR g0 R tp t cc gc rm Rd j0 ((false, a)) V sl := by
  obtain ⟨n, hh⟩ := rn_i rfl rfl rfl rfl hh
  have e := (rn_ret rfl (Or.inr rfl) hh).2
  subst e
  exact ⟨rfl, rfl, rm, Rd, p, fun _ _ => rfl, fun q => by cases q⟩
/-- from 151 on: the LINE is counted; does its court stand -/
theorem rv_151 {v : Int32} {b : Bool} (hb : pm_cmp .lt v 0 = !b) (hrm : rm < 8) (p : pW g0 h tp t cc gc a rm Rd) {j0 : Nat} (ev : Rd (4 * rm + 3) = v) (hV : b = true → V Rd) (hh : pm_run PT n fr lo 191 (151, [some (.ref 162), some (.int (nI (4 * rm)))], [], h, 198, sl) = some R) : gwR g0 R tp t cc gc rm Rd j0 ((b, a)) V sl := by
  obtain ⟨n, hh⟩ := rn_i rfl rfl rfl rfl hh
  obtain ⟨n, hh⟩ := rn_i rfl rfl rfl rfl hh
  obtain ⟨n, hh⟩ := rn_gfm rfl rfl p.1.1.2.1 hh
  obtain ⟨n, hh⟩ := rn_i rfl rfl rfl rfl hh
  obtain ⟨n, hh⟩ := rn_i rfl rfl rfl rfl hh
  obtain ⟨n, hh⟩ := rn_pfm (w := .int (nI rm)) rfl rfl rfl (by decide) p.1.1.2.1 hh
  have e1 : nI rm + Int32.ofInt 1 = nI (rm + 1) := (Int32.ofNat_add rm 1).symm
  have hh : pm_run PT n fr lo 191 (161, [some (.ref 162), some (.int (nI (4 * rm)))], [], mset h 20 (.int (nI rm + Int32.ofInt 1)), 198, sl) = some R := hh
  rw [e1] at hh
  have p' := pW_20 (b := rm + 1) p
  obtain ⟨n, hh⟩ := rn_i rfl rfl rfl rfl hh
  obtain ⟨n, hh⟩ := rn_gfm rfl rfl p'.1.1.2.2.2.1 hh
  obtain ⟨n, hh⟩ := rn_i rfl rfl rfl rfl hh
  obtain ⟨n, hh⟩ := rn_i rfl rfl rfl rfl hh
  obtain ⟨n, hh⟩ := rn_i rfl rfl rfl rfl hh
  have e3 : nI (4 * rm) + Int32.ofInt 3 = nI (4 * rm + 3) := (Int32.ofNat_add (4 * rm) 3).symm
  have hh : pm_run PT n fr lo 191 (168, [some (.ref 162), some (.int (nI (4 * rm)))], [.int (nI (4 * rm) + Int32.ofInt 3), .ref 173], mset h 20 (.int (nI (rm + 1))), 198, sl) = some R := hh
  rw [e3] at hh
  obtain ⟨n, hh⟩ := rn_iam rfl (mset_arr (by decide) p.2.1) (hI_in (by omega) (by decide)) (by decide) hh
  rw [nI_clamp (by omega), ev] at hh
  obtain ⟨n, hh⟩ := rn_if (cc := .lt) (off := 7) (t := 176) rfl rfl hh
  rw [hb] at hh
  cases b with
  | true =>
    obtain ⟨n, hh⟩ := rn_i rfl rfl rfl rfl hh
    obtain ⟨n, hh⟩ := rn_i rfl rfl rfl rfl hh
    have e := (rn_ret rfl (Or.inr rfl) hh).2
    subst e
    exact ⟨rfl, rfl, rm + 1, Rd, p', fun _ _ => rfl, fun q => ⟨rfl, hV q⟩⟩
  | false =>
    obtain ⟨n, hh⟩ := rn_i rfl rfl rfl rfl hh
    have e := (rn_ret rfl (Or.inr rfl) hh).2
    subst e
    exact ⟨rfl, rfl, rm + 1, Rd, p', fun _ _ => rfl, fun q => ⟨rfl, hV q⟩⟩
theorem rv_150 {v : Int32} {b : Bool} (hb : pm_cmp .lt v 0 = !b) (hrm : rm < 8) (p : pW g0 h tp t cc gc a rm Rd) (hV : b = true → V (upd Rd (4 * rm + 3) v)) (hh : pm_run PT n fr lo 191 (150, [some (.ref 162), some (.int (nI (4 * rm)))], [.int v, .int (nI (4 * rm + 3)), .ref 173], h, 198, sl) = some R) : gwR g0 R tp t cc gc rm Rd 3 ((b, a)) V sl := by
  have hA := p.2.1
  obtain ⟨n, hh⟩ := rn_ism rfl hA (hI_in (by omega) (by decide)) (by decide) hh
  rw [nI_clamp (by omega)] at hh
  exact gwR_mono (j1 := 3) (rv_151 hb hrm (pW_rd p) (by simp [upd]) hV hh) (Nat.le_refl _) (fun j hj => if_neg (by omega))
/-- from 104 on: what it eats, and its court -/
theorem rv_104 (ht : t ≤ 80) (ha : a < 98) (hrm : rm < 8) (p : pW g0 h tp t cc gc a rm Rd) (hV : ∀ Rd', (∀ j, j < 4 * rm + 2 → Rd' j = Rd j) → Rd' (4 * rm + 2) = tp a - 48 → Rd' (4 * rm + 3) = tp (a + 1) - 48 → V Rd') (hh : pm_run PT n fr lo 191 (104, [some (.ref 162), some (.int (nI (4 * rm)))], [], h, 198, sl) = some R) : gwR g0 R tp t cc gc rm Rd 2 (rgE tp t cc a) V sl := by
  obtain ⟨⟨⟨⟨q1, q2, q3, q4⟩, q5, q6, q7, -⟩, q9⟩, q8, -⟩ := id p
  obtain ⟨n, hh⟩ := rn_i rfl rfl rfl rfl hh
  obtain ⟨n, hh⟩ := rn_gfm rfl rfl q7 hh
  obtain ⟨n, hh⟩ := rn_i rfl rfl rfl rfl hh
  obtain ⟨n, hh⟩ := rn_i rfl rfl rfl rfl hh
  obtain ⟨n, hh⟩ := rn_i rfl rfl rfl rfl hh
  obtain ⟨n, hh⟩ := rn_i rfl rfl rfl rfl hh
  obtain ⟨n, hh⟩ := rn_i rfl rfl rfl rfl hh
  obtain ⟨n, fr', lo', r1, hr1, hh⟩ := rn_call (w := 0) (t := 184) rfl rfl hh
  have er := rn_dt (F := 10) (Lo := 1000) (hd_number (fr := 10) (lo := 1000) (sl := sl) q1 q2 q3 q4 ht (by omega) (by decide) (by decide) (d := 1) (by decide)) hr1
  have e2 : nI (4 * rm) + Int32.ofInt 2 = nI (4 * rm + 2) := (Int32.ofNat_add (4 * rm) 2).symm
  have e3 : nI (4 * rm) + Int32.ofInt 3 = nI (4 * rm + 3) := (Int32.ofNat_add (4 * rm) 3).symm
  have hin : pm_in (nI (4 * rm + 2)) 36 = true := hI_in (by omega) (by decide)
  unfold rgE
  cases hd : dg tp a t with
  | false =>
    rw [hd] at er
    dsimp only [cond] at er
    subst er
    have hh : pm_run PT n fr lo 191 (116, [some (.ref 162), some (.int (nI (4 * rm)))], [.int (-1), .int (nI (4 * rm) + Int32.ofInt 2), .ref 173], h, 198, sl) = some R := hh
    rw [e2] at hh
    obtain ⟨n, hh⟩ := rn_ism rfl q8 hin (by decide) hh
    have p' := pW_rd (Rd' := upd Rd (nI (4 * rm + 2)).toNatClampNeg (-1)) p
    obtain ⟨n, hh⟩ := rn_i rfl rfl rfl rfl hh
    obtain ⟨n, hh⟩ := rn_gfm rfl rfl p'.1.1.2.2.2.1 hh
    obtain ⟨n, hh⟩ := rn_i rfl rfl rfl rfl hh
    obtain ⟨n, hh⟩ := rn_i rfl rfl rfl rfl hh
    obtain ⟨n, hh⟩ := rn_i rfl rfl rfl rfl hh
    obtain ⟨n, hh⟩ := rn_i rfl rfl rfl rfl hh
    obtain ⟨n, hh⟩ := rn_gfm rfl rfl p'.1.1.2.2.2.1 hh
    obtain ⟨n, hh⟩ := rn_i rfl rfl rfl rfl hh
    obtain ⟨n, hh⟩ := rn_i rfl rfl rfl rfl hh
    obtain ⟨n, hh⟩ := rn_i rfl rfl rfl rfl hh
    have hh : pm_run PT n fr lo 191 (131, [some (.ref 162), some (.int (nI (4 * rm)))], [.int (nI (4 * rm) + Int32.ofInt 2), .ref 173, .int (nI (4 * rm) + Int32.ofInt 3), .ref 173], _, 198, sl) = some R := hh
    rw [e2, e3] at hh
    obtain ⟨n, hh⟩ := rn_iam rfl asR_self hin (by decide) hh
    have eu : upd Rd (nI (4 * rm + 2)).toNatClampNeg (-1) (nI (4 * rm + 2)).toNatClampNeg = (-1 : Int32) := by simp [upd]
    rw [eu] at hh
    obtain ⟨n, hh⟩ := rn_if (cc := .ge) (off := 7) (t := 139) rfl rfl hh
    rw [show pm_cmp .ge (-1 : Int32) 0 = false by decide] at hh
    obtain ⟨n, hh⟩ := rn_i rfl rfl rfl rfl hh
    obtain ⟨n, hh⟩ := rn_i rfl rfl rfl rfl hh
    exact gwR_mono (rv_150 (v := Int32.ofInt (-1)) (b := false) (by decide) hrm p' (fun q => by cases q) hh) (by omega) (fun j hj => by rw [nI_clamp (by omega)]; exact if_neg (by omega))
  | true =>
    rw [hd] at er
    dsimp only [cond] at er
    subst er
    have en : nbr tp t 1 a 0 = (a + 1, 10 * 0 + tp a - 48) := by
      show nbr tp t (0 + 1) a 0 = _
      rw [nbr_gt t hd]
      rfl
    have ev : (10 * 0 + tp a - 48 : Int32) = tp a - 48 := by simp
    rw [en, ev] at hh
    obtain ⟨v1, v2⟩ := dg_val hd
    have hat := dg_lt hd
    have p0 : pW g0 (mset h 16 (.int (nI (a + 1)))) tp t cc gc (a + 1) rm Rd := pW_16 p
    have hh : pm_run PT n fr lo 191 (116, [some (.ref 162), some (.int (nI (4 * rm)))], [.int (tp a - 48), .int (nI (4 * rm) + Int32.ofInt 2), .ref 173], mset h 16 (.int (nI (a + 1))), 198, sl) = some R := hh
    rw [e2] at hh
    have q80 := p0.2.1
    obtain ⟨n, hh⟩ := rn_ism rfl q80 hin (by decide) hh
    have p' := pW_rd (Rd' := upd Rd (nI (4 * rm + 2)).toNatClampNeg (tp a - 48)) p0
    obtain ⟨n, hh⟩ := rn_i rfl rfl rfl rfl hh
    obtain ⟨n, hh⟩ := rn_gfm rfl rfl p'.1.1.2.2.2.1 hh
    obtain ⟨n, hh⟩ := rn_i rfl rfl rfl rfl hh
    obtain ⟨n, hh⟩ := rn_i rfl rfl rfl rfl hh
    obtain ⟨n, hh⟩ := rn_i rfl rfl rfl rfl hh
    obtain ⟨n, hh⟩ := rn_i rfl rfl rfl rfl hh
    obtain ⟨n, hh⟩ := rn_gfm rfl rfl p'.1.1.2.2.2.1 hh
    obtain ⟨n, hh⟩ := rn_i rfl rfl rfl rfl hh
    obtain ⟨n, hh⟩ := rn_i rfl rfl rfl rfl hh
    obtain ⟨n, hh⟩ := rn_i rfl rfl rfl rfl hh
    have hh : pm_run PT n fr lo 191 (131, [some (.ref 162), some (.int (nI (4 * rm)))], [.int (nI (4 * rm) + Int32.ofInt 2), .ref 173, .int (nI (4 * rm) + Int32.ofInt 3), .ref 173], _, 198, sl) = some R := hh
    rw [e2, e3] at hh
    obtain ⟨n, hh⟩ := rn_iam rfl asR_self hin (by decide) hh
    have eu : upd Rd (nI (4 * rm + 2)).toNatClampNeg (tp a - 48) (nI (4 * rm + 2)).toNatClampNeg = tp a - 48 := by simp [upd]
    rw [eu] at hh
    obtain ⟨n, hh⟩ := rn_if (cc := .ge) (off := 7) (t := 139) rfl rfl hh
    rw [ge0_val v1] at hh
    obtain ⟨⟨⟨⟨u1, u2, u3, u4⟩, u5, u6, -⟩, -⟩, -⟩ := id p'
    have hh : pm_run PT n fr lo 191 (139, [some (.ref 162), some (.int (nI (4 * rm)))], [.int (nI (4 * rm + 3)), .ref 173], aset (mset h 16 (.int (nI (a + 1)))) 173 36 (upd Rd (nI (4 * rm + 2)).toNatClampNeg (tp a - 48)), 198, sl) = some R := hh
    generalize aset (mset h 16 (.int (nI (a + 1)))) 173 36 (upd Rd (nI (4 * rm + 2)).toNatClampNeg (tp a - 48)) = hq at *
    obtain ⟨n, hh⟩ := rn_i rfl rfl rfl rfl hh
    obtain ⟨n, hh⟩ := rn_i rfl rfl rfl rfl hh
    obtain ⟨n, hh⟩ := rn_i rfl rfl rfl rfl hh
    obtain ⟨n, hh⟩ := rn_gfm rfl rfl u6 hh
    obtain ⟨n, hh⟩ := rn_i rfl rfl rfl rfl hh
    obtain ⟨n, hh⟩ := rn_i rfl rfl rfl rfl hh
    obtain ⟨n, fr', lo', r1, hr1, hh⟩ := rn_call (w := 0) (t := 185) rfl rfl hh
    have er := rn_dt (F := 10) (Lo := 1000) (hd_digitIn (fr := 10) (lo := 1000) (sl := sl) u1 u2 u3 u4 ht (by omega) (by decide) (by decide) (Int32.ofInt 0) (nI cc - Int32.ofInt 1)) hr1
    dsimp only [cond]
    cases hi : dgi tp (a + 1) t (Int32.ofInt 0) (nI cc - Int32.ofInt 1) with
    | false =>
      rw [hi] at er
      dsimp only [cond] at er
      subst er
      exact gwR_mono (rv_150 (v := -1) (b := false) (by decide) hrm p' (fun q => by cases q) hh) (by omega) (fun j hj => by rw [nI_clamp (by omega)]; exact if_neg (by omega))
    | true =>
      rw [hi] at er
      dsimp only [cond] at er
      subst er
      obtain ⟨w0, w1⟩ := dgi_g0 hi
      refine gwR_mono (rv_150 (v := tp (a + 1) - 48) (b := true) (lt0_val w1) hrm (pW_16 p') (fun _ => ?_) hh) (by omega) (fun j hj => by rw [nI_clamp (by omega)]; exact if_neg (by omega))
      refine hV _ (fun j hj => ?_) ?_ ?_
      · rw [nI_clamp (by omega)]
        exact (if_neg (by omega)).trans (if_neg (by omega))
      · rw [nI_clamp (by omega)]
        exact (if_neg (by omega)).trans (if_pos rfl)
      · exact if_pos rfl
theorem rv_82 {w : Int32} (ht : t ≤ 80) (ha : a < 97) (hrm : rm < 8) (p : pW g0 h tp t cc gc a rm Rd) (ev : Rd (4 * rm + 1) = w) (hV : ∀ Rd', (∀ j, j < 4 * rm + 2 → Rd' j = Rd j) → Rd' (4 * rm + 2) = tp (a + 1) - 48 → Rd' (4 * rm + 3) = tp (a + 2) - 48 → V Rd') (hw : 0 ≤ w.toInt) (hh : pm_run PT n fr lo 191 (82, [some (.ref 162), some (.int (nI (4 * rm)))], [], h, 198, sl) = some R) : gwR g0 R tp t cc gc rm Rd 2 (rgC tp t cc a) V sl := by
  obtain ⟨⟨⟨⟨q1, q2, q3, q4⟩, q5, q6, q7, -⟩, q9⟩, q8, -⟩ := id p
  obtain ⟨n, hh⟩ := rn_i rfl rfl rfl rfl hh
  obtain ⟨n, hh⟩ := rn_gfm rfl rfl q7 hh
  obtain ⟨n, hh⟩ := rn_i rfl rfl rfl rfl hh
  obtain ⟨n, hh⟩ := rn_i rfl rfl rfl rfl hh
  obtain ⟨n, hh⟩ := rn_i rfl rfl rfl rfl hh
  have e1 : nI (4 * rm) + Int32.ofInt 1 = nI (4 * rm + 1) := (Int32.ofNat_add (4 * rm) 1).symm
  have hh : pm_run PT n fr lo 191 (89, [some (.ref 162), some (.int (nI (4 * rm)))], [.int (nI (4 * rm) + Int32.ofInt 1), .ref 173], h, 198, sl) = some R := hh
  rw [e1] at hh
  obtain ⟨n, hh⟩ := rn_iam rfl q8 (hI_in (by omega) (by decide)) (by decide) hh
  rw [nI_clamp (by omega), ev] at hh
  obtain ⟨n, hh⟩ := rn_if (cc := .lt) (off := 12) (t := 102) rfl rfl hh
  rw [lt0_val hw] at hh
  obtain ⟨n, hh⟩ := rn_i rfl rfl rfl rfl hh
  obtain ⟨n, hh⟩ := rn_i rfl rfl rfl rfl hh
  obtain ⟨n, fr', lo', r1, hr1, hh⟩ := rn_call (w := 0) (t := 181) rfl rfl hh
  have er := rn_dt (F := 10) (Lo := 1000) (hd_takes (fr := 10) (lo := 1000) (sl := sl) q1 q2 q3 q4 ht (by omega) (by decide) (by decide) 44) hr1
  unfold rgC
  cases x : decide (a < t ∧ tp a = 44) with
  | false =>
    rw [x] at er
    dsimp only [cond] at er
    subst er
    have hh : pm_run PT n fr lo 191 (99, [some (.ref 162), some (.int (nI (4 * rm)))], [.int 0], mset h 16 (.int (nI (a + 0))), 198, sl) = some R := hh
    obtain ⟨n, hh⟩ := rn_if (cc := .ne) (off := 5) (t := 104) rfl rfl hh
    have hh : pm_run PT n fr lo 191 (102, [some (.ref 162), some (.int (nI (4 * rm)))], [], mset h 16 (.int (nI (a + 0))), 198, sl) = some R := hh
    exact rv_102 (pW_16 p) hh
  | true =>
    rw [x] at er
    dsimp only [cond] at er
    subst er
    have xx := of_decide_eq_true x
    have hh : pm_run PT n fr lo 191 (99, [some (.ref 162), some (.int (nI (4 * rm)))], [.int 1], mset h 16 (.int (nI (a + 1))), 198, sl) = some R := hh
    obtain ⟨n, hh⟩ := rn_if (cc := .ne) (off := 5) (t := 104) rfl rfl hh
    have hh : pm_run PT n fr lo 191 (104, [some (.ref 162), some (.int (nI (4 * rm)))], [], mset h 16 (.int (nI (a + 1))), 198, sl) = some R := hh
    exact rv_104 ht (by omega) hrm (pW_16 p) hV hh
theorem rv_46 (ht : t ≤ 80) (ha : a < 90) (hrm : rm < 8) (p : pW g0 h tp t cc gc a rm Rd) (hV : ∀ Rd', (∀ j, j < 4 * rm + 1 → Rd' j = Rd j) → Rd' (4 * rm + 1) = (nbr tp t 2 a 0).2 → Rd' (4 * rm + 2) = tp ((nbr tp t 2 a 0).1 + 1) - 48 → Rd' (4 * rm + 3) = tp ((nbr tp t 2 a 0).1 + 2) - 48 → V Rd') (hh : pm_run PT n fr lo 191 (46, [some (.ref 162), some (.int (nI (4 * rm)))], [], h, 198, sl) = some R) : gwR g0 R tp t cc gc rm Rd 1 (cond (dg tp a t) (rgW tp t cc (nbr tp t 2 a 0)) (false, a)) V sl := by
  obtain ⟨⟨⟨⟨q1, q2, q3, q4⟩, q5, q6, q7, -⟩, q9⟩, q8, -⟩ := id p
  obtain ⟨n, hh⟩ := rn_i rfl rfl rfl rfl hh
  obtain ⟨n, hh⟩ := rn_gfm rfl rfl q7 hh
  obtain ⟨n, hh⟩ := rn_i rfl rfl rfl rfl hh
  obtain ⟨n, hh⟩ := rn_i rfl rfl rfl rfl hh
  obtain ⟨n, hh⟩ := rn_i rfl rfl rfl rfl hh
  obtain ⟨n, hh⟩ := rn_i rfl rfl rfl rfl hh
  obtain ⟨n, hh⟩ := rn_i rfl rfl rfl rfl hh
  obtain ⟨n, fr', lo', r1, hr1, hh⟩ := rn_call (w := 0) (t := 184) rfl rfl hh
  have er := rn_dt (F := 10) (Lo := 1000) (hd_number (fr := 10) (lo := 1000) (sl := sl) q1 q2 q3 q4 ht (by omega) (by decide) (by decide) (d := 2) (by decide)) hr1
  have e1 : nI (4 * rm) + Int32.ofInt 1 = nI (4 * rm + 1) := (Int32.ofNat_add (4 * rm) 1).symm
  have hin : pm_in (nI (4 * rm + 1)) 36 = true := hI_in (by omega) (by decide)
  cases hd : dg tp a t with
  | false =>
    rw [hd] at er
    dsimp only [cond] at er
    subst er
    have hh : pm_run PT n fr lo 191 (58, [some (.ref 162), some (.int (nI (4 * rm)))], [.int (-1), .int (nI (4 * rm) + Int32.ofInt 1), .ref 173], h, 198, sl) = some R := hh
    rw [e1] at hh
    obtain ⟨n, hh⟩ := rn_ism rfl q8 hin (by decide) hh
    have p' := pW_rd (Rd' := upd Rd (nI (4 * rm + 1)).toNatClampNeg (-1)) p
    have eu : upd Rd (nI (4 * rm + 1)).toNatClampNeg (-1) (nI (4 * rm + 1)).toNatClampNeg = (-1 : Int32) := by simp [upd]
    obtain ⟨n, hh⟩ := rn_i rfl rfl rfl rfl hh
    obtain ⟨n, hh⟩ := rn_gfm rfl rfl p'.1.1.2.2.2.1 hh
    obtain ⟨n, hh⟩ := rn_i rfl rfl rfl rfl hh
    obtain ⟨n, hh⟩ := rn_i rfl rfl rfl rfl hh
    obtain ⟨n, hh⟩ := rn_i rfl rfl rfl rfl hh
    have hh : pm_run PT n fr lo 191 (66, [some (.ref 162), some (.int (nI (4 * rm)))], [.int (nI (4 * rm) + Int32.ofInt 1), .ref 173], _, 198, sl) = some R := hh
    rw [e1] at hh
    obtain ⟨n, hh⟩ := rn_iam rfl asR_self hin (by decide) hh
    rw [eu] at hh
    obtain ⟨n, hh⟩ := rn_if (cc := .ne) (off := 15) (t := 82) rfl rfl hh
    rw [show pm_cmp .ne (-1 : Int32) 0 = true by decide] at hh
    have hh : pm_run PT n fr lo 191 (82, [some (.ref 162), some (.int (nI (4 * rm)))], [], aset h 173 36 (upd Rd (nI (4 * rm + 1)).toNatClampNeg (-1)), 198, sl) = some R := hh
    obtain ⟨n, hh⟩ := rn_i rfl rfl rfl rfl hh
    obtain ⟨n, hh⟩ := rn_gfm rfl rfl p'.1.1.2.2.2.1 hh
    obtain ⟨n, hh⟩ := rn_i rfl rfl rfl rfl hh
    obtain ⟨n, hh⟩ := rn_i rfl rfl rfl rfl hh
    obtain ⟨n, hh⟩ := rn_i rfl rfl rfl rfl hh
    have hh : pm_run PT n fr lo 191 (89, [some (.ref 162), some (.int (nI (4 * rm)))], [.int (nI (4 * rm) + Int32.ofInt 1), .ref 173], aset h 173 36 (upd Rd (nI (4 * rm + 1)).toNatClampNeg (-1)), 198, sl) = some R := hh
    rw [e1] at hh
    obtain ⟨n, hh⟩ := rn_iam rfl asR_self hin (by decide) hh
    rw [eu] at hh
    obtain ⟨n, hh⟩ := rn_if (cc := .lt) (off := 12) (t := 102) rfl rfl hh
    rw [lt0_m1] at hh
    exact gwR_mono (j1 := 1) (rv_102 p' hh) (Nat.le_refl _) (fun j hj => by rw [nI_clamp (by omega)]; exact if_neg (by omega))
  | true =>
    rw [hd] at er
    dsimp only [cond] at er
    subst er
    obtain ⟨b1, b2, b3, b4, -⟩ := nbr_bd (tp := tp) t 2 a 0 0 (by decide) (by decide) (by decide) (by decide)
    have b0 : a + 1 ≤ (nbr tp t 2 a 0).1 := by
      rw [show nbr tp t 2 a 0 = nbr tp t (1 + 1) a 0 from rfl, nbr_gt t hd]
      have hv := dg_val hd
      have ez : (10 * 0 + tp a - 48 : Int32) = tp a - 48 := by simp
      rw [ez]
      exact (nbr_bd (tp := tp) t 1 (a + 1) (tp a - 48) 9 hv.1 hv.2 (by decide) (by decide)).1
    have p0 : pW g0 (mset h 16 (.int (nI (nbr tp t 2 a 0).1))) tp t cc gc (nbr tp t 2 a 0).1 rm Rd := pW_16 p
    have hh : pm_run PT n fr lo 191 (58, [some (.ref 162), some (.int (nI (4 * rm)))], [.int (nbr tp t 2 a 0).2, .int (nI (4 * rm) + Int32.ofInt 1), .ref 173], mset h 16 (.int (nI (nbr tp t 2 a 0).1)), 198, sl) = some R := hh
    rw [e1] at hh
    show gwR g0 R tp t cc gc rm Rd 1 (rgW tp t cc (nbr tp t 2 a 0)) V sl
    generalize nbr tp t 2 a 0 = w at *
    have q80 := p0.2.1
    obtain ⟨n, hh⟩ := rn_ism rfl q80 hin (by decide) hh
    have p' := pW_rd (Rd' := upd Rd (nI (4 * rm + 1)).toNatClampNeg w.2) p0
    have eu : upd Rd (nI (4 * rm + 1)).toNatClampNeg w.2 (nI (4 * rm + 1)).toNatClampNeg = w.2 := by simp [upd]
    obtain ⟨n, hh⟩ := rn_i rfl rfl rfl rfl hh
    obtain ⟨n, hh⟩ := rn_gfm rfl rfl p'.1.1.2.2.2.1 hh
    obtain ⟨n, hh⟩ := rn_i rfl rfl rfl rfl hh
    obtain ⟨n, hh⟩ := rn_i rfl rfl rfl rfl hh
    obtain ⟨n, hh⟩ := rn_i rfl rfl rfl rfl hh
    have hh : pm_run PT n fr lo 191 (66, [some (.ref 162), some (.int (nI (4 * rm)))], [.int (nI (4 * rm) + Int32.ofInt 1), .ref 173], _, 198, sl) = some R := hh
    rw [e1] at hh
    obtain ⟨n, hh⟩ := rn_iam rfl asR_self hin (by decide) hh
    rw [eu] at hh
    obtain ⟨n, hh⟩ := rn_if (cc := .ne) (off := 15) (t := 82) rfl rfl hh
    unfold rgW
    by_cases z : w.2 = 0
    · rw [show pm_cmp .ne w.2 0 = false from decide_eq_false (fun q => q z)] at hh
      rw [decide_eq_true z]
      have hh : pm_run PT n fr lo 191 (70, [some (.ref 162), some (.int (nI (4 * rm)))], [], aset (mset h 16 (.int (nI w.1))) 173 36 (upd Rd (nI (4 * rm + 1)).toNatClampNeg w.2), 198, sl) = some R := hh
      generalize aset (mset h 16 (.int (nI w.1))) 173 36 (upd Rd (nI (4 * rm + 1)).toNatClampNeg w.2) = hq at *
      obtain ⟨n, hh⟩ := rn_i rfl rfl rfl rfl hh
      obtain ⟨n, hh⟩ := rn_i rfl rfl rfl rfl hh
      obtain ⟨n, hh⟩ := rn_gfm rfl rfl p'.1.1.1.1 hh
      obtain ⟨n, hh⟩ := rn_i rfl rfl rfl rfl hh
      obtain ⟨n, hh⟩ := rn_i rfl rfl rfl rfl hh
      obtain ⟨n, hh⟩ := rn_pfm (w := .int (nI w.1)) rfl rfl rfl (by decide) p'.1.1.1.1 hh
      have em : nI w.1 - Int32.ofInt 1 = nI (w.1 - 1) := by
        have e : nI w.1 = nI (w.1 - 1) + Int32.ofInt 1 := by
          rw [show nI (w.1 - 1) + Int32.ofInt 1 = nI (w.1 - 1 + 1) from (Int32.ofNat_add (w.1 - 1) 1).symm, Nat.sub_add_cancel (by omega)]
        rw [e]
        simp
      have hh : pm_run PT n fr lo 191 (80, [some (.ref 162), some (.int (nI (4 * rm)))], [], mset hq 16 (.int (nI w.1 - Int32.ofInt 1)), 198, sl) = some R := hh
      rw [em] at hh
      obtain ⟨n, hh⟩ := rn_i rfl rfl rfl rfl hh
      have e := (rn_ret rfl (Or.inr rfl) hh).2
      subst e
      exact ⟨rfl, rfl, rm, _, pW_16 p', fun j hj => by rw [nI_clamp (by omega)]; exact if_neg (by omega), fun q => by cases q⟩
    · rw [show pm_cmp .ne w.2 0 = true from decide_eq_true z] at hh
      rw [decide_eq_false z]
      refine gwR_mono (rv_82 (w := w.2) ht (by omega) hrm p' (by rw [nI_clamp (by omega)]; simp [upd]) (fun Rd' r1 r2 r3 => ?_) b4 hh) (by omega) (fun j hj => by rw [nI_clamp (by omega)]; exact if_neg (by omega))
      refine hV Rd' (fun j hj => ?_) ?_ r2 r3
      · rw [r1 j (by omega), nI_clamp (by omega)]
        exact if_neg (by omega)
      · rw [r1 _ (by omega), nI_clamp (by omega)]
        exact if_pos rfl
theorem rv_reads (ht : t ≤ 80) (ha : a < 89) (hgr : gc + rm ≤ 8) (p : pW g0 h tp t cc gc a rm Rd) (hV : ∀ Rd', Rd' (4 * rm) = tp a - 48 → Rd' (4 * rm + 1) = (nbr tp t 2 (a + 1) 0).2 → Rd' (4 * rm + 2) = tp ((nbr tp t 2 (a + 1) 0).1 + 1) - 48 → Rd' (4 * rm + 3) = tp ((nbr tp t 2 (a + 1) 0).1 + 2) - 48 → V Rd') (hh : pm_run PT n fr lo 191 (0, pm_l0 [.ref 162] 2, [], h, 198, sl) = some R) : gwR g0 R tp t cc gc rm Rd 0 (cond (decide (gc + rm = 8)) (false, a) (rgL tp t cc a)) V sl := by
  obtain ⟨⟨⟨⟨q1, q2, q3, q4⟩, q5, q6, q7, -⟩, q9⟩, q8, -⟩ := id p
  obtain ⟨n, hh⟩ := rn_i rfl rfl rfl rfl hh
  obtain ⟨n, hh⟩ := rn_gfm rfl rfl q9 hh
  obtain ⟨n, hh⟩ := rn_i rfl rfl rfl rfl hh
  obtain ⟨n, hh⟩ := rn_gfm rfl rfl q5 hh
  obtain ⟨n, hh⟩ := rn_i rfl rfl rfl rfl hh
  obtain ⟨n, hh⟩ := rn_i rfl rfl rfl rfl hh
  obtain ⟨n, hh⟩ := rn_icmp (cc := .ne) (off := 5) (t := 16) rfl rfl hh
  have ec : pm_cmp .ne ((fun x y => x + y) (nI gc) (nI rm)) (Int8.ofInt 8).toInt32 = decide (¬ (gc + rm = 8)) := by
    show pm_cmp .ne (nI gc + nI rm) (nI 8) = _
    rw [nI_add]
    exact hI_ne (by omega) (by omega)
  rw [ec] at hh
  by_cases z : gc + rm = 8
  · rw [decide_eq_false (fun q => q z)] at hh
    rw [decide_eq_true z]
    obtain ⟨n, hh⟩ := rn_i rfl rfl rfl rfl hh
    have e := (rn_ret rfl (Or.inr rfl) hh).2
    subst e
    exact ⟨rfl, rfl, rm, Rd, p, fun _ _ => rfl, fun q => by cases q⟩
  · rw [decide_eq_true z] at hh
    rw [decide_eq_false z]
    have hh : pm_run PT n fr lo 191 (16, [some (.ref 162), none], [], h, 198, sl) = some R := hh
    obtain ⟨n, hh⟩ := rn_i rfl rfl rfl rfl hh
    obtain ⟨n, hh⟩ := rn_i rfl rfl rfl rfl hh
    obtain ⟨n, hh⟩ := rn_gfm rfl rfl q5 hh
    obtain ⟨n, hh⟩ := rn_i rfl rfl rfl rfl hh
    obtain ⟨n, hh⟩ := rn_i rfl rfl rfl rfl hh
    have e6 : Int32.ofInt 4 * nI rm = nI (4 * rm) := hI_mul 4 rm
    have hh : pm_run PT n fr lo 191 (23, [some (.ref 162), some (.int (Int32.ofInt 4 * nI rm))], [], h, 198, sl) = some R := hh
    rw [e6] at hh
    obtain ⟨n, hh⟩ := rn_i rfl rfl rfl rfl hh
    obtain ⟨n, hh⟩ := rn_gfm rfl rfl q7 hh
    obtain ⟨n, hh⟩ := rn_i rfl rfl rfl rfl hh
    obtain ⟨n, hh⟩ := rn_i rfl rfl rfl rfl hh
    obtain ⟨n, hh⟩ := rn_i rfl rfl rfl rfl hh
    obtain ⟨n, hh⟩ := rn_i rfl rfl rfl rfl hh
    obtain ⟨n, fr', lo', r1, hr1, hh⟩ := rn_call (w := 0) (t := 185) rfl rfl hh
    have er := rn_dt (F := 10) (Lo := 1000) (hd_digitIn (fr := 10) (lo := 1000) (sl := sl) q1 q2 q3 q4 ht (by omega) (by decide) (by decide) (Int32.ofInt 0) (Int32.ofInt 4)) hr1
    have hin : pm_in (nI (4 * rm)) 36 = true := hI_in (by omega) (by decide)
    dsimp only [cond]
    unfold rgL
    cases hd : dgi tp a t (Int32.ofInt 0) (Int32.ofInt 4) with
    | false =>
      rw [hd] at er
      dsimp only [cond] at er
      subst er
      have hh : pm_run PT n fr lo 191 (34, [some (.ref 162), some (.int (nI (4 * rm)))], [.int (-1), .int (nI (4 * rm)), .ref 173], h, 198, sl) = some R := hh
      obtain ⟨n, hh⟩ := rn_ism rfl q8 hin (by decide) hh
      have p' := pW_rd (Rd' := upd Rd (nI (4 * rm)).toNatClampNeg (-1)) p
      obtain ⟨n, hh⟩ := rn_i rfl rfl rfl rfl hh
      obtain ⟨n, hh⟩ := rn_gfm rfl rfl p'.1.1.2.2.2.1 hh
      obtain ⟨n, hh⟩ := rn_i rfl rfl rfl rfl hh
      obtain ⟨n, hh⟩ := rn_iam rfl asR_self hin (by decide) hh
      have eu : upd Rd (nI (4 * rm)).toNatClampNeg (-1) (nI (4 * rm)).toNatClampNeg = (-1 : Int32) := by simp [upd]
      rw [eu] at hh
      obtain ⟨n, hh⟩ := rn_if (cc := .ge) (off := 5) (t := 46) rfl rfl hh
      rw [show pm_cmp .ge (-1 : Int32) 0 = false by decide] at hh
      exact gwR_mono (j1 := 0) (rv_0 p' hh) (Nat.le_refl _) (fun j hj => by rw [nI_clamp (by omega)]; exact if_neg (by omega))
    | true =>
      rw [hd] at er
      dsimp only [cond] at er
      subst er
      obtain ⟨v0, v1⟩ := dgi_g0 hd
      have p0 : pW g0 (mset h 16 (.int (nI (a + 1)))) tp t cc gc (a + 1) rm Rd := pW_16 p
      have hh : pm_run PT n fr lo 191 (34, [some (.ref 162), some (.int (nI (4 * rm)))], [.int (tp a - 48), .int (nI (4 * rm)), .ref 173], mset h 16 (.int (nI (a + 1))), 198, sl) = some R := hh
      have q80 := p0.2.1
      obtain ⟨n, hh⟩ := rn_ism rfl q80 hin (by decide) hh
      have p' := pW_rd (Rd' := upd Rd (nI (4 * rm)).toNatClampNeg (tp a - 48)) p0
      obtain ⟨n, hh⟩ := rn_i rfl rfl rfl rfl hh
      obtain ⟨n, hh⟩ := rn_gfm rfl rfl p'.1.1.2.2.2.1 hh
      obtain ⟨n, hh⟩ := rn_i rfl rfl rfl rfl hh
      obtain ⟨n, hh⟩ := rn_iam rfl asR_self hin (by decide) hh
      have eu : upd Rd (nI (4 * rm)).toNatClampNeg (tp a - 48) (nI (4 * rm)).toNatClampNeg = tp a - 48 := by simp [upd]
      rw [eu] at hh
      obtain ⟨n, hh⟩ := rn_if (cc := .ge) (off := 5) (t := 46) rfl rfl hh
      rw [ge0_val v1] at hh
      refine gwR_mono (rv_46 ht (by omega) (by omega) p' (fun Rd' r1 r2 r3 r4 => ?_) hh) (by omega) (fun j hj => by rw [nI_clamp (by omega)]; exact if_neg (by omega))
      refine hV Rd' ?_ r2 r3 r4
      rw [r1 _ (by omega), nI_clamp (by omega)]
      exact if_pos rfl
theorem gmv_loop (ht : t ≤ 80) {n0 : Int32} : ∀ (k rm a n : Nat) (h : pm_H) (Rd : Nat → Int32), gc + rm + k = 9 → 0 < k → a ≤ t → a = gps tp t cc rm → pW g0 h tp t cc gc a rm Rd → (∀ r, r < rm → gvM tp t cc r Rd) → pm_run PT n fr lo 192 (29, [some (.ref 162), some (.int n0), some (.int 1), some (.int 1), none, none], [], h, 198, sl) = some R → ∃ m h' rm' Rd', pm_run PT m fr lo 192 (60, [some (.ref 162), some (.int n0), some (.int (cond (sgL tp t cc gc k rm a).1 1 0)), some (.int 0), none, none], [], h', 198, sl) = some R ∧ pW g0 h' tp t cc gc (sgL tp t cc gc k rm a).2.1 rm' Rd' ∧ ((sgL tp t cc gc k rm a).1 = true → rm' = (sgL tp t cc gc k rm a).2.2 ∧ ∀ r, r < rm' → gvM tp t cc r Rd') := by
  have out : ∀ (n : Nat) (b : Int32) (h : pm_H), pm_run PT n fr lo 192 (29, [some (.ref 162), some (.int n0), some (.int b), some (.int 0), none, none], [], h, 198, sl) = some R → ∃ m, pm_run PT m fr lo 192 (60, [some (.ref 162), some (.int n0), some (.int b), some (.int 0), none, none], [], h, 198, sl) = some R := by
    intro n b h hh
    obtain ⟨n, hh⟩ := rn_i rfl rfl rfl rfl hh
    obtain ⟨n, hh⟩ := rn_if (cc := .eq) (off := 30) (t := 60) rfl rfl hh
    exact ⟨n, hh⟩
  have bad : ∀ (n : Nat) (h1 : pm_H), pm_run PT n fr lo 192 (37, [some (.ref 162), some (.int n0), some (.int 1), some (.int 1), none, none], [.int 0], h1, 198, sl) = some R → ∃ m, pm_run PT m fr lo 192 (60, [some (.ref 162), some (.int n0), some (.int 0), some (.int 0), none, none], [], h1, 198, sl) = some R := by
    intro n h1 hh
    obtain ⟨n, hh⟩ := rn_i rfl rfl rfl rfl hh
    obtain ⟨n, hh⟩ := rn_i rfl rfl rfl rfl hh
    obtain ⟨n, hh⟩ := rn_if (cc := .eq) (off := 16) (t := 55) rfl rfl hh
    have hh : pm_run PT n fr lo 192 (55, [some (.ref 162), some (.int n0), some (.int 0), some (.int 1), none, none], [], h1, 198, sl) = some R := hh
    obtain ⟨n, hh⟩ := rn_i rfl rfl rfl rfl hh
    obtain ⟨n, hh⟩ := rn_i rfl rfl rfl rfl hh
    obtain ⟨n, hh⟩ := rn_i rfl rfl rfl rfl hh
    exact out n 0 h1 hh
  intro k
  induction k with
  | zero => intro rm a n h Rd hk h0; exact absurd h0 (by omega)
  | succ k ih =>
    intro rm a n h Rd hk h0 ha hs p hl hh
    obtain ⟨n, hh⟩ := rn_i rfl rfl rfl rfl hh
    obtain ⟨n, hh⟩ := rn_if (cc := .eq) (off := 30) (t := 60) rfl rfl hh
    have hh : pm_run PT n fr lo 192 (33, [some (.ref 162), some (.int n0), some (.int 1), some (.int 1), none, none], [], h, 198, sl) = some R := hh
    obtain ⟨n, hh⟩ := rn_i rfl rfl rfl rfl hh
    obtain ⟨n, fr', lo', r1, hr1, hh⟩ := rn_call (w := 0) (t := 191) rfl rfl hh
    obtain ⟨e1, e3, rm', Rd', e2, e5, e4⟩ := rv_reads (V := gvM tp t cc rm) ht (by omega) (by omega) p (fun Rd' r1 r2 r3 r4 => (by unfold gvM; rw [← hs]; exact ⟨r1, r2, r3, r4⟩)) hr1
    obtain ⟨rv, h1, s1⟩ := r1
    dsimp only at e1 e2 e3 e4 e5
    subst e1
    subst e3
    show ∃ m h' rm' Rd', pm_run PT m fr lo 192 (60, [some (.ref 162), some (.int n0), some (.int (cond (sgL tp t cc gc (k + 1) rm a).1 1 0)), some (.int 0), none, none], [], h', 198, sl) = some R ∧ pW g0 h' tp t cc gc (sgL tp t cc gc (k + 1) rm a).2.1 rm' Rd' ∧ ((sgL tp t cc gc (k + 1) rm a).1 = true → rm' = (sgL tp t cc gc (k + 1) rm a).2.2 ∧ ∀ r, r < rm' → gvM tp t cc r Rd')
    unfold sgL
    cases z : decide (gc + rm = 8) with
    | true =>
      rw [z] at e2 e4 hh
      obtain ⟨m, hm⟩ := bad n h1 hh
      exact ⟨m, h1, rm', Rd', hm, e2, fun q => by cases q⟩
    | false =>
      rw [z] at e2 e4 hh
      dsimp only [cond] at e2 e4 ⊢
      cases y : (rgL tp t cc a).1 with
      | false =>
        have hh : pm_run PT n fr lo 192 (37, [some (.ref 162), some (.int n0), some (.int 1), some (.int 1), none, none], [.int 0], h1, 198, sl) = some R := by rw [← hh]; dsimp only [cond]; rw [y]; rfl
        obtain ⟨m, hm⟩ := bad n h1 hh
        exact ⟨m, h1, rm', Rd', hm, e2, fun q => by cases q⟩
      | true =>
        have hh : pm_run PT n fr lo 192 (37, [some (.ref 162), some (.int n0), some (.int 1), some (.int 1), none, none], [.int 1], h1, 198, sl) = some R := by rw [← hh]; dsimp only [cond]; rw [y]; rfl
        have hle : (rgL tp t cc a).2 ≤ t := rgL_le ha
        obtain ⟨e4, e6⟩ := e4 y
        subst e4
        have hs2 : gps tp t cc (rm + 1) = (rgL tp t cc a).2 + 1 := by
          rw [hs]
          rfl
        have hl2 : ∀ r, r < rm + 1 → gvM tp t cc r Rd' := by
          intro r hr
          by_cases z2 : r = rm
          · rw [z2]
            exact e6
          · have h2 := hl r (by omega)
            unfold gvM at h2 ⊢
            rw [e5 _ (by omega), e5 _ (by omega), e5 _ (by omega), e5 _ (by omega)]
            exact h2
        generalize (rgL tp t cc a).2 = b at *
        obtain ⟨n, hh⟩ := rn_i rfl rfl rfl rfl hh
        obtain ⟨n, hh⟩ := rn_i rfl rfl rfl rfl hh
        obtain ⟨n, hh⟩ := rn_if (cc := .eq) (off := 16) (t := 55) rfl rfl hh
        have hh : pm_run PT n fr lo 192 (42, [some (.ref 162), some (.int n0), some (.int 1), some (.int 1), none, none], [], h1, 198, sl) = some R := hh
        obtain ⟨n, hh⟩ := rn_i rfl rfl rfl rfl hh
        obtain ⟨n, hh⟩ := rn_i rfl rfl rfl rfl hh
        obtain ⟨n, fr', lo', r1, hr1, hh⟩ := rn_call (w := 0) (t := 181) rfl rfl hh
        obtain ⟨⟨⟨⟨q1, q2, q3, q4⟩, -⟩, -⟩, -⟩ := id e2
        have er := rn_dt (F := 10) (Lo := 1000) (hd_takes (fr := 10) (lo := 1000) (sl := sl) q1 q2 q3 q4 ht (by omega) (by decide) (by decide) 59) hr1
        cases x : decide (b < t ∧ tp b = 59) with
        | false =>
          rw [x] at er
          dsimp only [cond] at er
          subst er
          have hh : pm_run PT n fr lo 192 (48, [some (.ref 162), some (.int n0), some (.int 1), some (.int 1), none, none], [.int 0], mset h1 16 (.int (nI (b + 0))), 198, sl) = some R := hh
          obtain ⟨n, hh⟩ := rn_if (cc := .eq) (off := 7) (t := 55) rfl rfl hh
          have hh : pm_run PT n fr lo 192 (55, [some (.ref 162), some (.int n0), some (.int 1), some (.int 1), none, none], [], mset h1 16 (.int (nI (b + 0))), 198, sl) = some R := hh
          obtain ⟨n, hh⟩ := rn_i rfl rfl rfl rfl hh
          obtain ⟨n, hh⟩ := rn_i rfl rfl rfl rfl hh
          obtain ⟨n, hh⟩ := rn_i rfl rfl rfl rfl hh
          obtain ⟨m, hm⟩ := out n 1 _ hh
          exact ⟨m, _, rm + 1, Rd', hm, pW_16 e2, fun _ => ⟨rfl, hl2⟩⟩
        | true =>
          rw [x] at er
          dsimp only [cond] at er
          subst er
          have xx := of_decide_eq_true x
          have hh : pm_run PT n fr lo 192 (48, [some (.ref 162), some (.int n0), some (.int 1), some (.int 1), none, none], [.int 1], mset h1 16 (.int (nI (b + 1))), 198, sl) = some R := hh
          obtain ⟨n, hh⟩ := rn_if (cc := .eq) (off := 7) (t := 55) rfl rfl hh
          have hh : pm_run PT n fr lo 192 (51, [some (.ref 162), some (.int n0), some (.int 1), some (.int 1), none, none], [], mset h1 16 (.int (nI (b + 1))), 198, sl) = some R := hh
          obtain ⟨n, hh⟩ := rn_i rfl rfl rfl rfl hh
          obtain ⟨n, hh⟩ := rn_i rfl rfl rfl rfl hh
          obtain ⟨n, hh⟩ := rn_i rfl rfl rfl rfl hh
          obtain ⟨n, hh⟩ := rn_i rfl rfl rfl rfl hh
          have zz := of_decide_eq_false z
          exact ih (rm + 1) (b + 1) n _ Rd' (by omega) (by omega) (by omega) hs2.symm (pW_16 e2) hl2 hh
end GWM
end MG95zzyox2
