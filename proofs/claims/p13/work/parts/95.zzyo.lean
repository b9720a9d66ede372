/-! new COURTS on both sides -/
section CRL
variable {q : QT} {cq gc c N r : Nat} {h hx hm : pm_H}
/-- settled -/
def stI (c' : Nat) (h : pm_H) (i : Nat) (a : pm_H) : Prop := Ar a 14 = upd (Ar h 14) c' (nI 50) ∧ (∀ t, t < i → Ar a 15 (c' * 6 + t) = nI 10 ∧ Ar a 15 (t * 6 + c') = nI 10) ∧ ∀ k, (∀ t, t < i → k ≠ c' * 6 + t ∧ k ≠ t * 6 + c') → Ar a 15 k = Ar h 15 k
theorem st_step {c' k : Nat} {a : pm_H} (hc : c' < 6) (hk : k < c') (z : stI c' h k a) : stI c' h (k + 1) (w132_13b q cq gc a c' k) := by
  obtain ⟨z1, z2, z3⟩ := z
  unfold w132_13b
  refine ⟨(Ar_n (by decide)).trans z1, fun t ht => ?_, fun m hm => ?_⟩
  · rw [Ar_s]
    by_cases y : t = k
    · subst y
      exact ⟨by rw [up_n (by omega), up_e rfl], up_e rfl⟩
    · obtain ⟨e1, e2⟩ := z2 t (by omega)
      exact ⟨by rw [up_n (by omega), up_n (by omega)]; exact e1, by rw [up_n (by omega), up_n (by omega)]; exact e2⟩
  · rw [Ar_s, up_n (hm k (by omega)).2, up_n (hm k (by omega)).1]
    exact z3 m (fun t ht => hm t (by omega))
theorem w132_ar {c' : Nat} (hc : c' < 6) : stI c' h c' (w132 q cq gc h c') := by
  have z := lp_in (f := fun i a => w132_13b q cq gc a c' i) (P := stI c' h) c' 0 (aset h 14 6 (upd (Ar h 14) c' (nI 50))) ⟨Ar_s, fun t ht => absurd ht (Nat.not_lt_zero t), fun k _ => by rw [Ar_n (by decide)]⟩ (fun k a _ hk z => st_step hc (by omega) z)
  rw [Nat.zero_add] at z
  exact z
/-- so many new COURTS stand, on the class's side -/
def crJ (c : Nat) (h : pm_H) (i : Nat) (a : pm_H) : Prop := (∀ k, c ≤ k → k < c + i → Ar a 14 k = nI 50) ∧ (∀ k, (k < c ∨ c + i ≤ k) → Ar a 14 k = Ar h 14 k) ∧ (∀ x y, x < c + i → y < c + i → x ≠ y → (c ≤ x ∨ c ≤ y) → Ar a 15 (x * 6 + y) = nI 10) ∧ ∀ x y, x < c → y < c → Ar a 15 (x * 6 + y) = Ar h 15 (x * 6 + y)
theorem cr_step {i m : Nat} {a : pm_H} (hc : c + i < 6) (z : crJ c h i a) : crJ c h (i + 1) (w88_19b q cq gc a c m i) := by
  obtain ⟨z1, z2, z3, z4⟩ := z
  obtain ⟨s1, s2, s3⟩ := w132_ar (q := q) (cq := cq) (gc := gc) (h := a) hc
  unfold w88_19b
  refine ⟨fun k h1 h2 => ?_, fun k h1 => ?_, fun x y h1 h2 h3 h4 => ?_, fun x y h1 h2 => ?_⟩
  · rw [Ar_f, s1]
    by_cases y : k = c + i
    · exact up_e y
    · rw [up_n y]
      exact z1 k h1 (by omega)
  · rw [Ar_f, s1, up_n (by omega)]
    exact z2 k (by omega)
  · rw [Ar_f]
    by_cases y1 : x = c + i
    · rw [y1]
      exact (s2 y (by omega)).1
    · by_cases y2 : y = c + i
      · rw [y2]
        exact (s2 x (by omega)).2
      · rw [s3 (x * 6 + y) (fun t ht => ⟨by omega, by omega⟩)]
        exact z3 x y (by omega) (by omega) h3 h4
  · rw [Ar_f, s3 (x * 6 + y) (fun t ht => ⟨by omega, by omega⟩)]
    exact z4 x y h1 h2
theorem w88_ar (h1 : 1 ≤ N) (h6 : c + N ≤ 6) : crJ c h N (w88 q cq gc h N c).2 := by
  have z := lp_in (f := fun i a => w88_19b q cq gc a c N i) (P := crJ c h) N 0 (fset h 1 1 (.int (nI 0))) ⟨fun k h1 h2 => by omega, fun k _ => by rw [Ar_f], fun x y h1 h2 h3 h4 => by omega, fun x y _ _ => by rw [Ar_f]⟩ (fun k a _ hk z => cr_step (by omega) z)
  rw [Nat.zero_add] at z
  obtain ⟨z1, z2, z3, z4⟩ := z
  unfold w88
  rw [decide_eq_false (show ¬ N ≤ 0 by omega)]
  exact ⟨fun k a b => (congrFun (Ar_f.trans Ar_f) _).trans (z1 k a b), fun k a => (congrFun (Ar_f.trans Ar_f) _).trans (z2 k a), fun x y a b d e => (congrFun (Ar_f.trans Ar_f) _).trans (z3 x y a b d e), fun x y a b => (congrFun (Ar_f.trans Ar_f) _).trans (z4 x y a b)⟩
/-- the reference: one new COURT comes -/
def cmI (c' : Nat) (h : pm_H) (i : Nat) (a : pm_H) : Prop := (Ar a 164 = Ar h 164 ∧ Ar a 165 = Ar h 165 ∧ Ar a 173 = Ar h 173) ∧ (∀ t, t < i → (Ar a 170 (6 + 6 * c' + t) = nI 10 ∧ Ar a 170 (6 + 6 * t + c') = nI 10) ∧ Ar a 170 (42 + 6 * c' + t) = nI 0 ∧ Ar a 170 (42 + 6 * t + c') = nI 0) ∧ ∀ k, (∀ t, t < 6 → (k ≠ 6 + 6 * c' + t ∧ k ≠ 6 + 6 * t + c') ∧ k ≠ 42 + 6 * c' + t ∧ k ≠ 42 + 6 * t + c') → Ar a 170 k = Ar h 170 k
theorem w189_ar {x y : Nat} : (Ar (w189 q cq gc h x y) 164 = Ar h 164 ∧ Ar (w189 q cq gc h x y) 165 = Ar h 165 ∧ Ar (w189 q cq gc h x y) 173 = Ar h 173) ∧ Ar (w189 q cq gc h x y) 170 = upd (upd (Ar h 170) (6 + 6 * x + y) (nI 10)) (42 + 6 * x + y) (nI 0) := by
  unfold w189
  exact ⟨⟨(Ar_n (by decide)).trans (Ar_n (by decide)), (Ar_n (by decide)).trans (Ar_n (by decide)), (Ar_n (by decide)).trans (Ar_n (by decide))⟩, (Ar_n (by decide)).trans Ar_s⟩
theorem cm_step {c' k z1 z2 m : Nat} {t1 t2 t3 t4 : Int32} {a : pm_H} (hc : c' < 6) (hk : k < 6) (z : cmI c' h k a) : cmI c' h (k + 1) (w188_167b q cq gc a z1 c' t1 t2 t3 t4 m k) := by
  obtain ⟨⟨a1, a2, a3⟩, a4, a5⟩ := z
  unfold w188_167b
  obtain ⟨⟨b1, b2, b3⟩, b4⟩ := w189_ar (q := q) (cq := cq) (gc := gc) (h := a) (x := c') (y := k)
  obtain ⟨⟨d1, d2, d3⟩, d4⟩ := w189_ar (q := q) (cq := cq) (gc := gc) (h := w189 q cq gc a c' k) (x := k) (y := c')
  refine ⟨⟨d1.trans (b1.trans a1), d2.trans (b2.trans a2), d3.trans (b3.trans a3)⟩, fun t ht => ?_, fun j hj => ?_⟩
  · rw [d4, b4]
    by_cases y : t = k
    · subst y
      refine ⟨⟨?_, ?_⟩, ?_, ?_⟩
      · rw [up_n (by omega)]
        by_cases y : 6 + 6 * c' + t = 6 + 6 * t + c'
        · exact up_e y
        · rw [up_n y, up_n (by omega), up_e rfl]
      · rw [up_n (by omega), up_e rfl]
      · by_cases y : 42 + 6 * c' + t = 42 + 6 * t + c'
        · exact up_e y
        · rw [up_n y, up_n (by omega), up_e rfl]
      · exact up_e rfl
    · obtain ⟨⟨e1, e2⟩, e3, e4⟩ := a4 t (by omega)
      refine ⟨⟨?_, ?_⟩, ?_, ?_⟩
      · rw [up_n (by omega)]
        by_cases y : 6 + 6 * c' + t = 6 + 6 * k + c'
        · exact up_e y
        · rw [up_n y, up_n (by omega), up_n (by omega)]
          exact e1
      · rw [up_n (by omega), up_n (by omega), up_n (by omega)]
        by_cases y : 6 + 6 * t + c' = 6 + 6 * c' + k
        · exact up_e y
        · rw [up_n y]
          exact e2
      · by_cases y : 42 + 6 * c' + t = 42 + 6 * k + c'
        · exact up_e y
        · rw [up_n y, up_n (by omega), up_n (by omega), up_n (by omega)]
          exact e3
      · rw [up_n (by omega), up_n (by omega)]
        by_cases y : 42 + 6 * t + c' = 42 + 6 * c' + k
        · exact up_e y
        · rw [up_n y, up_n (by omega)]
          exact e4
  · obtain ⟨⟨e1, e2⟩, e3, e4⟩ := hj k hk
    rw [d4, b4, up_n e4, up_n e2, up_n e3, up_n e1]
    exact a5 j hj
def tsI (c' m : Nat) (h : pm_H) (i : Nat) (a : pm_H) : Prop := (Ar a 164 = Ar h 164 ∧ Ar a 170 = Ar h 170 ∧ Ar a 173 = Ar h 173) ∧ (∀ t, t < i → Ar a 165 (5 * c' + t) = Ar h 173 (6 * m + 1 + t)) ∧ ∀ k, (k < 5 * c' ∨ 5 * c' + i ≤ k) → Ar a 165 k = Ar h 165 k
theorem ts_step {c' k z1 m : Nat} {t1 t2 t3 t4 : Int32} {a : pm_H} (z : tsI c' m h k a) : tsI c' m h (k + 1) (w188_112b q cq gc a z1 c' t1 t2 t3 t4 m k) := by
  obtain ⟨⟨a1, a2, a3⟩, a4, a5⟩ := z
  unfold w188_112b
  refine ⟨⟨(Ar_n (by decide)).trans a1, (Ar_n (by decide)).trans a2, (Ar_n (by decide)).trans a3⟩, fun t ht => ?_, fun j hj => ?_⟩
  · rw [Ar_s]
    by_cases y : t = k
    · rw [y, up_e rfl, a3]
    · rw [up_n (by omega)]
      exact a4 t (by omega)
  · rw [Ar_s, up_n (by omega)]
    exact a5 j (by omega)
/-- so many new COURTS stand, on the reference's side -/
def crM (c : Nat) (h : pm_H) (i : Nat) (a : pm_H) : Prop := (Ar a 173 = Ar h 173 ∧ (∀ k, k < i → Ar a 164 (c + k) = Ar h 173 (6 * k) ∧ ∀ t, t < 5 → Ar a 165 (5 * (c + k) + t) = Ar h 173 (6 * k + 1 + t)) ∧ (∀ k, k < c → Ar a 164 k = Ar h 164 k) ∧ ∀ k, k < 5 * c → Ar a 165 k = Ar h 165 k) ∧ (∀ k, c ≤ k → k < c + i → Ar a 170 k = nI 50) ∧ (∀ k, (k < c ∨ c + i ≤ k ∧ k < 6) → Ar a 170 k = Ar h 170 k) ∧ (∀ x y, x < c + i → y < c + i → (c ≤ x ∨ c ≤ y) → Ar a 170 (6 + 6 * x + y) = nI 10) ∧ (∀ x y, x < c → y < c → Ar a 170 (6 + 6 * x + y) = Ar h 170 (6 + 6 * x + y)) ∧ (∀ x y, x < 6 → y < 6 → Ar a 170 (42 + 6 * x + y) = nI 0 ∨ Ar a 170 (42 + 6 * x + y) = Ar h 170 (42 + 6 * x + y)) ∧ (∀ x y, x < c → y < c → Ar a 170 (42 + 6 * x + y) = Ar h 170 (42 + 6 * x + y)) ∧ ∀ k, 78 ≤ k → Ar a 170 k = Ar h 170 k
theorem crM_step {i z1 : Nat} {t1 t2 t3 t4 : Int32} {a : pm_H} (hc : c + i < 6) (z : crM c h i a) : crM c h (i + 1) (w188_81b q cq gc a z1 c t1 t2 t3 t4 i) := by
  obtain ⟨⟨a1, a2, a3, a4⟩, b1, b2, b3, b4, b5, b6, b7⟩ := z
  have y1 := lp_in (f := fun j b => w188_112b q cq gc b z1 (c + i) t1 t2 t3 t4 i j) (P := tsI (c + i) i (aset a 164 6 (upd (Ar a 164) (c + i) (Ar a 173 (6 * i))))) 5 0 _ ⟨⟨rfl, rfl, rfl⟩, fun t ht => absurd ht (Nat.not_lt_zero t), fun k _ => rfl⟩ (fun k b _ hk z => ts_step z)
  have y1 : tsI (c + i) i (aset a 164 6 (upd (Ar a 164) (c + i) (Ar a 173 (6 * i)))) (0 + 5) (w188_112 q cq gc z1 (c + i) t1 t2 t3 t4 i 5 0 (aset a 164 6 (upd (Ar a 164) (c + i) (Ar a 173 (6 * i))))) := y1
  unfold w188_81b
  generalize w188_112 q cq gc z1 (c + i) t1 t2 t3 t4 i 5 0 (aset a 164 6 (upd (Ar a 164) (c + i) (Ar a 173 (6 * i)))) = u at y1 ⊢
  obtain ⟨⟨u1, u2, u3⟩, u4, u5⟩ := y1
  rw [Ar_s] at u1
  rw [Ar_n (by decide)] at u2 u3
  have y2 := lp_in (f := fun j b => w188_167b q cq gc b z1 (c + i) t1 t2 t3 t4 i j) (P := cmI (c + i) (aset u 170 96 (upd (Ar a 170) (c + i) (nI 50)))) 6 0 _ ⟨⟨rfl, rfl, rfl⟩, fun t ht => absurd ht (Nat.not_lt_zero t), fun k _ => rfl⟩ (fun k b _ hk z => cm_step (z2 := z1) hc (by omega) z)
  have y2 : cmI (c + i) (aset u 170 96 (upd (Ar a 170) (c + i) (nI 50))) (0 + 6) (w188_167 q cq gc z1 (c + i) t1 t2 t3 t4 i 6 0 (aset u 170 96 (upd (Ar a 170) (c + i) (nI 50)))) := y2
  generalize w188_167 q cq gc z1 (c + i) t1 t2 t3 t4 i 6 0 (aset u 170 96 (upd (Ar a 170) (c + i) (nI 50))) = w at y2 ⊢
  obtain ⟨⟨w1, w2, w3⟩, w4, w5⟩ := y2
  rw [Ar_n (by decide)] at w1 w2 w3
  rw [Ar_s] at w5
  have V4 : Ar w 164 = upd (Ar a 164) (c + i) (Ar a 173 (6 * i)) := w1.trans u1
  have V3 : Ar w 173 = Ar h 173 := w3.trans (u3.trans a1)
  have V5 : ∀ k, k < 5 * (c + i) → Ar w 165 k = Ar a 165 k := fun k hk => by rw [w2, u5 k (by omega), Ar_n (by decide)]
  have V6 : ∀ t, t < 5 → Ar w 165 (5 * (c + i) + t) = Ar h 173 (6 * i + 1 + t) := fun t ht => by rw [w2, u4 t (by omega), Ar_n (by decide), a1]
  refine ⟨⟨Ar_f.trans V3, fun k hk => ?_, fun k hk => ?_, fun k hk => ?_⟩, fun k h1 h2 => ?_, fun k h1 => ?_, fun x y h1 h2 h3 => ?_, fun x y h1 h2 => ?_, fun x y h1 h2 => ?_, fun x y h1 h2 => ?_, fun k h1 => ?_⟩
  · rw [Ar_f, Ar_f, V4]
    by_cases y : k = i
    · rw [y, up_e rfl, a1]
      exact ⟨rfl, V6⟩
    · rw [up_n (by omega)]
      obtain ⟨e1, e2⟩ := a2 k (by omega)
      exact ⟨e1, fun t ht => by rw [V5 _ (by omega)]; exact e2 t ht⟩
  · rw [Ar_f, V4, up_n (by omega)]
    exact a3 k hk
  · rw [Ar_f, V5 k (by omega)]
    exact a4 k hk
  · rw [Ar_f, w5 k (fun t ht => ⟨⟨by omega, by omega⟩, by omega, by omega⟩)]
    by_cases y : k = c + i
    · exact up_e y
    · rw [up_n y]
      exact b1 k h1 (by omega)
  · rw [Ar_f, w5 k (fun t ht => ⟨⟨by omega, by omega⟩, by omega, by omega⟩), up_n (by omega)]
    exact b2 k (by omega)
  · rw [Ar_f]
    by_cases y1 : x = c + i
    · rw [y1]
      exact (w4 y (by omega)).1.1
    · by_cases y2 : y = c + i
      · rw [y2]
        exact (w4 x (by omega)).1.2
      · rw [w5 _ (fun t ht => ⟨⟨by omega, by omega⟩, by omega, by omega⟩), up_n (by omega)]
        exact b3 x y (by omega) (by omega) h3
  · rw [Ar_f, w5 _ (fun t ht => ⟨⟨by omega, by omega⟩, by omega, by omega⟩), up_n (by omega)]
    exact b4 x y h1 h2
  · rw [Ar_f]
    by_cases y1 : x = c + i
    · rw [y1]
      exact Or.inl (w4 y (by omega)).2.1
    · by_cases y2 : y = c + i
      · rw [y2]
        exact Or.inl (w4 x (by omega)).2.2
      · rw [w5 _ (fun t ht => ⟨⟨by omega, by omega⟩, by omega, by omega⟩), up_n (by omega)]
        exact b5 x y h1 h2
  · rw [Ar_f, w5 _ (fun t ht => ⟨⟨by omega, by omega⟩, by omega, by omega⟩), up_n (by omega)]
    exact b6 x y h1 h2
  · rw [Ar_f, w5 _ (fun t ht => ⟨⟨by omega, by omega⟩, by omega, by omega⟩), up_n (by omega)]
    exact b7 k h1
theorem w188_ar {F x1 x2 x3 : Int32} (h6 : c + r ≤ 6) : crM c h r (w188 q cq gc h r c F x1 x2 x3).2 := by
  have z := lp_in (f := fun i a => w188_81b q cq gc a r c x1 x2 x3 F i) (P := crM c h) r 0 h ⟨⟨rfl, fun k hk => absurd hk (Nat.not_lt_zero k), fun _ _ => rfl, fun _ _ => rfl⟩, fun k h1 h2 => by omega, fun _ _ => rfl, fun x y h1 h2 h3 => by omega, fun _ _ _ _ => rfl, fun _ _ _ _ => Or.inr rfl, fun _ _ _ _ => rfl, fun _ _ => rfl⟩ (fun k a _ hk z => crM_step (by omega) z)
  rw [Nat.zero_add] at z
  have z : crM c h r (w188_81 q cq gc r c x1 x2 x3 F r 0 h) := z
  have e : ∀ b, Ar (w188 q cq gc h r c F x1 x2 x3).2 b = Ar (w188_81 q cq gc r c x1 x2 x3 F r 0 h) b := fun b => by
    unfold w188 w190
    exact Ar_f.trans Ar_f
  unfold crM at z ⊢
  rw [e 164, e 165, e 170, e 173]
  exact z
/-- both sides are alike behind new COURTS -/
theorem crt_rel (h6 : c + N ≤ 6) {X M X' M' : pm_H} {f : Nat → Int32} (hx : crJ c X N X') (hm : crM c M N M') (hv : ∀ k, k < N → Ar X 6 (c + k) = f (7 * k) - nI 48 ∧ ∀ j, j < 5 → Ar X 7 (5 * (c + k) + j) = f (7 * k + 1 + j) - nI 48) (hw : ∀ k, k < N → ∀ j, j < 6 → Ar M 173 (6 * k + j) = f (7 * k + j) - nI 48 ∧ dgt (f (7 * k + j) - nI 48)) {d hd ha : Nat → Int32} {x m : Int32} (s : RS c gc (Ar X 14) (Ar X 15) d hd ha x m (Ar M 170)) (ri : RI c gc (Ar M 170)) : RS (c + N) gc (Ar X' 14) (Ar X' 15) d hd ha x m (Ar M' 170) ∧ RI (c + N) gc (Ar M' 170) ∧ ∀ k, k < N → (Ar X 6 (c + k) = Ar M' 164 (c + k) ∧ dgt (Ar M' 164 (c + k))) ∧ ∀ j, j < 5 → Ar X 7 ((c + k) * 5 + j) = Ar M' 165 (5 * (c + k) + j) := by
  obtain ⟨x1, x2, x3, x4⟩ := hx
  obtain ⟨⟨m1, m2, m3, m4⟩, b1, b2, b3, b4, b5, b6, b7⟩ := hm
  obtain ⟨s1, s2, s3, s4, s5, s6, s7⟩ := s
  obtain ⟨r1, r2, r3, r4, r5⟩ := ri
  have ten : 0 ≤ (nI 10).toInt ∧ (nI 10).toInt ≤ 20 := by decide
  have z42 : ∀ a b, a < 6 → b < 6 → Ar M' 170 (42 + 6 * a + b) = Ar M 170 (42 + 6 * a + b) := fun a b h1 h2 => by
    rcases b5 a b h1 h2 with e | e
    · by_cases y : c ≤ a ∨ c ≤ b
      · rw [e, (r3 a b h1 h2).2 (by omega)]
        rfl
      · exact b6 a b (by omega) (by omega)
    · exact e
  refine ⟨⟨fun k hk => ?_, fun a b h1 h2 h3 => ?_, fun a b h1 h2 => ?_, fun j hj => ?_, fun j hj => ?_, ?_, ?_⟩, ⟨fun k hk => ?_, fun a b h1 h2 h3 => ?_, fun a b h1 h2 => ?_, fun j hj => ?_, fun k h1 h2 => ?_⟩, fun k hk => ?_⟩
  · by_cases y : c ≤ k ∧ k < c + N
    · rw [x1 k y.1 y.2, b1 k y.1 y.2]
    · rw [x2 k (by omega), b2 k (by omega)]
      exact s1 k hk
  · by_cases y : c ≤ a ∨ c ≤ b
    · rw [x3 a b h1 h2 h3 y, b3 a b h1 h2 y]
    · rw [x4 a b (by omega) (by omega), b4 a b (by omega) (by omega)]
      exact s2 a b (by omega) (by omega) h3
  · rw [z42 a b h1 h2]
    exact s3 a b h1 h2
  · rw [b7 _ (by omega)]
    exact s4 j hj
  · rw [b7 _ (by omega)]
    exact s5 j hj
  · rw [b7 _ (by omega)]
    exact s6
  · rw [b7 _ (by omega)]
    exact s7
  · by_cases y : c ≤ k ∧ k < c + N
    · rw [b1 k y.1 y.2]
      decide
    · rw [b2 k (by omega)]
      exact r1 k hk
  · by_cases y : c ≤ a ∨ c ≤ b
    · rw [b3 a b h1 h2 y]
      exact ten
    · rw [b4 a b (by omega) (by omega)]
      exact r2 a b (by omega) (by omega) h3
  · rw [z42 a b h1 h2]
    exact ⟨(r3 a b h1 h2).1, fun y => (r3 a b h1 h2).2 (by omega)⟩
  · obtain ⟨w, hw, e⟩ := r4 j hj
    exact ⟨w, by omega, (b7 _ (by omega)).trans e⟩
  · rw [b7 _ (by omega)]
    exact r5 k h1 h2
  · obtain ⟨e1, e2⟩ := m2 k hk
    obtain ⟨f1, f2⟩ := hv k hk
    have g0 := hw k hk 0 (by omega)
    refine ⟨⟨?_, ?_⟩, fun j hj => ?_⟩
    · rw [f1, e1]
      exact g0.1.symm
    · rw [e1, show Ar M 173 (6 * k) = f (7 * k) - nI 48 from g0.1]
      exact g0.2
    · rw [e2 j hj, show (c + k) * 5 + j = 5 * (c + k) + j by omega, f2 j hj]
      have g1 := (hw k hk (1 + j) (by omega)).1
      rw [show 6 * k + 1 + j = 6 * k + (1 + j) by omega, g1, show 7 * k + 1 + j = 7 * k + (1 + j) by omega]
end CRL
