/-! the pure reader looks at the text alone -/
section ZRC
variable {f g : Nat → Int32} {t : Nat}
theorem dg_cg (hf : ∀ j, j < t → f j = g j) (p : Nat) : dg f p t = dg g p t := by
  unfold dg
  by_cases z : p < t
  · rw [hf p z]
  · rw [decide_eq_false z, Bool.false_and, Bool.false_and]
theorem eq_cg (hf : ∀ j, j < t → f j = g j) (p : Nat) (c : Int32) : decide (p < t ∧ f p = c) = decide (p < t ∧ g p = c) := by
  by_cases z : p < t
  · rw [hf p z]
  · rw [decide_eq_false (fun q => z q.1), decide_eq_false (fun q => z q.1)]
theorem an_cg {b : Int32 → Bool} (hf : ∀ j, j < t → f j = g j) (p : Nat) : (decide (p < t) && b (f p)) = (decide (p < t) && b (g p)) := by
  by_cases z : p < t
  · rw [hf p z]
  · rw [decide_eq_false z, Bool.false_and, Bool.false_and]
theorem zmi_cg (hf : ∀ j, j < t → f j = g j) : ∀ (k p : Nat), zmi f t k p = zmi g t k p
  | 0, _ => rfl
  | k + 1, p => by
    show cond (decide (p < t ∧ f p = nI 45)) (zmi f t k (p + 1)) p = cond (decide (p < t ∧ g p = nI 45)) (zmi g t k (p + 1)) p
    rw [eq_cg hf, zmi_cg hf k]
theorem znb_cg (hf : ∀ j, j < t → f j = g j) : ∀ (k p : Nat), znb f t k p = znb g t k p
  | 0, _ => rfl
  | k + 1, p => by
    show cond (dg f p t) (znb f t k (p + 1)) p = cond (dg g p t) (znb g t k (p + 1)) p
    rw [dg_cg hf, znb_cg hf k]
theorem zlp_cg {st : Nat → Bool × Nat} {o : Nat} (hf : ∀ j, j < t → f j = g j) : ∀ (k p : Nat), zlp st f t o k p = zlp st g t o k p
  | 0, _ => rfl
  | k + 1, p => by
    show cond (decide (p < t) && zlev o (f p)) (cond (st (p + 1)).1 (zlp st f t o k (st (p + 1)).2) (false, (st (p + 1)).2)) (true, p) = cond (decide (p < t) && zlev o (g p)) (cond (st (p + 1)).1 (zlp st g t o k (st (p + 1)).2) (false, (st (p + 1)).2)) (true, p)
    rw [an_cg (b := zlev o) hf, zlp_cg hf k]
theorem zth_cg {st : Nat → Bool × Nat} {ns : Nat} (hf : ∀ j, j < t → f j = g j) (q : Nat) : zth st f t ns q = zth st g t ns q := by
  unfold zth
  rw [dg_cg hf, znb_cg hf, an_cg (b := zlet) hf, eq_cg hf q, eq_cg hf (st (q + 1)).2]
theorem pz_cg (hf : ∀ j, j < t → f j = g j) : ∀ (m o ns : Nat), pz f t m o ns = pz g t m o ns
  | 0, _, _ => rfl
  | m + 1, o, ns => by
    funext p
    show cond (Nat.ble 3 o) (zth (pz f t m 0 (ns + 1)) f t ns (zmi f t 40 p)) (cond (pz f t m (o + 1) ns p).1 (zlp (pz f t m (o + 1) ns) f t o (cond (Nat.beq o 0) 1 40) (pz f t m (o + 1) ns p).2) (false, (pz f t m (o + 1) ns p).2)) = cond (Nat.ble 3 o) (zth (pz g t m 0 (ns + 1)) g t ns (zmi g t 40 p)) (cond (pz g t m (o + 1) ns p).1 (zlp (pz g t m (o + 1) ns) g t o (cond (Nat.beq o 0) 1 40) (pz g t m (o + 1) ns p).2) (false, (pz g t m (o + 1) ns p).2))
    rw [pz_cg hf m 0 (ns + 1), pz_cg hf m (o + 1) ns, zth_cg hf, zmi_cg hf, zlp_cg hf]
end ZRC
/-! rule of both sides -/
section ZRR
variable {n fr lo sl n0 cc o : Nat} {h h1 h2 : pm_H} {R : pm_Rs} {f tp : Nat → Int32} {v w : Int32}
/-- where the class's reader finds a fault -/
def zF (f : Nat → Int32) (n0 : Nat) : Int32 := if n0 = 0 then Int32.ofInt (-1) else cond ((pz f (min n0 40) 20 0 0 0).1 && decide ((pz f (min n0 40) 20 0 0 0).2 = n0)) (Int32.ofInt (-1)) (nI (pz f (min n0 40) 20 0 0 0).2)
def zA (f : Nat → Int32) (n0 : Nat) : Int32 := if n0 = 0 then Int32.ofInt 0 else cond ((pz f (min n0 40) 20 0 0 0).1 && decide ((pz f (min n0 40) 20 0 0 0).2 = n0)) (Int32.ofInt 0) (Int32.ofInt (-1) - nI (pz f (min n0 40) 20 0 0 0).2)
theorem qX_sz {p : Nat} {w : Value} {rs : List Value} (ho : oOk o) (e : h o = .inr (6, rs)) (q : qX h o p n0 cc f) : qX (va_up h o (.inr (6, rs.set 1 w))) o p n0 cc f := by
  obtain ⟨⟨rs', e1, e2, e3⟩, ⟨fs, a1, a2⟩, ⟨gs, b1, b2⟩, c1, ss, d1, d2⟩ := q
  rw [e] at e1
  cases e1
  have ne : ∀ a, a ≠ o → va_up h o (.inr (6, rs.set 1 w)) a = h a := fun a z => by simp [va_up, z]
  refine ⟨⟨rs.set 1 w, by simp [va_up], ?_, ?_⟩, ⟨fs, (ne 0 (Ne.symm ho.2.1)).trans a1, a2⟩, ⟨gs, (ne 1 (Ne.symm ho.2.2.1)).trans b1, b2⟩, (ne 2 (Ne.symm ho.2.2.2.1)).trans c1, ss, (ne 5 (Ne.symm ho.2.2.2.2)).trans d1, d2⟩
  · rw [List.getElem?_set_ne (by decide)]
    exact e2
  · rw [List.getElem?_set_ne (by decide)]
    exact e3
theorem hI_ne2 {a b : Nat} (ha : a < 2 ^ 31) (hb : b < 2 ^ 31) : pm_cmp .ne (nI a) (nI b) = decide (¬ a = b) := by
  simp only [pm_cmp]
  rw [decide_eq_decide]
  refine not_congr ⟨fun e => ?_, fun e => by rw [e]⟩
  have e := congrArg Int32.toInt e
  rw [nI_toInt ha, nI_toInt hb] at e
  omega
theorem ty_ru {a : Nat} {as : List av} {b1 b5 : av} (hh : ah_ok bB 198 [] h) (ha : a < 198) (hb : bB a = .inr (6, as)) (h4 : as[4]? = some (2, ((1 : Nat) : Int), 1)) (h1 : as[1]? = some b1) (z1 : b1.1 = 0) (h5 : as[5]? = some b5) (z5 : b5.1 = 0) : ∃ (rs : List Value) (w5 s1 : Int32), h a = .inr (6, rs) ∧ rs[4]? = some (.ref 1) ∧ rs[5]? = some (.int w5) ∧ rs[1]? = some (.int s1) := by
  have h0 : ac_ok (h a) (bB a) := hh a ha
  rw [hb] at h0
  obtain ⟨rs, e, hl, hv⟩ := aE_obj h0 (by decide)
  have g4 := ty_or hh ha hb (by decide) h4 rfl e
  have l1 : 1 < rs.length := by rw [hl]; exact (List.getElem?_eq_some_iff.mp h1).1
  have l5 : 5 < rs.length := by rw [hl]; exact (List.getElem?_eq_some_iff.mp h5).1
  obtain ⟨x1, q1, -⟩ := av_int z1 (hv 1 _ _ (List.getElem?_eq_getElem l1) h1)
  obtain ⟨x5, q5, -⟩ := av_int z5 (hv 5 _ _ (List.getElem?_eq_getElem l5) h5)
  exact ⟨rs, x5, x1, e, g4, by rw [List.getElem?_eq_getElem l5, q5], by rw [List.getElem?_eq_getElem l1, q1]⟩
end ZRR
