/-! one turn of the law: two calls keep what must be kept -/
section RND
variable {P : pm_St → Prop} {sl bS Ln i pc : Nat} {xs : Nat → Int32} {L : pm_L} {h : pm_H}
theorem rxQ_hi {h h' : pm_H} (q : ∀ i, 162 ≤ i → i ≠ 197 → h' i = h i) (p : rxQ h) : rxQ h' := by
  have m : ∀ g v, mF h g v → mF h' g v := fun g v ⟨fs, e, e1⟩ => ⟨fs, by rw [q 162 (by decide) (by decide)]; exact e, e1⟩
  obtain ⟨⟨n, dn, f, a1, a2, a3⟩, ⟨c, g, b1, b2, b3⟩, ⟨f1, r1, r2⟩, f2, r3, r4⟩ := p
  exact ⟨⟨n, dn, f, m _ _ a1, (q 174 (by decide) (by decide)).trans a2, a3⟩, ⟨c, g, m _ _ b1, m _ _ b2, b3⟩, ⟨f1, (q 178 (by decide) (by decide)).trans r1, r2⟩, f2, (q 196 (by decide) (by decide)).trans r3, r4⟩
theorem twX_inv {h h1 : pm_H} (hI : mInv h) (q : twX h h1) : mInv h1 := ⟨q.2, rxQ_hi (fun i _ z => q.1 i z) hI.2⟩
theorem cx_inv {h h1 : pm_H} (hI : mInv h) (q : fm cxF h h1) (hh : ah_ok bB 198 [] h1) : mInv h1 := ⟨hh, rxQ_hi (fun i hi _ => q.1 i (Nat.ble_eq_true_of_le hi)) hI.2⟩
theorem ty_0 (hh : ah_ok bB 198 [] h) : ∃ fs, h 0 = .inr (10, fs) := by
  have h0 : ac_ok (h 0) (bB 0) := hh 0 (by decide)
  have hb : ∃ as, bB 0 = .inr (10, as) := ⟨_, rfl⟩
  obtain ⟨as, hb⟩ := hb
  rw [hb] at h0
  cases e : h 0 with
  | inr q => obtain ⟨ci, fs⟩ := q; rw [e] at h0; obtain ⟨⟨rfl, -⟩, -⟩ := h0; exact ⟨fs, rfl⟩
  | inl q =>
    rw [e] at h0
    obtain ⟨kd, m, f | f | f | f | f⟩ := q
    · exact absurd h0.1 (by omega)
    · exact h0.elim
    · exact h0.elim
    · exact h0.elim
    · exact h0.elim
theorem ty_162 (hh : ah_ok bB 198 [] h) : ∃ fs, h 162 = .inr (11, fs) := by
  obtain ⟨v, ⟨fs, e, -⟩, -⟩ := ty_fld hh (g := 0) rfl
  exact ⟨fs, e⟩
theorem as_top : ∀ vs : List Int32, as_ok (vs.map Value.int) (List.replicate vs.length ai_top)
  | [] => trivial
  | v :: vs => ⟨ai_top_ok v, as_top vs⟩
def cx_int (c : con) (n : Nat) : Bool := decide (c.2.1 = (2, 0, 1) :: List.replicate n ai_top) && (decide (c.2.2.1 = []) && (c.2.2.2.1.all (fun a => match a with
  | some b => Nat.beq b.1 0
  | none => false) && (decide (c.2.2.2.2.1 = []) && (Nat.ble c.2.2.2.2.2.1 2047 && (Nat.ble c.2.2.2.2.2.2.1 60000 && (!c.2.2.2.2.2.2.2 && Nat.ble (pm_max PT c.1) 1000))))))
end RND
