/-! one turn of the law: two calls keep what must be kept -/
section RND
variable {P : pm_St → Prop} {sl bS Ln i pc : Nat} {xs : Nat → Int32} {L : pm_L} {h : pm_H}
theorem rxQ_hi {h h' : pm_H} (q : ∀ i, 162 ≤ i → i ≠ 197 → h' i = h i) (p : rxQ h) : rxQ h' := by
  have m : ∀ g v, mF h g v → mF h' g v := fun g v ⟨fs, e, e1⟩ => ⟨fs, by rw [q 162 (by decide) (by decide)]; exact e, e1⟩
  obtain ⟨⟨n, dn, f, a1, a2, a3⟩, ⟨c, g, b1, b2, b3⟩, ⟨f1, r1, r2⟩, f2, r3, r4⟩ := p
  exact ⟨⟨n, dn, f, m _ _ a1, (q 174 (by decide) (by decide)).trans a2, a3⟩, ⟨c, g, m _ _ b1, m _ _ b2, b3⟩, ⟨f1, (q 178 (by decide) (by decide)).trans r1, r2⟩, f2, (q 196 (by decide) (by decide)).trans r3, r4⟩
theorem twX_inv {h h1 : pm_H} (hI : mInv h) (q : twX h h1) : mInv h1 := ⟨q.2, rxQ_hi (fun i _ z => q.1 i z) hI.2⟩
theorem cx_inv {h h1 : pm_H} (hI : mInv h) (q : fm cxF h h1) (hh : ah_ok bB 198 [] h1) : mInv h1 := ⟨hh, rxQ_hi (fun i hi _ => q.1 i (Nat.ble_eq_true_of_le hi)) hI.2⟩
theorem ty_0 (hh : ah_ok bB 198 [] h) : ∃ fs, h 0 = .inr (10, fs) := by
  have h0 : ac_ok (h 0) (bB 0) := hh 0 (by decide)
  have hb : ∃ as, bB 0 = .inr (10, as) := ⟨_, rfl⟩
  obtain ⟨as, hb⟩ := hb
  rw [hb] at h0
  cases e : h 0 with
  | inr q => obtain ⟨ci, fs⟩ := q; rw [e] at h0; obtain ⟨⟨rfl, -⟩, -⟩ := h0; exact ⟨fs, rfl⟩
  | inl q =>
    rw [e] at h0
    obtain ⟨kd, m, f | f | f | f | f⟩ := q
    · exact absurd h0.1 (by omega)
    · exact h0.elim
    · exact h0.elim
    · exact h0.elim
    · exact h0.elim
theorem ty_162 (hh : ah_ok bB 198 [] h) : ∃ fs, h 162 = .inr (11, fs) := by
  obtain ⟨v, ⟨fs, e, -⟩, -⟩ := ty_fld hh (g := 0) rfl
  exact ⟨fs, e⟩
theorem as_top : ∀ vs : List Int32, as_ok (vs.map Value.int) (List.replicate vs.length ai_top)
  | [] => trivial
  | v :: vs => ⟨ai_top_ok v, as_top vs⟩
def cx_int (c : con) (n : Nat) : Bool := decide (c.2.1 = (2, 0, 1) :: List.replicate n ai_top) && (decide (c.2.2.1 = []) && (c.2.2.2.1.all (fun a => match a with
  | some b => Nat.beq b.1 0
  | none => false) && (decide (c.2.2.2.2.1 = []) && (Nat.ble c.2.2.2.2.2.1 2047 && (Nat.ble c.2.2.2.2.2.2.1 60000 && (!c.2.2.2.2.2.2.2 && Nat.ble (pm_max PT c.1) 1000))))))
theorem op_pair (H : lc_Cl 198 sl bS Ln xs P) {n kx km pe : Nat} (hc : lc_twp pc n kx km pe = true) (hL : lc_L bS i L) (hb : i + 1 + n ≤ Ln) (hI : mInv h) {c : con} (hx : con_ok PT bB 198 cxF cxQ c) (ek : c.1 = kx) (ec : cx_int c n = true) {A : Option Value → Prop} (hA : ∀ v, A v → ∃ x : Int32, v = some (.int x)) (hm : ∀ h1, mInv h1 → pm_WP PT 2047 (84000 - (19 + pm_max PT km)) km (0, pm_l0 (.ref 162 :: (lc_vals xs i n 1).map Value.int) (pm_max PT km), [], h1, 198, sl) (mPost A h1 sl)) (kk : ∀ h2, mInv h2 → P (pe, L, [], h2, 198, sl)) : P (pc, L, [], h, 198, sl) := by
  subst ek
  unfold cx_int at ec
  simp only [Bool.and_eq_true] at ec
  obtain ⟨e1, e2, e3, e4, e5, e6, e7, e8⟩ := ec
  have e1 := of_decide_eq_true e1
  have e2 := of_decide_eq_true e2
  have e4 := of_decide_eq_true e4
  have e5 := Nat.le_of_ble_eq_true e5
  have e6 := Nat.le_of_ble_eq_true e6
  have e8 := Nat.le_of_ble_eq_true e8
  have e7 : c.2.2.2.2.2.2.2 = false := by simpa using e7
  obtain ⟨f1, o1⟩ := ty_0 hI.1
  have hlen := lc_vals_len xs i n 1
  refine lc_twp_ok H hc hL hb (by decide) o1 (wp_mono (hx (.ref 0 :: (lc_vals xs i n 1).map Value.int) h 2047 (84000 - (19 + pm_max PT c.1)) sl ?_ ?_ trivial e5 (by omega)) ?_)
  · rw [e1]
    refine ⟨⟨rfl, List.mem_singleton_self _⟩, ?_⟩
    have := as_top (lc_vals xs i n 1)
    rw [hlen] at this
    exact this
  · rw [e2]; exact hI.1
  · rintro ⟨rv, h1, s1⟩ ⟨⟨a, ha, hv⟩, q1, ⟨q2, -⟩, q3⟩
    rw [e7, e4] at q3
    dsimp only [cond] at hv q1 q2 q3
    cases q1
    have hI1 := cx_inv hI q2 q3
    refine ⟨rfl, ?_, ty_162 hI1.1, wp_mono (hm h1 hI1) ?_⟩
    · have ea := List.all_eq_true.mp e3 a ha
      cases a with
      | none => cases ea
      | some b =>
        cases rv with
        | none => exact hv.elim
        | some v =>
          obtain ⟨x, rfl, -⟩ := av_int (Nat.eq_of_beq_eq_true ea) hv
          exact ⟨x, rfl⟩
    · rintro ⟨rv2, h2, s2⟩ ⟨p1, p2, p3, p4⟩
      dsimp only at p1 p2 p4
      cases p2
      exact ⟨hA _ p1, rfl, kk h2 p4⟩
end RND
