/-! the turn that compares -/
section RST
variable {P : pm_St → Prop} {sz sl bS Ln i pc : Nat} {xs : Nat → Int32} {L : pm_L} {S : List Value} {h : pm_H}
/-- two calls, compared -/
def lc_two (pc n kx km pe : Nat) : Bool := lc_al pc 1 && (lc_args (pc + 1) n 1 && (lc_iv (pc + 1 + 6 * n) kx n 10 && (lc_al (pc + 4 + 6 * n) 2 && (lc_args (pc + 5 + 6 * n) n 1 && (lc_iv (pc + 5 + 12 * n) km n 11 && (lc_eq (pc + 8 + 12 * n) pe && (decide (pm_ret PT kx = some .int ∨ pm_ret PT kx = some .boolean))))))))
theorem lc_two_ok (H : lc_Cl sz sl bS Ln xs P) {n kx km pe : Nat} (hc : lc_two pc n kx km pe = true) (hL : lc_L bS i L) (hb : i + 1 + n ≤ Ln) (hz : 162 < sz) {f1 f2 : List Value} (o1 : h 0 = .inr (10, f1)) (o2 : h 162 = .inr (11, f2))
    (kk : pm_WP PT 2047 (84000 - (19 + pm_max PT kx)) kx (0, pm_l0 (.ref 0 :: (lc_vals xs i n 1).map Value.int) (pm_max PT kx), [], h, sz, sl) (fun x => x.2.2 = (sz, sl) ∧ ∃ v, x.1 = some v ∧ pm_WP PT 2047 (84000 - (19 + pm_max PT km)) km (0, pm_l0 (.ref 162 :: (lc_vals xs i n 1).map Value.int) (pm_max PT km), [], x.2) (fun y => y.1 = some v ∧ y.2.2 = (sz, sl) ∧ P (pe, L, [], y.2)))) : P (pc, L, [], h, sz, sl) := by
  unfold lc_two at hc
  simp only [Bool.and_eq_true] at hc
  obtain ⟨c1, c2, c3, c4, c5, c6, c7, c8⟩ := hc
  have hty := of_decide_eq_true c8
  obtain ⟨l0, l1, l2, l3, l4, l5⟩ := hL
  refine lc_al_ok H c1 l1 rfl (lc_args_ok H l0 l4 n 1 _ _ c2 hb ?_)
  refine lc_iv_ok H c3 o1 (by omega) (lc_vals_len xs i n 1) (by decide) (wp_mono (wp_int hty (wp_keep kk)) ?_)
  rintro ⟨rv, h1, sz1, sl1⟩ ⟨⟨⟨q1, v, q2, q3⟩, q4⟩, w, q5⟩
  cases q1
  dsimp only at q2 q3 q4 q5
  subst q2
  cases q5
  refine ⟨rfl, ?_⟩
  obtain ⟨f2', o2'⟩ := q4 162 hz _ _ o2
  show P (pc + 1 + 6 * n + 3, L, [.int w], h1, sz, sl)
  rw [show pc + 1 + 6 * n + 3 = pc + 4 + 6 * n by omega]
  refine lc_al_ok H c4 l2 rfl ?_
  rw [show pc + 4 + 6 * n + 1 = pc + 5 + 6 * n by omega]
  refine lc_args_ok H l0 l4 n 1 _ _ c5 hb ?_
  rw [show pc + 5 + 6 * n + 6 * n = pc + 5 + 12 * n by omega]
  refine lc_iv_ok H c6 o2' hz (lc_vals_len xs i n 1) (by show (1 : Nat) + 0 ≤ 8; omega) (wp_mono q3 ?_)
  rintro ⟨rv2, h2, sz2, sl2⟩ ⟨p1, p2, p3⟩
  dsimp only at p1 p2 p3
  cases p2
  subst p1
  refine ⟨rfl, ?_⟩
  show P (pc + 5 + 12 * n + 3, L, [.int w, .int w], h2, sz, sl)
  rw [show pc + 5 + 12 * n + 3 = pc + 8 + 12 * n by omega]
  exact lc_eq_ok H c7 p3
theorem rs_turn : rsTurn sl bS Ln xs := by
  intro P i L h H hL hi hI kk
  obtain ⟨f1, o1⟩ := ty_0 hI.1.1
  obtain ⟨f2, o2⟩ := ty_162 hI.1.1
  refine lc_two_ok H (n := 1) (kx := 87) (km := 179) (pe := 1443) (by decide +kernel) hL (by omega) (by decide) o1 o2 (wp_mono (en_two hI (xs (i + 1))) ?_)
  rintro ⟨rv, h1, s1⟩ ⟨q1, v, q2, -, q4⟩
  cases q1
  refine ⟨rfl, .int v, q2, wp_mono q4 ?_⟩
  rintro ⟨rv2, h2, s2⟩ ⟨p1, p2, p3⟩
  cases p2
  exact ⟨p1, rfl, kk h2 p3⟩
end RST
