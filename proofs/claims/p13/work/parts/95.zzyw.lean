/-! what can be undone: a state is put by on both sides, taken back -/
section PST
variable {cc gc b s t u fi si : Nat} {q : QT} {h h' h2 : pm_H} {r r' g g' e e' d d' hd hd' ha ha' : Nat → Int32} {x m v : Int32}
theorem RS_cg (h6 : cc ≤ 6) (h8 : gc ≤ 8) (z : ∀ k, k < 96 → r' k = r k) (w : RS cc gc g e d hd ha x m r) : RS cc gc g e d hd ha x m r' := by
  obtain ⟨s1, s2, s3, s4, s5, s6, s7⟩ := w
  exact ⟨fun c hc => (s1 c hc).trans (z c (by omega)).symm, fun a b ha hb hn => (s2 a b ha hb hn).trans (z _ (by omega)).symm, fun a b ha hb => (s3 a b ha hb).trans (z _ (by omega)).symm, fun j hj => (s4 j hj).trans (z _ (by omega)).symm, fun j hj => (s5 j hj).trans (z _ (by omega)).symm, s6.trans (z 94 (by decide)).symm, s7.trans (z 95 (by decide)).symm⟩
theorem RI_cg (h6 : cc ≤ 6) (h8 : gc ≤ 8) (z : ∀ k, k < 96 → r' k = r k) (w : RI cc gc r) : RI cc gc r' := by
  obtain ⟨s1, s2, s3, s4, s5⟩ := w
  refine ⟨fun c hc => ?_, fun a b ha hb hn => ?_, fun a b ha hb => ?_, fun j hj => ?_, fun k hk hk2 => ?_⟩
  · rw [z c (by omega)]
    exact s1 c hc
  · rw [z _ (by omega)]
    exact s2 a b ha hb hn
  · rw [z _ (by omega)]
    exact s3 a b ha hb
  · rw [z _ (by omega)]
    exact s4 j hj
  · rw [z 94 (by decide)]
    exact s5 k hk hk2
theorem RS_sg (h6 : cc ≤ 6) (h8 : gc ≤ 8) (z1 : ∀ k, k < 6 → g' k = g k) (z2 : ∀ k, k < 36 → e' k = e k) (z3 : ∀ k, k < 36 → d' k = d k) (z4 : ∀ k, k < 8 → hd' k = hd k) (z5 : ∀ k, k < 8 → ha' k = ha k) (w : RS cc gc g e d hd ha x m r) : RS cc gc g' e' d' hd' ha' x m r := by
  obtain ⟨s1, s2, s3, s4, s5, s6, s7⟩ := w
  exact ⟨fun c hc => (z1 c hc).trans (s1 c hc), fun a b ha hb hn => (z2 _ (by omega)).trans (s2 a b ha hb hn), fun a b ha hb => (z3 _ (by omega)).trans (s3 a b ha hb), fun j hj => (z4 j (by omega)).trans (s4 j hj), fun j hj => (z5 j (by omega)).trans (s5 j hj), s6, s7⟩
theorem RSb_e (z : ∀ i, b ≤ i → i < b + 6 → h' i = h i) (w : RSb cc gc b h r) : RSb cc gc b h' r := by
  unfold RSb
  rw [Ar_e (z (b + 1) (by omega) (by omega)), Ar_e (z (b + 2) (by omega) (by omega)), Ar_e (z (b + 3) (by omega) (by omega)), Ar_e (z (b + 4) (by omega) (by omega)), Ar_e (z (b + 5) (by omega) (by omega)), Fi_e (z b (by omega) (by omega)), Fi_e (z b (by omega) (by omega))]
  exact w
theorem RSb_cp (h6 : cc ≤ 6) (h8 : gc ≤ 8) (hs : isSt s = true) (hw : WT h) (w : RSb cc gc t h r) : RSb cc gc s (cp73 h s t) r := by
  unfold RSb
  rw [(cp73_f hs hw).1, (cp73_f hs hw).2]
  exact RS_sg h6 h8 (fun k hk => cp73_a (Or.inl ⟨rfl, rfl⟩) hk) (fun k hk => cp73_a (Or.inr (Or.inl ⟨rfl, rfl⟩)) hk) (fun k hk => cp73_a (Or.inr (Or.inr (Or.inl ⟨rfl, rfl⟩))) hk) (fun k hk => cp73_a (Or.inr (Or.inr (Or.inr (Or.inl ⟨rfl, rfl⟩)))) hk) (fun k hk => cp73_a (Or.inr (Or.inr (Or.inr (Or.inr ⟨rfl, rfl⟩)))) hk) w
/-- the reference puts the row now by -/
theorem v211_ar : Ar (v211 q cc gc h u) 170 = Ar h 170 ∧ (∀ k, k < 96 → Ar (v211 q cc gc h u) 178 (96 * u + k) = Ar h 170 k) ∧ ∀ x, (x < 96 * u ∨ 96 * u + 96 ≤ x) → Ar (v211 q cc gc h u) 178 x = Ar h 178 x := by
  have z := lp_in (f := fun i a => v211_2b q cc gc a u i) (P := fun i a => Ar a 170 = Ar h 170 ∧ (∀ k, k < i → Ar a 178 (96 * u + k) = Ar h 170 k) ∧ ∀ x, (x < 96 * u ∨ 96 * u + i ≤ x) → Ar a 178 x = Ar h 178 x) 96 0 h ⟨rfl, fun k hk => absurd hk (by omega), fun x _ => rfl⟩ (by
    intro k a _ _ p
    obtain ⟨p1, p2, p3⟩ := p
    refine ⟨?_, fun j hj => ?_, fun x hx => ?_⟩
    · show Ar (aset a 178 1536 (upd (Ar a 178) (96 * u + k) ((Ar a 170) k))) 170 = _
      rw [Ar_n (by decide)]
      exact p1
    · show Ar (aset a 178 1536 (upd (Ar a 178) (96 * u + k) ((Ar a 170) k))) 178 (96 * u + j) = _
      rw [Ar_s]
      by_cases y : j = k
      · rw [y, up_e rfl, p1]
      · rw [up_n (by omega)]
        exact p2 j (by omega)
    · show Ar (aset a 178 1536 (upd (Ar a 178) (96 * u + k) ((Ar a 170) k))) 178 x = _
      rw [Ar_s, up_n (by omega)]
      exact p3 x (by omega))
  exact ⟨z.1, fun k hk => z.2.1 k (by omega), fun x hx => z.2.2 x (by omega)⟩
theorem v212_s (y : Int32) : Ar (v212_21 q cc gc y 1440 0 h) 170 = Ar h 170 ∧ (∀ x, x < 1440 → Ar (v212_21 q cc gc y 1440 0 h) 178 x = Ar h 178 (x + 96)) := by
  have z := lp_in (f := fun i a => v212_21b q cc gc a y i) (P := fun i a => Ar a 170 = Ar h 170 ∧ (∀ x, x < i → Ar a 178 x = Ar h 178 (x + 96)) ∧ ∀ x, i ≤ x → Ar a 178 x = Ar h 178 x) 1440 0 h ⟨rfl, fun x hx => absurd hx (by omega), fun x _ => rfl⟩ (by
    intro k a _ _ p
    obtain ⟨p1, p2, p3⟩ := p
    refine ⟨?_, fun j hj => ?_, fun x hx => ?_⟩
    · show Ar (aset a 178 1536 (upd (Ar a 178) k ((Ar a 178) (k + 96)))) 170 = _
      rw [Ar_n (by decide)]
      exact p1
    · show Ar (aset a 178 1536 (upd (Ar a 178) k ((Ar a 178) (k + 96)))) 178 j = _
      rw [Ar_s]
      by_cases y : j = k
      · rw [y, up_e rfl]
        exact p3 _ (by omega)
      · rw [up_n y]
        exact p2 j (by omega)
    · show Ar (aset a 178 1536 (upd (Ar a 178) k ((Ar a 178) (k + 96)))) 178 x = _
      rw [Ar_s, up_n (by omega)]
      exact p3 x (by omega))
  exact ⟨z.1, fun x hx => z.2.1 x (by omega)⟩
/-- an act is counted -/
theorem v212_ar (hw : HC q cc gc h) (hu : u ≤ 15) : Fi (v212 q cc gc h u v).2 162 27 = nI (min (u + 1) 15) ∧ Ar (v212 q cc gc h u v).2 170 = Ar h 170 ∧ (u < 15 → Ar (v212 q cc gc h u v).2 178 = Ar h 178) ∧ (u = 15 → ∀ x, x < 1440 → Ar (v212 q cc gc h u v).2 178 x = Ar h 178 (x + 96)) := by
  unfold v212
  by_cases y : u + 1 ≤ 15
  · rw [decide_eq_true y]
    show Fi (fset h 162 27 (.int (nI (u + 1)))) 162 27 = nI (min (u + 1) 15) ∧ Ar (fset h 162 27 (.int (nI (u + 1)))) 170 = Ar h 170 ∧ (u < 15 → Ar (fset h 162 27 (.int (nI (u + 1)))) 178 = Ar h 178) ∧ (u = 15 → ∀ x, x < 1440 → Ar (fset h 162 27 (.int (nI (u + 1)))) 178 x = Ar h 178 (x + 96))
    refine ⟨?_, Ar_f, fun _ => Ar_f, fun z => absurd z (by omega)⟩
    rw [Fi_s hw.wt (by decide) rfl (by decide) rfl, show min (u + 1) 15 = u + 1 by omega]
  · rw [decide_eq_false y]
    have hu2 : u = 15 := by omega
    subst hu2
    have w1 : HC q cc gc (fset h 162 27 (.int (nI (15 + 1)))) := hc_f rfl rfl (by decide) rfl hw
    have w2 := (v212_21_fr (t1 := v) (j := 1440) (i := 0) w1).1
    obtain ⟨a1, a2⟩ := v212_s (q := q) (cc := cc) (gc := gc) (h := fset h 162 27 (.int (nI (15 + 1)))) v
    show Fi (fset (v212_21 q cc gc v 1440 0 (fset h 162 27 (.int (nI (15 + 1))))) 162 27 (.int ((nI (15 + 1)) - (nI 1)))) 162 27 = nI (min (15 + 1) 15) ∧ Ar (fset (v212_21 q cc gc v 1440 0 (fset h 162 27 (.int (nI (15 + 1))))) 162 27 (.int ((nI (15 + 1)) - (nI 1)))) 170 = Ar h 170 ∧ (15 < 15 → Ar (fset (v212_21 q cc gc v 1440 0 (fset h 162 27 (.int (nI (15 + 1))))) 162 27 (.int ((nI (15 + 1)) - (nI 1)))) 178 = Ar h 178) ∧ (15 = 15 → ∀ x, x < 1440 → Ar (fset (v212_21 q cc gc v 1440 0 (fset h 162 27 (.int (nI (15 + 1))))) 162 27 (.int ((nI (15 + 1)) - (nI 1)))) 178 x = Ar h 178 (x + 96))
    generalize v212_21 q cc gc v 1440 0 (fset h 162 27 (.int (nI (15 + 1)))) = G at w2 a1 a2 ⊢
    refine ⟨?_, ?_, fun z => absurd z (by omega), fun _ x hx => ?_⟩
    · rw [Fi_s w2.wt (by decide) rfl (by decide) rfl]
      decide
    · rw [Ar_f, a1, Ar_f]
    · rw [Ar_f, a2 x hx, Ar_f]
/-- a state is put by -/
theorem pa_push (h6 : cc ≤ 6) (h8 : gc ≤ 8) (hw : WT h) (hfi : fi < 16) (hsi : si ≤ 15) (pa : ∀ j, j < si → RSb cc gc (27 + 6 * ((fi + j) % 16)) h (fun k => Ar h 178 (96 * j + k)) ∧ RI cc gc (fun k => Ar h 178 (96 * j + k))) (s13 : RSb cc gc 13 h r) (ri : RI cc gc r) (cx : ∀ i, 27 ≤ i → i < 123 → h2 i = cp73 h (27 + 6 * ((fi + si) % 16)) 13 i) (f1 : Fi h2 25 1 = nI (if 15 ≤ si then (fi + 1) % 16 else fi)) (f2 : Fi h2 25 2 = nI (min (si + 1) 15)) (f3 : Fi h2 162 27 = nI (min (si + 1) 15)) (rows : ∀ j, j < min (si + 1) 15 → ∀ k, k < 96 → Ar h2 178 (96 * j + k) = if 15 ≤ si then (if j = 14 then r k else Ar h 178 (96 * (j + 1) + k)) else (if j = si then r k else Ar h 178 (96 * j + k))) : PA cc gc h2 := by
  have new : ∀ (rr : Nat → Int32), (∀ k, k < 96 → rr k = r k) → RSb cc gc (27 + 6 * ((fi + si) % 16)) h2 rr ∧ RI cc gc rr := by
    intro rr e
    refine ⟨RS_cg h6 h8 e (RSb_e (fun i h1 h2 => cx i (by omega) (by omega)) (RSb_cp h6 h8 (xst_27 (Nat.mod_lt _ (by decide))) hw s13)), RI_cg h6 h8 e ri⟩
  have old : ∀ (j : Nat) (rr : Nat → Int32), j < si → (fi + j) % 16 ≠ (fi + si) % 16 → (∀ k, k < 96 → rr k = Ar h 178 (96 * j + k)) → RSb cc gc (27 + 6 * ((fi + j) % 16)) h2 rr ∧ RI cc gc rr := by
    intro j rr hj ne e
    obtain ⟨p1, p2⟩ := pa j hj
    refine ⟨RS_cg h6 h8 e (RSb_e (fun i h1 h2 => ?_) p1), RI_cg h6 h8 e p2⟩
    rw [cx i (by omega) (by omega)]
    exact cp73_ne (by omega)
  by_cases z : 15 ≤ si
  · have hs : si = 15 := by omega
    refine ⟨(fi + 1) % 16, 15, Nat.mod_lt _ (by decide), Nat.le_refl _, ⟨?_, ?_, ?_⟩, fun j hj => ?_⟩
    · rw [f1, if_pos z]
    · rw [f2, show min (si + 1) 15 = 15 by omega]
    · rw [f3, show min (si + 1) 15 = 15 by omega]
    · have rw1 := rows j (by omega)
      have rw1 : ∀ k, k < 96 → Ar h2 178 (96 * j + k) = if j = 14 then r k else Ar h 178 (96 * (j + 1) + k) := fun k hk => (rw1 k hk).trans (if_pos z)
      by_cases y : j = 14
      · rw [show ((fi + 1) % 16 + j) % 16 = (fi + si) % 16 by omega]
        refine new _ (fun k hk => ?_)
        have e := rw1 k hk
        rw [if_pos y] at e
        exact e
      · rw [show ((fi + 1) % 16 + j) % 16 = (fi + (j + 1)) % 16 by omega]
        refine old (j + 1) _ (by omega) (by omega) (fun k hk => ?_)
        have e := rw1 k hk
        rw [if_neg y] at e
        exact e
  · refine ⟨fi, si + 1, hfi, by omega, ⟨?_, ?_, ?_⟩, fun j hj => ?_⟩
    · rw [f1, if_neg z]
    · rw [f2, show min (si + 1) 15 = si + 1 by omega]
    · rw [f3, show min (si + 1) 15 = si + 1 by omega]
    · have rw1 := rows j (by omega)
      have rw1 : ∀ k, k < 96 → Ar h2 178 (96 * j + k) = if j = si then r k else Ar h 178 (96 * j + k) := fun k hk => (rw1 k hk).trans (if_neg z)
      by_cases y : j = si
      · rw [y]
        refine new _ (fun k hk => ?_)
        have e := rw1 k hk
        rw [if_pos y] at e
        rw [← y]
        exact e
      · refine old j _ (by omega) (by omega) (fun k hk => ?_)
        have e := rw1 k hk
        rw [if_neg y] at e
        exact e
end PST
