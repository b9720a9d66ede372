section MG95zzywx0
/-! what can be undone: a state is put by on both sides, taken back -/
section PST
variable {cc gc b s t u fi si : Nat} {q : QT} {h h' h2 : pm_H} {r r' g g' e e' d d' hd hd' ha ha' : Nat → Int32} {x m v : Int32}
theorem RS_cg (h6 : cc ≤ 6) (h8 : gc ≤ 8) (z : ∀ k, k < 96 → r' k = r k) (w : RS cc gc g e d hd ha x m r) : RS cc gc g e d hd ha x m r' := by
  obtain ⟨s1, s2, s3, s4, s5, s6, s7⟩ := w
  exact ⟨fun c hc => (s1 c hc).trans (z c (by omega)).symm, fun a b ha hb hn => (s2 a b ha hb hn).trans (z _ (by omega)).symm, fun a b ha hb => (s3 a b ha hb).trans (z _ (by omega)).symm, fun j hj => (s4 j hj).trans (z _ (by omega)).symm, fun j hj => (s5 j hj).trans (z _ (by omega)).symm, s6.trans (z 94 (by decide)).symm, s7.trans (z 95 (by decide)).symm⟩
theorem RI_cg (h6 : cc ≤ 6) (h8 : gc ≤ 8) (z : ∀ k, k < 96 → r' k = r k) (w : RI cc gc r) : RI cc gc r' := by
  obtain ⟨s1, s2, s3, s4, s5⟩ := w
  refine ⟨fun c hc => ?_, fun a b ha hb hn => ?_, fun a b ha hb => ?_, fun j hj => ?_, fun k hk hk2 => ?_⟩
  · rw [z c (by omega)]
    exact s1 c hc
  · rw [z _ (by omega)]
    exact s2 a b ha hb hn
  · rw [z _ (by omega)]
    exact s3 a b ha hb
  · rw [z _ (by omega)]
    exact s4 j hj
  · rw [z 94 (by decide)]
    exact s5 k hk hk2
theorem RS_sg (h6 : cc ≤ 6) (h8 : gc ≤ 8) (z1 : ∀ k, k < 6 → g' k = g k) (z2 : ∀ k, k < 36 → e' k = e k) (z3 : ∀ k, k < 36 → d' k = d k) (z4 : ∀ k, k < 8 → hd' k = hd k) (z5 : ∀ k, k < 8 → ha' k = ha k) (w : RS cc gc g e d hd ha x m r) : RS cc gc g' e' d' hd' ha' x m r := by
  obtain ⟨s1, s2, s3, s4, s5, s6, s7⟩ := w
  exact ⟨fun c hc => (z1 c hc).trans (s1 c hc), fun a b ha hb hn => (z2 _ (by omega)).trans (s2 a b ha hb hn), fun a b ha hb => (z3 _ (by omega)).trans (s3 a b ha hb), fun j hj => (z4 j (by omega)).trans (s4 j hj), fun j hj => (z5 j (by omega)).trans (s5 j hj), s6, s7⟩
theorem RSb_e (z : ∀ i, b ≤ i → i < b + 6 → h' i = h i) (w : RSb cc gc b h r) : RSb cc gc b h' r := by
  unfold RSb
  rw [Ar_e (z (b + 1) (by omega) (by omega)), Ar_e (z (b + 2) (by omega) (by omega)), Ar_e (z (b + 3) (by omega) (by omega)), Ar_e (z (b + 4) (by omega) (by omega)), Ar_e (z (b + 5) (by omega) (by omega)), Fi_e (z b (by omega) (by omega)), Fi_e (z b (by omega) (by omega))]
  exact w
theorem RSb_cp (h6 : cc ≤ 6) (h8 : gc ≤ 8) (hs : isSt s = true) (hw : WT h) (w : RSb cc gc t h r) : RSb cc gc s (cp73 h s t) r := by
  unfold RSb
  rw [(cp73_f hs hw).1, (cp73_f hs hw).2]
  exact RS_sg h6 h8 (fun k hk => cp73_a (Or.inl ⟨rfl, rfl⟩) hk) (fun k hk => cp73_a (Or.inr (Or.inl ⟨rfl, rfl⟩)) hk) (fun k hk => cp73_a (Or.inr (Or.inr (Or.inl ⟨rfl, rfl⟩))) hk) (fun k hk => cp73_a (Or.inr (Or.inr (Or.inr (Or.inl ⟨rfl, rfl⟩)))) hk) (fun k hk => cp73_a (Or.inr (Or.inr (Or.inr (Or.inr ⟨rfl, rfl⟩)))) hk) w
/-- the reference puts the row now by -/
theorem v211_ar : Ar (v211 q cc gc h u) 170 = Ar h 170 ∧ (∀ k, k < 96 → Ar (v211 q cc gc h u) 178 (96 * u + k) = Ar h 170 k) ∧ ∀ x, (x < 96 * u ∨ 96 * u + 96 ≤ x) → Ar (v211 q cc gc h u) 178 x = Ar h 178 x := by
  have z := lp_in (f := fun i a => v211_2b q cc gc a u i) (P := fun i a => Ar a 170 = Ar h 170 ∧ (∀ k, k < i → Ar a 178 (96 * u + k) = Ar h 170 k) ∧ ∀ x, (x < 96 * u ∨ 96 * u + i ≤ x) → Ar a 178 x = Ar h 178 x) 96 0 h ⟨rfl, fun k hk => absurd hk (by omega), fun x _ => rfl⟩ (by
    intro k a _ _ p
    obtain ⟨p1, p2, p3⟩ := p
    refine ⟨?_, fun j hj => ?_, fun x hx => ?_⟩
    · show Ar (aset a 178 1536 (upd (Ar a 178) (96 * u + k) ((Ar a 170) k))) 170 = _
      rw [Ar_n (by decide)]
      exact p1
    · show Ar (aset a 178 1536 (upd (Ar a 178) (96 * u + k) ((Ar a 170) k))) 178 (96 * u + j) = _
      rw [Ar_s]
      by_cases y : j = k
      · rw [y, up_e rfl, p1]
      · rw [up_n (by omega)]
        exact p2 j (by omega)
    · show Ar (aset a 178 1536 (upd (Ar a 178) (96 * u + k) ((Ar a 170) k))) 178 x = _
      rw [Ar_s, up_n (by omega)]
      exact p3 x (by omega))
  exact ⟨z.1, fun k hk => z.2.1 k (by omega), fun x hx => z.2.2 x (by omega)⟩
theorem v212_s (y : Int32) : Ar (v212_21 q cc gc y 1440 0 h) 170 = Ar h 170 ∧ (∀ x, x < 1440 → Ar (v212_21 q cc gc y 1440 0 h) 178 x = Ar h 178 (x + 96)) := by
  have z := lp_in (f := fun i a => v212_21b q cc gc a y i) (P := fun i a => Ar a 170 = Ar h 170 ∧ (∀ x, x < i → Ar a 178 x = Ar h 178 (x + 96)) ∧ ∀ x, i ≤ x → Ar a 178 x = Ar h 178 x) 1440 0 h ⟨rfl, fun x hx => absurd hx (by omega), fun x _ => rfl⟩ (by
    intro k a _ _ p
    obtain ⟨p1, p2, p3⟩ := p
    refine ⟨?_, fun j hj => ?_, fun x hx => ?_⟩
    · show Ar (aset a 178 1536 (upd (Ar a 178) k ((Ar a 178) (k + 96)))) 170 = _
      rw [Ar_n (by decide)]
      exact p1
    · show Ar (aset a 178 1536 (upd (Ar a 178) k ((Ar a 178) (k + 96)))) 178 j = _
      rw [Ar_s]
      by_cases y : j = k
      · rw [y, up_e rfl]
        exact p3 _ (by omega)
      · rw [up_n y]
        exact p2 j (by omega)
    · show Ar (aset a 178 1536 (upd (Ar a 178) k ((Ar a 178) (k + 96)))) 178 x = _
      rw [Ar_s, up_n (by omega)]
      exact p3 x (by omega))
  exact ⟨z.1, fun x hx => z.2.1 x (by omega)⟩
/-- an act is counted -/
theorem v212_ar (hw : HC q cc gc h) (hu : u ≤ 15) : Fi (v212 q cc gc h u v).2 162 27 = nI (min (u + 1) 15) ∧ Ar (v212 q cc gc h u v).2 170 = Ar h 170 ∧ (u < 15 → Ar (v212 q cc gc h u v).2 178 = Ar h 178) ∧ (u = 15 → ∀ x, x < 1440 → Ar (v212 q cc gc h u v).2 178 x = Ar h 178 (x + 96)) := by
  unfold v212
  by_cases y : u + 1 ≤ 15
  · rw [decide_eq_true y]
    show Fi (fset h 162 27 (.int (nI (u + 1)))) 162 27 = nI (min (u + 1) 15) ∧ Ar (fset h 162 27 (.int (nI (u + 1)))) 170 = Ar h 170 ∧ (u < 15 → Ar (fset h 162 27 (.int (nI (u + 1)))) 178 = Ar h 178) ∧ (u = 15 → ∀ x, x < 1440 → Ar (fset h 162 27 (.int (nI (u + 1)))) 178 x = Ar h 178 (x + 96))
    refine ⟨?_, Ar_f, fun _ => Ar_f, fun z => absurd z (by omega)⟩
    rw [Fi_s hw.wt (by decide) rfl (by decide) rfl, show min (u + 1) 15 = u + 1 by omega]
  · rw [decide_eq_false y]
    have hu2 : u = 15 := by omega
    subst hu2
    have w1 : HC q cc gc (fset h 162 27 (.int (nI (15 + 1)))) := hc_f rfl rfl (by decide) rfl hw
    have w2 := (v212_21_fr (t1 := v) (j := 1440) (i := 0) w1).1
    obtain ⟨a1, a2⟩ := v212_s (q := q) (cc := cc) (gc := gc) (h := fset h 162 27 (.int (nI (15 + 1)))) v
    show Fi (fset (v212_21 q cc gc v 1440 0 (fset h 162 27 (.int (nI (15 + 1))))) 162 27 (.int ((nI (15 + 1)) - (nI 1)))) 162 27 = nI (min (15 + 1) 15) ∧ Ar (fset (v212_21 q cc gc v 1440 0 (fset h 162 27 (.int (nI (15 + 1))))) 162 27 (.int ((nI (15 + 1)) - (nI 1)))) 170 = Ar h 170 ∧ (15 < 15 → Ar (fset (v212_21 q cc gc v 1440 0 (fset h 162 27 (.int (nI (15 + 1))))) 162 27 (.int ((nI (15 + 1)) - (nI 1)))) 178 = Ar h 178) ∧ (15 = 15 → ∀ x, x < 1440 → Ar (fset (v212_21 q cc gc v 1440 0 (fset h 162 27 (.int (nI (15 + 1))))) 162 27 (.int ((nI (15 + 1)) - (nI 1)))) 178 x = Ar h 178 (x + 96))
    generalize v212_21 q cc gc v 1440 0 (fset h 162 27 (.int (nI (15 + 1)))) = G at w2 a1 a2 ⊢
    refine ⟨?_, ?_, fun z => absurd z (by omega), fun _ x hx => ?_⟩
    · rw [Fi_s w2.wt (by decide) rfl (by decide) rfl]
      decide
    · rw [Ar_f, a1, Ar_f]
    · rw [Ar_f, a2 x hx, Ar_f]
/-- a state is put by -/
theorem pa_push (h6 : cc ≤ 6) (h8 : gc ≤ 8) (hw : WT h) (hfi : fi < 16) (hsi : si ≤ 15) (pa : ∀ j, j < si → RSb cc gc (27 + 6 * ((fi + j) % 16)) h (fun k => Ar h 178 (96 * j + k)) ∧ RI cc gc (fun k => Ar h 178 (96 * j + k))) (s13 : RSb cc gc 13 h r) (ri : RI cc gc r) (cx : ∀ i, 27 ≤ i → i < 123 → h2 i = cp73 h (27 + 6 * ((fi + si) % 16)) 13 i) (f1 : Fi h2 25 1 = nI (if 15 ≤ si then (fi + 1) % 16 else fi)) (f2 : Fi h2 25 2 = nI (min (si + 1) 15)) (f3 : Fi h2 162 27 = nI (min (si + 1) 15)) (rows : ∀ j, j < min (si + 1) 15 → ∀ k, k < 96 → Ar h2 178 (96 * j + k) = if 15 ≤ si then (if j = 14 then r k else Ar h 178 (96 * (j + 1) + k)) else (if j = si then r k else Ar h 178 (96 * j + k))) : PA cc gc h2 := by
  have new : ∀ (rr : Nat → Int32), (∀ k, k < 96 → rr k = r k) → RSb cc gc (27 + 6 * ((fi + si) % 16)) h2 rr ∧ RI cc gc rr := by
    intro rr e
    refine ⟨RS_cg h6 h8 e (RSb_e (fun i h1 h2 => cx i (by omega) (by omega)) (RSb_cp h6 h8 (xst_27 (Nat.mod_lt _ (by decide))) hw s13)), RI_cg h6 h8 e ri⟩
  have old : ∀ (j : Nat) (rr : Nat → Int32), j < si → (fi + j) % 16 ≠ (fi + si) % 16 → (∀ k, k < 96 → rr k = Ar h 178 (96 * j + k)) → RSb cc gc (27 + 6 * ((fi + j) % 16)) h2 rr ∧ RI cc gc rr := by
    intro j rr hj ne e
    obtain ⟨p1, p2⟩ := pa j hj
    refine ⟨RS_cg h6 h8 e (RSb_e (fun i h1 h2 => ?_) p1), RI_cg h6 h8 e p2⟩
    rw [cx i (by omega) (by omega)]
    exact cp73_ne (by omega)
  by_cases z : 15 ≤ si
  · have hs : si = 15 := by omega
    refine ⟨(fi + 1) % 16, 15, Nat.mod_lt _ (by decide), Nat.le_refl _, ⟨?_, ?_, ?_⟩, fun j hj => ?_⟩
    · rw [f1, if_pos z]
    · rw [f2, show min (si + 1) 15 = 15 by omega]
    · rw [f3, show min (si + 1) 15 = 15 by omega]
    · have rw1 := rows j (by omega)
      have rw1 : ∀ k, k < 96 → Ar h2 178 (96 * j + k) = if j = 14 then r k else Ar h 178 (96 * (j + 1) + k) := fun k hk => (rw1 k hk).trans (if_pos z)
      by_cases y : j = 14
      · rw [show ((fi + 1) % 16 + j) % 16 = (fi + si) % 16 by omega]
        refine new _ (fun k hk => ?_)
        have e := rw1 k hk
        rw [if_pos y] at e
        exact e
      · rw [show ((fi + 1) % 16 + j) % 16 = (fi + (j + 1)) % 16 by omega]
        refine old (j + 1) _ (by omega) (by omega) (fun k hk => ?_)
        have e := rw1 k hk
        rw [if_neg y] at e
        exact e
  · refine ⟨fi, si + 1, hfi, by omega, ⟨?_, ?_, ?_⟩, fun j hj => ?_⟩
    · rw [f1, if_neg z]
    · rw [f2, show min (si + 1) 15 = si + 1 by omega]
    · rw [f3, show min (si + 1) 15 = si + 1 by omega]
    · have rw1 := rows j (by omega)
      have rw1 : ∀ k, k < 96 → Ar h2 178 (96 * j + k) = if j = si then r k else Ar h 178 (96 * j + k) := fun k hk => (rw1 k hk).trans (if_neg z)
      by_cases y : j = si
      · rw [y]
        refine new _ (fun k hk => ?_)
        have e := rw1 k hk
        rw [if_pos y] at e
        rw [← y]
        exact e
      · refine old j _ (by omega) (by omega) (fun k hk => ?_)
        have e := rw1 k hk
        rw [if_neg y] at e
        exact e
end PST
end MG95zzywx0
section MG95zzywx1
/-! an act of both sides: a state is put by, then changed -/
section ACT
variable {cc gc fi si : Nat} {q : QT} {h H X M1 h2 : pm_H} {v : Int32} {W WX WM W2 : List Nat} {V VX VM V2 : List (Nat × Nat)}
def AK : List Nat := [6, 7, 9, 10, 11, 143, 146, 160, 161, 164, 165, 166, 167, 168, 174, 191, 192, 196, 125, 126, 127, 128, 129, 131, 132, 133, 134, 135, 137, 138, 139, 140, 141]
def FK : List (Nat × Nat) := [(0, 7), (5, 0), (5, 1), (159, 0), (162, 47), (124, 5), (124, 6), (130, 5), (130, 6), (136, 5), (136, 6)]
def CK : List Nat := AK ++ [0, 5, 159, 124, 130, 136]
/-- SR behind a change of the state now and of what can be undone -/
theorem SR_act (c2 : HC q cc gc h2) (hq : q.1 = 142 ∨ q.1 = 145) (s : SRq q cc gc h) (ka : kpt AK h h2) (kf : kpf FK h h2) (k9 : k0f 9 h h2) (nw : RSb cc gc 13 h2 (Ar h2 170) ∧ RI cc gc (Ar h2 170)) (pa : PA cc gc h2) : SR h2 := by
  obtain ⟨⟨s4, ⟨fs, o1, o2⟩⟩, ⟨s1, s3, s5, s6, ⟨m, m1, ⟨m2, m3⟩, m4⟩⟩⟩ := s
  have eq1 : Ar h2 (q.1 + 1) = Ar h (q.1 + 1) := by
    rcases hq with e | e
    · rw [e]
      exact ka 143 rfl
    · rw [e]
      exact ka 146 rfl
  refine ⟨q, cc, gc, c2, ⟨⟨?_, k9 fs _ o1 o2⟩, ⟨nw, ?_, pa, fun i hi hk => ?_, ⟨m, m1, ⟨(kf 159 0 rfl).trans m2, (kf 162 47 rfl).trans m3⟩, fun j hj => ?_⟩⟩⟩⟩
  · rw [eq1, ka 174 rfl]
    exact s4
  · unfold RMm
    rw [ka 6 rfl, ka 7 rfl, ka 9 rfl, ka 10 rfl, ka 11 rfl, ka 164 rfl, ka 165 rfl, ka 166 rfl, ka 167 rfl, ka 168 rfl]
    exact s3
  · rw [kf 0 7 rfl] at hk
    obtain ⟨k1, k2⟩ := s6 i hi hk
    rw [ka 196 rfl]
    refine ⟨?_, k2⟩
    unfold RSb at k1 ⊢
    rcases (by omega : i = 0 ∨ i = 1 ∨ i = 2) with rfl | rfl | rfl
    · show RS cc gc (Ar h2 125) (Ar h2 126) (Ar h2 127) (Ar h2 128) (Ar h2 129) (Fi h2 124 5) (Fi h2 124 6) _
      rw [ka 125 rfl, ka 126 rfl, ka 127 rfl, ka 128 rfl, ka 129 rfl, kf 124 5 rfl, kf 124 6 rfl]
      exact k1
    · show RS cc gc (Ar h2 131) (Ar h2 132) (Ar h2 133) (Ar h2 134) (Ar h2 135) (Fi h2 130 5) (Fi h2 130 6) _
      rw [ka 131 rfl, ka 132 rfl, ka 133 rfl, ka 134 rfl, ka 135 rfl, kf 130 5 rfl, kf 130 6 rfl]
      exact k1
    · show RS cc gc (Ar h2 137) (Ar h2 138) (Ar h2 139) (Ar h2 140) (Ar h2 141) (Fi h2 136 5) (Fi h2 136 6) _
      rw [ka 137 rfl, ka 138 rfl, ka 139 rfl, ka 140 rfl, ka 141 rfl, kf 136 5 rfl, kf 136 6 rfl]
      exact k1
  · rw [ka 160 rfl, ka 161 rfl, ka 191 rfl, ka 192 rfl]
    exact m4 j hj
/-- the class has put its state by -/
def XP (q : QT) (cc gc fi si : Nat) (h H : pm_H) : Prop := ((∀ i, (i < 27 ∨ 123 ≤ i) → i ≠ 25 → H i = h i) ∧ ∀ i, 27 ≤ i → i < 123 → H i = cp73 h (27 + 6 * ((fi + si) % 16)) 13 i) ∧ (Fi H 25 1 = nI (if 15 ≤ si then (fi + 1) % 16 else fi) ∧ Fi H 25 2 = nI (min (si + 1) 15)) ∧ HC q cc gc H
theorem xp_cell {k : Nat} {x : Value} (i : Nat) (hi : i < 27 ∨ 123 ≤ i) (hn : i ≠ 25) : fset (cp73 h (27 + 6 * ((fi + si) % 16)) 13) 25 k x i = h i := (fs_ne hn).trans (cp73_ne (by omega))
theorem xp_1 (hc : HC q cc gc h) (z : 15 ≤ si) (hs : si ≤ 15) (e2 : Fi h 25 2 = nI si) : XP q cc gc fi si h (fset (cp73 h (27 + 6 * ((fi + si) % 16)) 13) 25 1 (.int (nI ((fi + 1) % 16)))) := by
  have c1 : HC q cc gc (cp73 h (27 + 6 * ((fi + si) % 16)) 13) := cp73_hc (xst_27 (Nat.mod_lt _ (by decide))) hc
  refine ⟨⟨fun i h1 h2 => xp_cell i h1 h2, fun i h1 h2 => fs_ne (by omega)⟩, ⟨?_, ?_⟩, hc_f rfl rfl (by decide) rfl c1⟩
  · rw [Fi_s c1.wt (by decide) rfl (by decide) rfl, if_pos z]
  · rw [Fi_n (Or.inr (by decide)), Fi_e (cp73_ne (by omega)), e2, show min (si + 1) 15 = si by omega]
theorem xp_0 (hc : HC q cc gc h) (z : ¬ 15 ≤ si) (e1 : Fi h 25 1 = nI fi) : XP q cc gc fi si h (fset (cp73 h (27 + 6 * ((fi + si) % 16)) 13) 25 2 (.int (nI (si + 1)))) := by
  have c1 : HC q cc gc (cp73 h (27 + 6 * ((fi + si) % 16)) 13) := cp73_hc (xst_27 (Nat.mod_lt _ (by decide))) hc
  refine ⟨⟨fun i h1 h2 => xp_cell i h1 h2, fun i h1 h2 => fs_ne (by omega)⟩, ⟨?_, ?_⟩, hc_f rfl rfl (by decide) rfl c1⟩
  · rw [Fi_n (Or.inr (by decide)), Fi_e (cp73_ne (by omega)), e1, if_neg z]
  · rw [Fi_s c1.wt (by decide) rfl (by decide) rfl, show min (si + 1) 15 = si + 1 by omega]
def actX (W : List Nat) : Bool := CK.all (fun a => !(W.elem a)) && (W.all (fun a => Nat.blt a 162) && (!(W.elem 25) && (List.range 96).all (fun j => !(W.elem (27 + j)))))
def actM (W : List Nat) (V : List (Nat × Nat)) : Bool := CK.all (fun a => !(W.elem a)) && (W.all (fun a => Nat.ble 162 a) && (!(W.elem 178) && (!(V.elem (162, 47)) && !(V.elem (162, 27)))))
theorem nel {a : Nat} (e : (!(W.elem a)) = true) : W.elem a = false := by simpa using e
theorem nel2 {p : Nat × Nat} (e : (!(V.elem p)) = true) : V.elem p = false := by simpa using e
theorem el_lt {a : Nat} (w : W.all (fun a => Nat.blt a 162) = true) (ha : 162 ≤ a) : W.elem a = false := by
  cases z : W.elem a with
  | false => rfl
  | true =>
    have := Nat.le_of_ble_eq_true (List.all_eq_true.mp w a (List.elem_iff.mp z))
    omega
theorem el_ge {a : Nat} (w : W.all (fun a => Nat.ble 162 a) = true) (ha : a < 162) : W.elem a = false := by
  cases z : W.elem a with
  | false => rfl
  | true =>
    have := Nat.le_of_ble_eq_true (List.all_eq_true.mp w a (List.elem_iff.mp z))
    omega
theorem CK_lo : CK.all (fun a => (Nat.blt a 27 || Nat.ble 123 a) && (!(Nat.beq a 25) && (!(Nat.beq a 162) && !(Nat.beq a 178)))) = true := by decide +kernel
theorem CK_of {a : Nat} (e : CK.elem a = true) : (a < 27 ∨ 123 ≤ a) ∧ a ≠ 25 ∧ a ≠ 162 ∧ a ≠ 178 := by
  have z := List.all_eq_true.mp CK_lo a (List.elem_iff.mp e)
  rw [Bool.and_eq_true, Bool.and_eq_true, Bool.and_eq_true, Bool.or_eq_true] at z
  obtain ⟨z1, z2, z3, z4⟩ := z
  have n : ∀ b : Nat, (!(Nat.beq a b)) = true → a ≠ b := fun b e y => by
    rw [y, Nat.beq_refl] at e
    cases e
  refine ⟨?_, n 25 z2, n 162 z3, n 178 z4⟩
  rcases z1 with z1 | z1
  · exact Or.inl (Nat.le_of_ble_eq_true z1)
  · exact Or.inr (Nat.le_of_ble_eq_true z1)
theorem act_sr (hc : HC q cc gc h) (s : SRq q cc gc h) (hfi : fi < 16) (hsi : si ≤ 15) (pa : ∀ j, j < si → RSb cc gc (27 + 6 * ((fi + j) % 16)) h (fun k => Ar h 178 (96 * j + k)) ∧ RI cc gc (fun k => Ar h 178 (96 * j + k))) (xp : XP q cc gc fi si h H) (fX : frm WX VX H X) (kX : actX WX = true) (cX : HC q cc gc X) (fM : frm WM VM (v211 q cc gc (fset X 162 0 (.int (nI 0))) si) M1) (kM : actM WM VM = true) (cM : HC q cc gc M1) (f2 : frm W2 V2 (v212 q cc gc M1 si v).2 h2) (k2 : actM W2 V2 = true) (k170 : W2.elem 170 = false) (c2 : HC q cc gc h2) (nw : RS cc gc (Ar X 14) (Ar X 15) (Ar X 16) (Ar X 17) (Ar X 18) (Fi X 13 5) (Fi X 13 6) (Ar M1 170) ∧ RI cc gc (Ar M1 170)) : SR h2 := by
  unfold actX at kX
  unfold actM at kM k2
  rw [Bool.and_eq_true, Bool.and_eq_true, Bool.and_eq_true] at kX
  rw [Bool.and_eq_true, Bool.and_eq_true, Bool.and_eq_true, Bool.and_eq_true] at kM k2
  obtain ⟨x1, x2, x3, x4⟩ := kX
  obtain ⟨y1, y2, y3, y4, y5⟩ := kM
  obtain ⟨z1, z2, z3, z4, z5⟩ := k2
  have cF : HC q cc gc (fset X 162 0 (.int (nI 0))) := hc_f rfl rfl (by decide) rfl cX
  have g1 := (v211_fr (u := si) cF hsi).2
  have g2 := (v212_fr (u := si) (v := v) cM hsi).2
  have ne2 : ∀ a, a ≠ 162 → a ≠ 178 → (List.elem a [162, 178]) = false := fun a h1 h2 => by
    cases z : List.elem a [162, 178] with
    | false => rfl
    | true =>
      have := List.elem_iff.mp z
      simp at this
      omega
  have ne1 : ∀ a, a ≠ 178 → (List.elem a [178]) = false := fun a h1 => by
    cases z : List.elem a [178] with
    | false => rfl
    | true =>
      have := List.elem_iff.mp z
      simp at this
      omega
  -- the class's cells behind its act
  have lo : ∀ a, a < 162 → h2 a = X a := fun a ha => ((f2.1 a (el_ge z2 ha)).trans (g2.1 a (ne2 a (by omega) (by omega)))).trans (((fM.1 a (el_ge y2 ha)).trans (g1.1 a (ne1 a (by omega)))).trans (fs_ne (by omega)))
  have cs : ∀ a, CK.elem a = true → h2 a = h a := fun a e => by
    obtain ⟨e1, e2, e3, e4⟩ := CK_of e
    have w := List.elem_iff.mp e
    exact (((f2.1 a (nel (List.all_eq_true.mp z1 a w))).trans (g2.1 a (ne2 a e3 e4))).trans (((fM.1 a (nel (List.all_eq_true.mp y1 a w))).trans (g1.1 a (ne1 a e4))).trans (fs_ne e3))).trans ((fX.1 a (nel (List.all_eq_true.mp x1 a w))).trans (xp.1.1 a e1 e2))
  have hiX : ∀ a, 162 ≤ a → X a = h a := fun a ha => (fX.1 a (el_lt x2 ha)).trans (xp.1.1 a (by omega) (by omega))
  have ka : kpt AK h h2 := fun a e => Ar_e (cs a (List.elem_iff.mpr (List.mem_append_left _ (List.elem_iff.mp e))))
  have f47 : Fi h2 162 47 = Fi h 162 47 := ((f2.2 162 47 rfl (nel2 z4)).trans (g2.2 162 47 rfl rfl)).trans (((fM.2 162 47 rfl (nel2 y4)).trans (g1.2 162 47 rfl rfl)).trans ((Fi_n (Or.inr (by decide))).trans (Fi_e (hiX 162 (by decide)))))
  have kf : kpf FK h h2 := by
    intro c g e
    have e := List.elem_iff.mp e
    simp only [FK, List.mem_cons, Prod.mk.injEq, List.not_mem_nil, or_false] at e
    rcases e with ⟨rfl, rfl⟩ | ⟨rfl, rfl⟩ | ⟨rfl, rfl⟩ | ⟨rfl, rfl⟩ | ⟨rfl, rfl⟩ | ⟨rfl, rfl⟩ | ⟨rfl, rfl⟩ | ⟨rfl, rfl⟩ | ⟨rfl, rfl⟩ | ⟨rfl, rfl⟩ | ⟨rfl, rfl⟩
    · exact Fi_e (cs 0 rfl)
    · exact Fi_e (cs 5 rfl)
    · exact Fi_e (cs 5 rfl)
    · exact Fi_e (cs 159 rfl)
    · exact f47
    · exact Fi_e (cs 124 rfl)
    · exact Fi_e (cs 124 rfl)
    · exact Fi_e (cs 130 rfl)
    · exact Fi_e (cs 130 rfl)
    · exact Fi_e (cs 136 rfl)
    · exact Fi_e (cs 136 rfl)
  have k9 : k0f 9 h h2 := fun fs p e1 e2 => ⟨fs, (cs 0 rfl).trans e1, e2⟩
  obtain ⟨w1, w2, w3, w4⟩ := v212_ar (v := v) cM hsi
  have e170 : Ar h2 170 = Ar M1 170 := (Ar_e (f2.1 170 k170)).trans w2
  have nw2 : RSb cc gc 13 h2 (Ar h2 170) ∧ RI cc gc (Ar h2 170) := by
    rw [e170]
    refine ⟨?_, nw.2⟩
    unfold RSb
    rw [Ar_e (lo (13 + 1) (by decide)), Ar_e (lo (13 + 2) (by decide)), Ar_e (lo (13 + 3) (by decide)), Ar_e (lo (13 + 4) (by decide)), Ar_e (lo (13 + 5) (by decide)), Fi_e (lo 13 (by decide)), Fi_e (lo 13 (by decide))]
    exact nw.1
  have x25 : h2 25 = H 25 := (lo 25 (by decide)).trans (fX.1 25 (nel x3))
  obtain ⟨v1, v2, v3⟩ := v211_ar (q := q) (cc := cc) (gc := gc) (h := fset X 162 0 (.int (nI 0))) (u := si)
  have m178 : Ar M1 178 = Ar (v211 q cc gc (fset X 162 0 (.int (nI 0))) si) 178 := Ar_e (fM.1 178 (nel y3))
  have b170 : Ar (fset X 162 0 (.int (nI 0))) 170 = Ar h 170 := Ar_f.trans (Ar_e (hiX 170 (by decide)))
  have b178 : Ar (fset X 162 0 (.int (nI 0))) 178 = Ar h 178 := Ar_f.trans (Ar_e (hiX 178 (by decide)))
  have h178 : Ar h2 178 = Ar (v212 q cc gc M1 si v).2 178 := Ar_e (f2.1 178 (nel z3))
  refine SR_act c2 hc.qq s ka kf k9 nw2 (pa_push hc.cb hc.gb hc.wt hfi hsi pa s.2.1.1 s.2.1.2 (fun i h1 h3 => ?_) ?_ ?_ ?_ (fun j hj k hk => ?_))
  · have e := List.all_eq_true.mp x4 (i - 27) (List.mem_range.mpr (by omega))
    rw [show 27 + (i - 27) = i by omega] at e
    exact ((lo i (by omega)).trans (fX.1 i (nel e))).trans (xp.1.2 i h1 h3)
  · exact (Fi_e x25).trans xp.2.1.1
  · exact (Fi_e x25).trans xp.2.1.2
  · exact (f2.2 162 27 rfl (nel2 z5)).trans w1
  · rw [h178]
    by_cases z : 15 ≤ si
    · have hs : si = 15 := by omega
      rw [if_pos z, w4 hs _ (by omega), m178, show 96 * j + k + 96 = 96 * (j + 1) + k by omega]
      by_cases y : j = 14
      · rw [if_pos y, show 96 * (j + 1) + k = 96 * si + k by omega, v2 k hk, b170]
      · rw [if_neg y, v3 _ (by omega), b178]
    · rw [if_neg z, w3 (by omega), m178]
      by_cases y : j = si
      · rw [if_pos y, y, v2 k hk, b170]
      · rw [if_neg y, v3 _ (by omega), b178]
end ACT
end MG95zzywx1
section MG95zzywx2
/-! SR behind acts -/
section SND
variable {cc gc fi si g c F u : Nat} {q : QT} {h H X h1 h2 : pm_H} {v : Int32}
theorem CK_un : CK.all (fun a => decide (a ≠ 170 ∧ a ≠ 162 ∧ a ≠ 25 ∧ (a < 13 ∨ 19 ≤ a))) = true := by decide +kernel
/-- the states from which an act starts: the class's behind what it put by, the reference's behind what it put by -/
theorem push_rel (s : SRq q cc gc h) (hq : q.1 = 142 ∨ q.1 = 145) (xp : XP q cc gc fi si h H) (hiX : ∀ a, 162 ≤ a → X a = h a) (cX : HC q cc gc X) (hsi : si ≤ 15) : (RS cc gc (Ar H 14) (Ar H 15) (Ar H 16) (Ar H 17) (Ar H 18) (Fi H 13 5) (Fi H 13 6) (Ar (v211 q cc gc (fset X 162 0 (.int (nI 0))) si) 170) ∧ RI cc gc (Ar (v211 q cc gc (fset X 162 0 (.int (nI 0))) si) 170)) ∧ RMm cc gc H (v211 q cc gc (fset X 162 0 (.int (nI 0))) si) ∧ VR q cc gc (Ar H (q.1 + 1)) (Ar (v211 q cc gc (fset X 162 0 (.int (nI 0))) si) 174) ∧ HC q cc gc (v211 q cc gc (fset X 162 0 (.int (nI 0))) si) := by
  have cF : HC q cc gc (fset X 162 0 (.int (nI 0))) := hc_f rfl rfl (by decide) rfl cX
  obtain ⟨c0, g0⟩ := v211_fr (u := si) cF hsi
  have em : ∀ a, 162 < a → (List.elem a [178]) = false → Ar (v211 q cc gc (fset X 162 0 (.int (nI 0))) si) a = Ar h a := fun a ha e => (Ar_e (g0.1 a e)).trans (Ar_f.trans (Ar_e (hiX a (by omega))))
  have ex : ∀ a, (a < 27 ∨ 123 ≤ a) → a ≠ 25 → Ar H a = Ar h a := fun a h1 h2 => Ar_e (xp.1.1 a h1 h2)
  have ef : ∀ g, Fi H 13 g = Fi h 13 g := fun g => Fi_e (xp.1.1 13 (by decide) (by decide))
  obtain ⟨⟨s4, -⟩, ⟨s1, s2⟩, s3, -⟩ := s
  have eq1 : Ar H (q.1 + 1) = Ar h (q.1 + 1) := ex _ (by omega) (by omega)
  refine ⟨⟨?_, ?_⟩, ?_, ?_, c0⟩
  · rw [ex 14 (by decide) (by decide), ex 15 (by decide) (by decide), ex 16 (by decide) (by decide), ex 17 (by decide) (by decide), ex 18 (by decide) (by decide), ef, ef, em 170 (by decide) rfl]
    exact s1
  · rw [em 170 (by decide) rfl]
    exact s2
  · unfold RMm
    rw [ex 6 (by decide) (by decide), ex 7 (by decide) (by decide), ex 9 (by decide) (by decide), ex 10 (by decide) (by decide), ex 11 (by decide) (by decide), em 164 (by decide) rfl, em 165 (by decide) rfl, em 166 (by decide) rfl, em 167 (by decide) rfl, em 168 (by decide) rfl]
    exact s3
  · rw [eq1, em 174 (by decide) rfl]
    exact s4
theorem ge_0 {x : Int32} (e : 0 ≤ x.toInt) : pm_cmp .ge x 0 = true ∧ pm_cmp .lt x 0 = false := by
  have e1 := lt0_val e
  refine ⟨?_, e1⟩
  cases z : pm_cmp .ge x 0 with
  | true => rfl
  | false =>
    have a : ¬ (0 : Int32) ≤ x := of_decide_eq_false z
    rw [Int32.le_iff_toInt_le] at a
    exact absurd e a
/-- send: the reference's end behind its row -/
theorem v222_end {M0 : pm_H} (cM : HC q cc gc (v217 q cc gc M0 g c).2) (hu : u ≤ 15) (e0 : 0 ≤ (v217 q cc gc M0 g c).1.toInt) (e : v211 q cc gc (fset h1 162 0 (.int (nI 0))) u = M0) : (v222 q cc gc h1 u g c).1 = (v217 q cc gc M0 g c).1 ∧ frm [162, 163] [(162, 1)] (v212 q cc gc (v217 q cc gc M0 g c).2 u (v217 q cc gc M0 g c).1).2 (v222 q cc gc h1 u g c).2 := by
  unfold v222
  rw [e]
  generalize v217 q cc gc M0 g c = z at cM e0 ⊢
  obtain ⟨z1, z2⟩ := z
  dsimp only at cM e0 ⊢
  obtain ⟨y1, y2⟩ := ge_0 e0
  have e3 : v213 q cc gc z2 u z1 = v212 q cc gc z2 u z1 := by
    unfold v213
    rw [y1]
    rfl
  have e4 : (v212 q cc gc z2 u z1).1 = z1 := by
    unfold v212
    cases decide (u + 1 ≤ 15) <;> rfl
  have c2 := (v212_fr (v := z1) cM hu).1
  rw [e3, e4, y2]
  have c3 : HC q cc gc (fset (v212 q cc gc z2 u z1).2 162 1 (.int (nI 0))) := hc_f rfl rfl (by decide) rfl c2
  obtain ⟨c4, f4⟩ := v167_fr (v := (Fi z2 162 29).toInt64) c3
  obtain ⟨c5, f5⟩ := v167_fr (v := (Fi z2 162 30).toInt64) c4
  exact ⟨rfl, fr_g rfl rfl f5 (fr_g rfl rfl f4 (fr_f rfl rfl fr_0))⟩
/-- send -/
theorem snd_sr {A B : Int64} (hc : HC q cc gc h) (s : SRq q cc gc h) (hfi : fi < 16) (hsi : si ≤ 15) (pa : ∀ j, j < si → RSb cc gc (27 + 6 * ((fi + j) % 16)) h (fun k => Ar h 178 (96 * j + k)) ∧ RI cc gc (fun k => Ar h 178 (96 * j + k))) (xp : XP q cc gc fi si h H) (hg : g < gc) (hcc : c < cc) (hF : F < cc) (eF : Ar h 170 (78 + g) = nI F) (hn : F ≠ c) (e1 : h1 = v56 q cc gc (v40 q cc gc (v39 q cc gc H g c).2 g c (v39 q cc gc H g c).1) A B) (c2 : HC q cc gc (v222 q cc gc h1 si g c).2) : SR (v222 q cc gc h1 si g c).2 ∧ (v222 q cc gc h1 si g c).1 = Ar (v40 q cc gc (v39 q cc gc H g c).2 g c (v39 q cc gc H g c).1) 15 (c * 6 + F) := by
  obtain ⟨c39, f39⟩ := v39_fr (g := g) (c := c) xp.2.2
  obtain ⟨c40, f40⟩ := v40_fr (g := g) (c := c) (v := (v39 q cc gc H g c).1) c39
  obtain ⟨c56, f56⟩ := v56_fr (v := A) (w := B) c40
  rw [← e1] at c56 f56
  have fX : frm [3, 4, 12, 15, 16, 17, 18, 142, 144, 145, 147] [(3, 1), (142, 3), (145, 3)] H h1 := fr_g rfl rfl f56 (fr_g rfl rfl f40 (fr_g rfl rfl f39 fr_0))
  have hiX : ∀ a, 162 ≤ a → h1 a = h a := fun a ha => (fX.1 a (el_lt rfl ha)).trans (xp.1.1 a (by omega) (by omega))
  obtain ⟨⟨r1, r2⟩, r3, r4, c0⟩ := push_rel s hc.qq xp hiX c56 hsi
  have e170 : Ar (v211 q cc gc (fset h1 162 0 (.int (nI 0))) si) 170 = Ar h 170 := (v211_ar (q := q) (cc := cc) (gc := gc) (h := fset h1 162 0 (.int (nI 0))) (u := si)).1.trans (Ar_f.trans (Ar_e (hiX 170 (by decide))))
  have hV : (v39 q cc gc H g c).1 = (v201 q cc gc (v211 q cc gc (fset h1 162 0 (.int (nI 0))) si) g c).1 := val_eq xp.2.2 c0 r4 r3 r1 r2.2.2.2.1 hg hcc
  generalize eM : v211 q cc gc (fset h1 162 0 (.int (nI 0))) si = M0 at *
  have ea : ∀ a, (List.elem a [12, 142, 144, 145, 147]) = false → Ar (v39 q cc gc H g c).2 a = Ar H a := fun a e => Ar_e (f39.1 a e)
  have ef : ∀ k, Fi (v39 q cc gc H g c).2 13 k = Fi H 13 k := fun k => Fi_e (f39.1 13 rfl)
  have r5 : RS cc gc (Ar (v39 q cc gc H g c).2 14) (Ar (v39 q cc gc H g c).2 15) (Ar (v39 q cc gc H g c).2 16) (Ar (v39 q cc gc H g c).2 17) (Ar (v39 q cc gc H g c).2 18) (Fi (v39 q cc gc H g c).2 13 5) (Fi (v39 q cc gc H g c).2 13 6) (Ar M0 170) := by
    rw [ea 14 rfl, ea 15 rfl, ea 16 rfl, ea 17 rfl, ea 18 rfl, ef, ef]
    exact r1
  obtain ⟨n1, n2, n3, n4⟩ := send_rel c39 r5 r2 hV hg hcc hF ((congrFun e170 _).trans eF) hn
  obtain ⟨cM, fM⟩ := v217_fr (g := g) (c := c) c0
  obtain ⟨w1, w2⟩ := v222_end cM hsi n4 eM
  have fM2 : frm [162, 170, 176, 177] [(162, 29), (162, 30)] (v211 q cc gc (fset h1 162 0 (.int (nI 0))) si) (v217 q cc gc M0 g c).2 := by
    rw [eM]
    exact fM
  refine ⟨act_sr (v := (v217 q cc gc M0 g c).1) hc s hfi hsi pa xp fX (by decide) c56 fM2 (by decide) cM w2 (by decide) rfl c2 ⟨?_, n2⟩, w1.trans n3⟩
  have eb : ∀ a, (List.elem a [3, 4]) = false → Ar h1 a = Ar (v40 q cc gc (v39 q cc gc H g c).2 g c (v39 q cc gc H g c).1) a := fun a e => Ar_e (f56.1 a e)
  rw [eb 14 rfl, eb 15 rfl, eb 16 rfl, eb 17 rfl, eb 18 rfl, Fi_e (f56.1 13 rfl), Fi_e (f56.1 13 rfl), Ar_e (f40.1 14 rfl), Fi_e (f40.1 13 rfl), Fi_e (f40.1 13 rfl)]
  exact n1
/-- what an act of the class leaves: from the frames -/
theorem hiX_of {W : List Nat} {V : List (Nat × Nat)} (xp : XP q cc gc fi si h H) (fX : frm W V H h1) (w : W.all (fun a => Nat.blt a 162) = true) : ∀ a, 162 ≤ a → h1 a = h a := fun a ha => (fX.1 a (el_lt w ha)).trans (xp.1.1 a (by omega) (by omega))
theorem v213_ge {x : Int32} (e : 0 ≤ x.toInt) : v213 q cc gc h u x = v212 q cc gc h u x := by
  unfold v213
  rw [(ge_0 e).1]
  rfl
theorem v212_v {x : Int32} : (v212 q cc gc h u x).1 = x := by
  unfold v212
  cases decide (u + 1 ≤ 15) <;> rfl
/-- envoy -/
theorem env_sr {a b : Nat} {m : Int32} (hc : HC q cc gc h) (s : SRq q cc gc h) (hfi : fi < 16) (hsi : si ≤ 15) (pa : ∀ j, j < si → RSb cc gc (27 + 6 * ((fi + j) % 16)) h (fun k => Ar h 178 (96 * j + k)) ∧ RI cc gc (fun k => Ar h 178 (96 * j + k))) (xp : XP q cc gc fi si h H) (ha : a < cc) (hb : b < cc) (hab : a ≠ b) (hP : pP cc (nI a) (nI b) = true) (hi : in_b (m.toInt64) (-9 : Int64) (9 : Int64) = true) (hm : pm_cmp .ne m 0 = true) (c2 : HC q cc gc (v224 q cc gc (v138 q cc gc H a b m) si a b m).2) : SR (v224 q cc gc (v138 q cc gc H a b m) si a b m).2 ∧ (v224 q cc gc (v138 q cc gc H a b m) si a b m).1 = Ar (v138 q cc gc H a b m) 15 (a * 6 + b) := by
  have c1 : HC q cc gc (v138 q cc gc H a b m) := hc_a rfl rfl xp.2.2
  have fX : frm [15] [] H (v138 q cc gc H a b m) := fr_a rfl rfl fr_0
  have x15 : Ar (v138 q cc gc H a b m) 15 = upd (Ar H 15) (a * 6 + b) (imax (nI 0) (imin (nI 20) (Ar H 15 (a * 6 + b) + m))) := Ar_s
  have hiX := hiX_of xp fX rfl
  generalize v138 q cc gc H a b m = h1 at *
  obtain ⟨⟨r1, r2⟩, -, -, c0⟩ := push_rel s hc.qq xp hiX c1 hsi
  have nn : v224 q cc gc h1 si a b m = ((v213 q cc gc (v220 q cc gc (v211 q cc gc (fset h1 162 0 (.int (nI 0))) si) a b m).2 si (v220 q cc gc (v211 q cc gc (fset h1 162 0 (.int (nI 0))) si) a b m).1).1, (v213 q cc gc (v220 q cc gc (v211 q cc gc (fset h1 162 0 (.int (nI 0))) si) a b m).2 si (v220 q cc gc (v211 q cc gc (fset h1 162 0 (.int (nI 0))) si) a b m).1).2) := rfl
  rw [nn] at c2 ⊢
  generalize eM : v211 q cc gc (fset h1 162 0 (.int (nI 0))) si = M0 at *
  obtain ⟨n1, n2⟩ := env_rel (y := m) hc.cb hc.gb r1 r2 ha hb hab
  have e220 : v220 q cc gc M0 a b m = (imax (nI 0) (imin (nI 20) (Ar M0 170 (6 + 6 * a + b) + m)), aset M0 170 96 (upd (Ar M0 170) (6 + 6 * a + b) (imax (nI 0) (imin (nI 20) (Ar M0 170 (6 + 6 * a + b) + m))))) := by
    unfold v220
    rw [hP, hi, hm]
    show (upd (Ar M0 170) (6 + 6 * a + b) (imax (nI 0) (imin (nI 20) (Ar M0 170 (6 + 6 * a + b) + m))) (6 + 6 * a + b), _) = _
    rw [up_e rfl]
  rw [e220] at c2 ⊢
  have cM : HC q cc gc (aset M0 170 96 (upd (Ar M0 170) (6 + 6 * a + b) (imax (nI 0) (imin (nI 20) (Ar M0 170 (6 + 6 * a + b) + m))))) := hc_a rfl rfl c0
  have fM : frm [170] [] (v211 q cc gc (fset h1 162 0 (.int (nI 0))) si) (aset M0 170 96 (upd (Ar M0 170) (6 + 6 * a + b) (imax (nI 0) (imin (nI 20) (Ar M0 170 (6 + 6 * a + b) + m))))) := by
    rw [eM]
    exact fr_a rfl rfl fr_0
  have m170 : Ar (aset M0 170 96 (upd (Ar M0 170) (6 + 6 * a + b) (imax (nI 0) (imin (nI 20) (Ar M0 170 (6 + 6 * a + b) + m))))) 170 = upd (Ar M0 170) (6 + 6 * a + b) (imax (nI 0) (imin (nI 20) (Ar M0 170 (6 + 6 * a + b) + m))) := Ar_s
  have e15 : Ar H 15 (a * 6 + b) = Ar M0 170 (6 + 6 * a + b) := r1.2.1 a b ha hb hab
  generalize aset M0 170 96 (upd (Ar M0 170) (6 + 6 * a + b) (imax (nI 0) (imin (nI 20) (Ar M0 170 (6 + 6 * a + b) + m)))) = M1 at *
  dsimp only at c2 ⊢
  rw [v213_ge (clamp_i (by decide)).1] at c2 ⊢
  refine ⟨act_sr hc s hfi hsi pa xp fX (by decide) c1 fM (by decide) cM fr_0 (W2 := []) (V2 := []) (by decide) rfl c2 ⟨?_, ?_⟩, ?_⟩
  · rw [m170, x15, Ar_e (fX.1 14 rfl), Ar_e (fX.1 16 rfl), Ar_e (fX.1 17 rfl), Ar_e (fX.1 18 rfl), Fi_e (fX.1 13 rfl), Fi_e (fX.1 13 rfl)]
    exact n1
  · rw [m170]
    exact n2
  · rw [v212_v, x15, up_e rfl, e15]
/-- forgive -/
theorem fgv_sr {a b : Nat} (hc : HC q cc gc h) (s : SRq q cc gc h) (hfi : fi < 16) (hsi : si ≤ 15) (pa : ∀ j, j < si → RSb cc gc (27 + 6 * ((fi + j) % 16)) h (fun k => Ar h 178 (96 * j + k)) ∧ RI cc gc (fun k => Ar h 178 (96 * j + k))) (xp : XP q cc gc fi si h H) (ha : a < cc) (hb : b < cc) (hP : pP cc (nI a) (nI b) = true) (hm : pm_cmp .ne (Ar H 16 (a * 6 + b)) 0 = true) (c2 : HC q cc gc (v225 q cc gc (aset H 16 36 (upd (Ar H 16) (a * 6 + b) (nI 0))) si a b).2) : SR (v225 q cc gc (aset H 16 36 (upd (Ar H 16) (a * 6 + b) (nI 0))) si a b).2 ∧ (v225 q cc gc (aset H 16 36 (upd (Ar H 16) (a * 6 + b) (nI 0))) si a b).1 = Ar H 16 (a * 6 + b) := by
  have c1 : HC q cc gc (aset H 16 36 (upd (Ar H 16) (a * 6 + b) (nI 0))) := hc_a rfl rfl xp.2.2
  have fX : frm [16] [] H (aset H 16 36 (upd (Ar H 16) (a * 6 + b) (nI 0))) := fr_a rfl rfl fr_0
  have x16 : Ar (aset H 16 36 (upd (Ar H 16) (a * 6 + b) (nI 0))) 16 = upd (Ar H 16) (a * 6 + b) (nI 0) := Ar_s
  have hiX := hiX_of xp fX rfl
  generalize aset H 16 36 (upd (Ar H 16) (a * 6 + b) (nI 0)) = h1 at *
  obtain ⟨⟨r1, r2⟩, -, -, c0⟩ := push_rel s hc.qq xp hiX c1 hsi
  have nn : v225 q cc gc h1 si a b = ((v213 q cc gc (v221 q cc gc (v211 q cc gc (fset h1 162 0 (.int (nI 0))) si) a b).2 si (v221 q cc gc (v211 q cc gc (fset h1 162 0 (.int (nI 0))) si) a b).1).1, (v213 q cc gc (v221 q cc gc (v211 q cc gc (fset h1 162 0 (.int (nI 0))) si) a b).2 si (v221 q cc gc (v211 q cc gc (fset h1 162 0 (.int (nI 0))) si) a b).1).2) := rfl
  rw [nn] at c2 ⊢
  generalize eM : v211 q cc gc (fset h1 162 0 (.int (nI 0))) si = M0 at *
  have h6 := hc.cb
  obtain ⟨n1, n2⟩ := fgv_rel hc.cb hc.gb r1 r2 ha hb
  have e16 : Ar H 16 (a * 6 + b) = Ar M0 170 (42 + 6 * a + b) := r1.2.2.1 a b (by omega) (by omega)
  have i16 := (r2.2.2.1 a b (by omega) (by omega)).1.1
  have e221 : v221 q cc gc M0 a b = (Ar M0 170 (42 + 6 * a + b), aset M0 170 96 (upd (Ar M0 170) (42 + 6 * a + b) (nI 0))) := by
    unfold v221
    rw [hP, ← e16, hm]
    rfl
  rw [e221] at c2 ⊢
  have cM : HC q cc gc (aset M0 170 96 (upd (Ar M0 170) (42 + 6 * a + b) (nI 0))) := hc_a rfl rfl c0
  have fM : frm [170] [] (v211 q cc gc (fset h1 162 0 (.int (nI 0))) si) (aset M0 170 96 (upd (Ar M0 170) (42 + 6 * a + b) (nI 0))) := by
    rw [eM]
    exact fr_a rfl rfl fr_0
  have m170 : Ar (aset M0 170 96 (upd (Ar M0 170) (42 + 6 * a + b) (nI 0))) 170 = upd (Ar M0 170) (42 + 6 * a + b) (nI 0) := Ar_s
  generalize aset M0 170 96 (upd (Ar M0 170) (42 + 6 * a + b) (nI 0)) = M1 at *
  dsimp only at c2 ⊢
  rw [v213_ge i16] at c2 ⊢
  refine ⟨act_sr hc s hfi hsi pa xp fX (by decide) c1 fM (by decide) cM fr_0 (W2 := []) (V2 := []) (by decide) rfl c2 ⟨?_, ?_⟩, ?_⟩
  · rw [m170, x16, Ar_e (fX.1 14 rfl), Ar_e (fX.1 15 rfl), Ar_e (fX.1 17 rfl), Ar_e (fX.1 18 rfl), Fi_e (fX.1 13 rfl), Fi_e (fX.1 13 rfl)]
    exact n1
  · rw [m170]
    exact n2
  · rw [v212_v, e16]
/-- some months of both sides -/
def MJ (q : QT) (cc gc : Nat) (H M0 : pm_H) (_ : Nat) (a b : pm_H) : Prop := (HC q cc gc a ∧ HC q cc gc b) ∧ (frm [13, 14] [(13, 5), (13, 6)] H a ∧ frm [170] [] M0 b) ∧ RS cc gc (Ar a 14) (Ar a 15) (Ar a 16) (Ar a 17) (Ar a 18) (Fi a 13 5) (Fi a 13 6) (Ar b 170) ∧ RI cc gc (Ar b 170)
theorem mon_lp {M0 : pm_H} (c1 : HC q cc gc H) (c0 : HC q cc gc M0) (r1 : RS cc gc (Ar H 14) (Ar H 15) (Ar H 16) (Ar H 17) (Ar H 18) (Fi H 13 5) (Fi H 13 6) (Ar M0 170)) (r2 : RI cc gc (Ar M0 170)) (rm : RMm cc gc H M0) (m : Nat) : MJ q cc gc H M0 (0 + m) (lp (fun _ a => v42 q cc gc a) m 0 H) (lp (fun _ a => v219 q cc gc a) m 0 M0) := by
  refine lp_rl (P := MJ q cc gc H M0) m 0 H M0 ⟨⟨c1, c0⟩, ⟨fr_0, fr_0⟩, r1, r2⟩ (fun k a b _ _ p => ?_)
  obtain ⟨⟨p1, p2⟩, ⟨p3, p4⟩, p5, p6⟩ := p
  have rm2 : RMm cc gc a b := by
    unfold RMm
    rw [Ar_e (p3.1 6 rfl), Ar_e (p3.1 7 rfl), Ar_e (p3.1 9 rfl), Ar_e (p3.1 10 rfl), Ar_e (p3.1 11 rfl), Ar_e (p4.1 164 rfl), Ar_e (p4.1 165 rfl), Ar_e (p4.1 166 rfl), Ar_e (p4.1 167 rfl), Ar_e (p4.1 168 rfl)]
    exact rm
  obtain ⟨n1, n2⟩ := mon_rel p1 p2 rm2 p5 p6
  obtain ⟨a1, a2⟩ := v42_fr p1
  obtain ⟨b1, b2⟩ := v219_fr p2
  refine ⟨⟨a1, b1⟩, ⟨fr_g rfl rfl a2 p3, fr_g rfl rfl b2 p4⟩, ?_, n2⟩
  rw [Ar_e (a2.1 15 rfl), Ar_e (a2.1 16 rfl), Ar_e (a2.1 17 rfl), Ar_e (a2.1 18 rfl)]
  exact n1
/-- months -/
theorem mon_sr {m : Nat} {A B : Int64} (hc : HC q cc gc h) (s : SRq q cc gc h) (hfi : fi < 16) (hsi : si ≤ 15) (pa : ∀ j, j < si → RSb cc gc (27 + 6 * ((fi + j) % 16)) h (fun k => Ar h 178 (96 * j + k)) ∧ RI cc gc (fun k => Ar h 178 (96 * j + k))) (xp : XP q cc gc fi si h H) (hin : in_b ((nI m).toInt64) (Int64.ofNat 0) (60 : Int64) = true) (e1 : h1 = v56 q cc gc (v140 q cc gc H m) A B) (c2 : HC q cc gc (v223 q cc gc h1 si m).2) : SR (v223 q cc gc h1 si m).2 ∧ (v223 q cc gc h1 si m).1 = v270 q cc gc ((Fi (v140 q cc gc H m) 13 5) &&& ((Fi h 13 5) ^^^ (Int32.ofInt (-1)))) := by
  obtain ⟨c140, f140⟩ := v140_fr (m := m) xp.2.2
  obtain ⟨c56, f56⟩ := v56_fr (v := A) (w := B) c140
  rw [← e1] at c56 f56
  have fX : frm [3, 4, 13, 14] [(3, 1), (13, 5), (13, 6)] H h1 := fr_g rfl rfl f56 (fr_g rfl rfl f140 fr_0)
  have hiX := hiX_of xp fX rfl
  obtain ⟨⟨r1, r2⟩, r3, -, c0⟩ := push_rel s hc.qq xp hiX c56 hsi
  have a94 : Ar h1 170 94 = Fi h 13 5 := by
    rw [Ar_e (hiX 170 (by decide))]
    exact (s.2.1.1.2.2.2.2.2.1).symm
  have nn : v223 q cc gc h1 si m = cond (in_b ((nI m).toInt64) (Int64.ofNat 0) (60 : Int64)) ((v212 q cc gc (v167 q cc gc (v167 q cc gc (fset (v223_33 q cc gc si m ((Ar h1 170) 94) m 0 (v211 q cc gc (fset h1 162 0 (.int (nI 0))) si)) 162 1 (.int (nI 0))) ((((Ar (v223_33 q cc gc si m ((Ar h1 170) 94) m 0 (v211 q cc gc (fset h1 162 0 (.int (nI 0))) si)) 170) 94) &&& (((Ar h1 170) 94) ^^^ (Int32.ofInt (-1)))).toInt64)) ((v177 q cc gc (Ar (v223_33 q cc gc si m ((Ar h1 170) 94) m 0 (v211 q cc gc (fset h1 162 0 (.int (nI 0))) si)) 170)).toInt64)) si (v270 q cc gc (((Ar (v223_33 q cc gc si m ((Ar h1 170) 94) m 0 (v211 q cc gc (fset h1 162 0 (.int (nI 0))) si)) 170) 94) &&& (((Ar h1 170) 94) ^^^ (Int32.ofInt (-1)))))).1, (v212 q cc gc (v167 q cc gc (v167 q cc gc (fset (v223_33 q cc gc si m ((Ar h1 170) 94) m 0 (v211 q cc gc (fset h1 162 0 (.int (nI 0))) si)) 162 1 (.int (nI 0))) ((((Ar (v223_33 q cc gc si m ((Ar h1 170) 94) m 0 (v211 q cc gc (fset h1 162 0 (.int (nI 0))) si)) 170) 94) &&& (((Ar h1 170) 94) ^^^ (Int32.ofInt (-1)))).toInt64)) ((v177 q cc gc (Ar (v223_33 q cc gc si m ((Ar h1 170) 94) m 0 (v211 q cc gc (fset h1 162 0 (.int (nI 0))) si)) 170)).toInt64)) si (v270 q cc gc (((Ar (v223_33 q cc gc si m ((Ar h1 170) 94) m 0 (v211 q cc gc (fset h1 162 0 (.int (nI 0))) si)) 170) 94) &&& (((Ar h1 170) 94) ^^^ (Int32.ofInt (-1)))))).2) ((Int32.ofInt (-1)), fset h1 162 0 (.int (nI 0))) := rfl
  rw [nn, hin] at c2 ⊢
  generalize eM : v211 q cc gc (fset h1 162 0 (.int (nI 0))) si = M0 at *
  have j := mon_lp xp.2.2 c0 r1 r2 r3 m
  have j : MJ q cc gc H M0 (0 + m) (v140 q cc gc H m) (v223_33 q cc gc si m ((Ar h1 170) 94) m 0 M0) := j
  generalize v223_33 q cc gc si m ((Ar h1 170) 94) m 0 M0 = K at *
  obtain ⟨⟨-, cK⟩, ⟨-, fK⟩, n1, n2⟩ := j
  have e94 : Ar K 170 94 = Fi (v140 q cc gc H m) 13 5 := (n1.2.2.2.2.2.1).symm
  rw [a94, e94] at c2 ⊢
  have c3 : HC q cc gc (fset K 162 1 (.int (nI 0))) := hc_f rfl rfl (by decide) rfl cK
  obtain ⟨c4, f4⟩ := v167_fr (v := ((Fi (v140 q cc gc H m) 13 5) &&& ((Fi h 13 5) ^^^ (Int32.ofInt (-1)))).toInt64) c3
  obtain ⟨c5, f5⟩ := v167_fr (v := (v177 q cc gc (Ar K 170)).toInt64) c4
  have f6 : frm [162, 163] [(162, 1)] K (v167 q cc gc (v167 q cc gc (fset K 162 1 (.int (nI 0))) (((Fi (v140 q cc gc H m) 13 5) &&& ((Fi h 13 5) ^^^ (Int32.ofInt (-1)))).toInt64)) ((v177 q cc gc (Ar K 170)).toInt64)) := fr_g rfl rfl f5 (fr_g rfl rfl f4 (fr_f rfl rfl fr_0))
  generalize v167 q cc gc (v167 q cc gc (fset K 162 1 (.int (nI 0))) (((Fi (v140 q cc gc H m) 13 5) &&& ((Fi h 13 5) ^^^ (Int32.ofInt (-1)))).toInt64)) ((v177 q cc gc (Ar K 170)).toInt64) = M1 at *
  have fM : frm [162, 163, 170] [(162, 1)] (v211 q cc gc (fset h1 162 0 (.int (nI 0))) si) M1 := by
    rw [eM]
    exact fr_g rfl rfl f6 (fr_g rfl rfl fK fr_0)
  refine ⟨act_sr hc s hfi hsi pa xp fX (by decide) c56 fM (by decide) c5 fr_0 (W2 := []) (V2 := []) (by decide) rfl c2 ⟨?_, ?_⟩, v212_v⟩
  · have eb : ∀ a, (List.elem a [3, 4]) = false → Ar h1 a = Ar (v140 q cc gc H m) a := fun a e => Ar_e (f56.1 a e)
    rw [eb 14 rfl, eb 15 rfl, eb 16 rfl, eb 17 rfl, eb 18 rfl, Fi_e (f56.1 13 rfl), Fi_e (f56.1 13 rfl), Ar_e (f6.1 170 rfl)]
    exact n1
  · rw [Ar_e (f6.1 170 rfl)]
    exact n2
/-- what the reference takes back -/
theorem v214_ar {u : Nat} : (∀ k, k < 96 → Ar (v214_26 q cc gc u 96 0 h) 170 k = Ar h 178 (96 * u + k)) ∧ Ar (v214_26 q cc gc u 96 0 h) 178 = Ar h 178 := by
  have z := lp_in (f := fun i a => v214_26b q cc gc a u i) (P := fun i a => (∀ k, k < i → Ar a 170 k = Ar h 178 (96 * u + k)) ∧ Ar a 178 = Ar h 178) 96 0 h ⟨fun k hk => absurd hk (by omega), rfl⟩ (by
    intro k a _ _ p
    obtain ⟨p1, p2⟩ := p
    refine ⟨fun j hj => ?_, ?_⟩
    · show Ar (aset a 170 96 (upd (Ar a 170) k ((Ar a 178) (96 * u + k)))) 170 j = _
      rw [Ar_s]
      by_cases y : j = k
      · rw [y, up_e rfl, p2]
      · rw [up_n y]
        exact p1 j (by omega)
    · show Ar (aset a 170 96 (upd (Ar a 170) k ((Ar a 178) (96 * u + k)))) 178 = _
      rw [Ar_n (by decide)]
      exact p2)
  exact ⟨fun k hk => z.1 k (by omega), z.2⟩
/-- undo, where something can be undone -/
theorem und_sr (hc : HC q cc gc h) (s : SRq q cc gc h) (hfi : fi < 16) (hsi : si ≤ 15) (hs0 : si ≠ 0) (f1 : Fi h 25 1 = nI fi) (pa : ∀ j, j < si → RSb cc gc (27 + 6 * ((fi + j) % 16)) h (fun k => Ar h 178 (96 * j + k)) ∧ RI cc gc (fun k => Ar h 178 (96 * j + k))) : SR (v214 q cc gc (v101 q cc gc h fi si).2 si).2 ∧ (v101 q cc gc h fi si).1 = nI (si - 1) ∧ (v214 q cc gc (v101 q cc gc h fi si).2 si).1 = nI (si - 1) := by
  have e1 : v101 q cc gc h fi si = (nI (si - 1), cp73 (fset h 25 2 (.int (nI (si - 1)))) 13 (27 + 6 * ((fi + (si - 1)) % 16))) := by
    unfold v101
    rw [decide_eq_true hs0]
    rfl
  rw [e1]
  dsimp only
  have cA : HC q cc gc (fset h 25 2 (.int (nI (si - 1)))) := hc_f rfl rfl (by decide) rfl hc
  have c1 : HC q cc gc (cp73 (fset h 25 2 (.int (nI (si - 1)))) 13 (27 + 6 * ((fi + (si - 1)) % 16))) := cp73_hc rfl cA
  have x0 : ∀ i, (i < 13 ∨ 19 ≤ i) → cp73 (fset h 25 2 (.int (nI (si - 1)))) 13 (27 + 6 * ((fi + (si - 1)) % 16)) i = fset h 25 2 (.int (nI (si - 1))) i := fun i hi => cp73_ne (by omega)
  obtain ⟨p1, p2⟩ := pa (si - 1) (by omega)
  have n1 : RSb cc gc 13 (cp73 (fset h 25 2 (.int (nI (si - 1)))) 13 (27 + 6 * ((fi + (si - 1)) % 16))) (fun k => Ar h 178 (96 * (si - 1) + k)) := RSb_cp hc.cb hc.gb rfl cA.wt (RSb_e (fun i h1 h2 => fs_ne (by omega)) p1)
  generalize cp73 (fset h 25 2 (.int (nI (si - 1)))) 13 (27 + 6 * ((fi + (si - 1)) % 16)) = X at *
  have e2 : v214 q cc gc X si = (nI (si - 1), v214_26 q cc gc (si - 1) 96 0 (fset (fset X 162 0 (.int (nI 0))) 162 27 (.int (nI (si - 1))))) := by
    unfold v214
    rw [decide_eq_true hs0]
    rfl
  rw [e2]
  dsimp only
  have cB : HC q cc gc (fset (fset X 162 0 (.int (nI 0))) 162 27 (.int (nI (si - 1)))) := hc_f rfl rfl (by decide) rfl (hc_f rfl rfl (by decide) rfl c1)
  obtain ⟨c2, g2⟩ := v214_26_fr (z162_27 := si - 1) (by omega) (j := 96) (i := 0) cB
  obtain ⟨a1, a2⟩ := v214_ar (q := q) (cc := cc) (gc := gc) (u := si - 1) (h := fset (fset X 162 0 (.int (nI 0))) 162 27 (.int (nI (si - 1))))
  have b178 : Ar (fset (fset X 162 0 (.int (nI 0))) 162 27 (.int (nI (si - 1)))) 178 = Ar h 178 := Ar_f.trans (Ar_f.trans ((Ar_e (x0 178 (by decide))).trans Ar_f))
  have b27 : Fi (fset (fset X 162 0 (.int (nI 0))) 162 27 (.int (nI (si - 1)))) 162 27 = nI (si - 1) := Fi_s (hc_f (q := q) (cc := cc) (gc := gc) rfl rfl (by decide) rfl c1).wt (by decide) rfl (by decide) rfl
  have lo : ∀ a, a ≠ 162 → fset (fset X 162 0 (.int (nI 0))) 162 27 (.int (nI (si - 1))) a = X a := fun a ha => (fs_ne ha).trans (fs_ne ha)
  have b47 : Fi (fset (fset X 162 0 (.int (nI 0))) 162 27 (.int (nI (si - 1)))) 162 47 = Fi h 162 47 := (Fi_n (Or.inr (by decide))).trans ((Fi_n (Or.inr (by decide))).trans ((Fi_e (x0 162 (by decide))).trans (Fi_e (fs_ne (by decide)))))
  generalize fset (fset X 162 0 (.int (nI 0))) 162 27 (.int (nI (si - 1))) = Y at *
  have f27 : Fi (v214_26 q cc gc (si - 1) 96 0 Y) 162 27 = nI (si - 1) := (Fi_e (g2.1 162 rfl)).trans b27
  have f47 : Fi (v214_26 q cc gc (si - 1) 96 0 Y) 162 47 = Fi h 162 47 := (Fi_e (g2.1 162 rfl)).trans b47
  have ne1 : ∀ a, a ≠ 170 → (List.elem a [170]) = false := fun a h1 => by
    cases z : List.elem a [170] with
    | false => rfl
    | true =>
      have := List.elem_iff.mp z
      simp at this
      omega
  have cs : ∀ a, a ≠ 170 → a ≠ 162 → a ≠ 25 → (a < 13 ∨ 19 ≤ a) → v214_26 q cc gc (si - 1) 96 0 Y a = h a := fun a h1 h2 h3 h4 => (g2.1 a (ne1 a h1)).trans ((lo a h2).trans ((x0 a h4).trans (fs_ne h3)))
  have ck : ∀ a, CK.elem a = true → v214_26 q cc gc (si - 1) 96 0 Y a = h a := fun a e => by
    have w := List.all_eq_true.mp CK_un a (List.elem_iff.mp e)
    have w := of_decide_eq_true w
    exact cs a w.1 w.2.1 w.2.2.1 w.2.2.2
  have ka : kpt AK h (v214_26 q cc gc (si - 1) 96 0 Y) := fun a e => Ar_e (ck a (List.elem_iff.mpr (List.mem_append_left _ (List.elem_iff.mp e))))
  have kf : kpf FK h (v214_26 q cc gc (si - 1) 96 0 Y) := by
    intro c g e
    have e := List.elem_iff.mp e
    simp only [FK, List.mem_cons, Prod.mk.injEq, List.not_mem_nil, or_false] at e
    rcases e with ⟨rfl, rfl⟩ | ⟨rfl, rfl⟩ | ⟨rfl, rfl⟩ | ⟨rfl, rfl⟩ | ⟨rfl, rfl⟩ | ⟨rfl, rfl⟩ | ⟨rfl, rfl⟩ | ⟨rfl, rfl⟩ | ⟨rfl, rfl⟩ | ⟨rfl, rfl⟩ | ⟨rfl, rfl⟩
    · exact Fi_e (ck 0 rfl)
    · exact Fi_e (ck 5 rfl)
    · exact Fi_e (ck 5 rfl)
    · exact Fi_e (ck 159 rfl)
    · exact f47
    · exact Fi_e (ck 124 rfl)
    · exact Fi_e (ck 124 rfl)
    · exact Fi_e (ck 130 rfl)
    · exact Fi_e (ck 130 rfl)
    · exact Fi_e (ck 136 rfl)
    · exact Fi_e (ck 136 rfl)
  have k9 : k0f 9 h (v214_26 q cc gc (si - 1) 96 0 Y) := fun fs p e1 e2 => ⟨fs, (ck 0 rfl).trans e1, e2⟩
  have rw1 : ∀ k, k < 96 → Ar (v214_26 q cc gc (si - 1) 96 0 Y) 170 k = Ar h 178 (96 * (si - 1) + k) := fun k hk => (a1 k hk).trans (congrFun b178 _)
  have X13 : ∀ i, 13 ≤ i → i < 13 + 6 → v214_26 q cc gc (si - 1) 96 0 Y i = X i := fun i h1 h2 => (g2.1 i (ne1 i (by omega))).trans (lo i (by omega))
  have x25 : v214_26 q cc gc (si - 1) 96 0 Y 25 = fset h 25 2 (.int (nI (si - 1))) 25 := (g2.1 25 rfl).trans ((lo 25 (by decide)).trans (x0 25 (by decide)))
  refine ⟨SR_act c2 hc.qq s ka kf k9 ⟨RS_cg hc.cb hc.gb rw1 (RSb_e X13 n1), RI_cg hc.cb hc.gb rw1 p2⟩ ⟨fi, si - 1, hfi, by omega, ⟨?_, ?_, f27⟩, fun j hj => ?_⟩, rfl, rfl⟩
  · exact (Fi_e x25).trans ((Fi_n (Or.inr (by decide))).trans f1)
  · exact (Fi_e x25).trans (Fi_s hc.wt (by decide) rfl (by decide) rfl)
  · obtain ⟨q1, q2⟩ := pa j (by omega)
    rw [a2, b178]
    exact ⟨RSb_e (fun i h1 h2 => cs i (by omega) (by omega) (by omega) (by omega)) q1, q2⟩
end SND
end MG95zzywx2
section MG95zzywx3
/-! the rule that isn't ruling, read from object 0 -/
section OTR
variable {n fr lo k pc sl p : Nat} {L : pm_L} {S : List Value} {h h' : pm_H} {R : pm_Rs}
def OTp (p : Nat) (h : pm_H) : Prop := ∃ fs, h 0 = .inr (10, fs) ∧ fs[9]? = some (.ref p)
theorem rn_g9 {j t : Nat} (ho : OTp p h) (e : h' 0 = h 0) (hi : pm_ins PT k pc = some (.getfield j, 3)) (hf : pm_fld PT (pm_o PT k) j = some (10, 9, t)) (hh : pm_run PT n fr lo k (pc, L, .ref 0 :: S, h', 198, sl) = some R) : ∃ m, pm_run PT m fr lo k (pc + 3, L, .ref p :: S, h', 198, sl) = some R := by
  obtain ⟨fs, r1, r2⟩ := ho
  exact rn_gfo hi hf (by decide) (e.trans r1) r2 hh
end OTR
end MG95zzywx3
section MG95zzywx4
/-! runs told exactly, written by ext.py -/
section EZ
def v10_4b (q : QT) (cc gc : Nat) (h : pm_H) (i : Nat) (x2 : Int32) : Int32 × pm_H := cond (pm_cmp .eq ((v8 q cc gc (Ar h 16) i) - (v7 q cc gc (Ar h 16) i)) 0) (x2, h) (x2 + Int32.ofInt 1, aset h 153 6 (upd (Ar h 153) ((x2).toNatClampNeg) ((v8 q cc gc (Ar h 16) i) - (v7 q cc gc (Ar h 16) i))))
def v10_4 (q : QT) (cc gc : Nat) (j i : Nat) (a : Int32 × pm_H) : Int32 × pm_H := lp (fun i a => v10_4b q cc gc a.2 i a.1) j i a
def v10 (q : QT) (cc gc : Nat) (h : pm_H) : Int32 × pm_H := ((v10_4 q cc gc cc 0 ((nI 0), h)).1, (v10_4 q cc gc cc 0 ((nI 0), h)).2)
end EZ
end MG95zzywx4
