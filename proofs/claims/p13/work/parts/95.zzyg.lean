/-! one act: both sides keep alike -/
section ACT
variable {cc gc : Nat} {q : QT} {hx hm : pm_H} {V : Int32} {g c F : Nat}
theorem gx_cg {D : Int32} {kd ea G kd' ea' G' : Nat → Int32} {hol : Nat → Nat} {n : Nat} (h1 : ∀ j, j < n → kd j = kd' j ∧ ea j = ea' j) : ∀ i c, i ≤ n → G c = G' c → gx D kd ea hol G i c = gx D kd' ea' hol G' i c
  | 0, _, _, e => e
  | i + 1, c, hi, e => by
    unfold gx eat
    rw [(h1 i (by omega)).1, (h1 i (by omega)).2, gx_cg h1 i c (by omega) e]
theorem dy_cg {D : Int32} {kd ea G kd' ea' G' : Nat → Int32} {hol : Nat → Nat} {n : Nat} (h1 : ∀ j, j < n → kd j = kd' j ∧ ea j = ea' j) {i : Nat} (hi : i < n) (e : G (hol i) = G' (hol i)) : dy D kd ea hol G i = dy D kd' ea' hol G' i := by
  unfold dy
  rw [gx_cg h1 i (hol i) (by omega) e]
  unfold eat
  rw [(h1 i hi).1, (h1 i hi).2]
theorem mon_G {a b : Int32} {k : Nat} (h1 : 0 ≤ a.toInt ∧ a.toInt ≤ 999) (hk : k < 10) (e : b = nI k) : 0 ≤ (imin (nI 999) (a + nI 2 * b)).toInt ∧ (imin (nI 999) (a + nI 2 * b)).toInt ≤ 999 := by
  rw [e, hI_mul, imin_i, nI_toInt (by decide)]
  have : (a + nI (2 * k)).toInt = a.toInt + (2 * k : Nat) := by
    rw [Int32.toInt_add, nI_toInt (by omega), Int.bmod_eq_of_le] <;> omega
  rw [this]
  omega
theorem nI_rgz {k n : Nat} {b : Int32} (hk : k < n) (hn : n ≤ 1000) (e : b = nI k) : 0 ≤ b.toInt ∧ b.toInt ≤ (n : Int) - 1 := by
  rw [e, nI_toInt (by omega)]
  omega
/-- a GIFT IS SENT -/
theorem send_rel (cx : HC q cc gc hx) (s : RS cc gc (Ar hx 14) (Ar hx 15) (Ar hx 16) (Ar hx 17) (Ar hx 18) (Fi hx 13 5) (Fi hx 13 6) (Ar hm 170)) (ri : RI cc gc (Ar hm 170)) (hV : V = (v201 q cc gc hm g c).1) (hg : g < gc) (hc : c < cc) (hF : F < cc) (eF : Ar hm 170 (78 + g) = nI F) (hn : F ≠ c) : RS cc gc (Ar hx 14) (Ar (v40 q cc gc hx g c V) 15) (Ar (v40 q cc gc hx g c V) 16) (Ar (v40 q cc gc hx g c V) 17) (Ar (v40 q cc gc hx g c V) 18) (Fi hx 13 5) (Fi hx 13 6) (Ar (v217 q cc gc hm g c).2 170) ∧ RI cc gc (Ar (v217 q cc gc hm g c).2 170) ∧ (v217 q cc gc hm g c).1 = Ar (v40 q cc gc hx g c V) 15 (c * 6 + F) ∧ 0 ≤ (v217 q cc gc hm g c).1.toInt := by
  have h6 := cx.cb
  have h8 := cx.gb
  have eX : Ar hx 17 g = nI F := (s.2.2.2.1 g hg).trans eF
  obtain ⟨b1, b2, b3, b4⟩ := v40_ar (q := q) (cc := cc) (gc := gc) (h := hx) (g := g) (c := c) (V := V)
  rw [eX, nI_clamp (by omega)] at b1 b2
  obtain ⟨hz, m1, m2⟩ := v217_is (q := q) (h := hm) hg hc (by rw [eF, nI_clamp (by omega)]; exact hn)
  rw [eF, nI_clamp (by omega), ← hV] at m1 m2
  have hdead : ∀ G, v173 q cc gc (sndE (Ar hm 170) F c G) g = v173 q cc gc (Ar hm 170) g := by
    intro G
    unfold v173
    rw [sndE_n (by omega)]
  rw [hdead] at m2
  have eg : v77 q cc gc (Ar hx 18) (Fi hx 13 5) g c (Ar hx 16 (F * 6 + c)) V = cond (v164 q cc gc (Ar hm 170 (86 + g)) (nI c)) (Int32.ofInt (-6)) (cond (v173 q cc gc (Ar hm 170) g) (Int32.ofInt (-4)) (v216 q cc gc V (Ar hm 170 (42 + 6 * F + c)))) := by
    unfold v77
    rw [s.2.2.1 F c (by omega) (by omega), eq_75 s hg, eq_74 s g]
    exact gain_eq (ri.2.2.1 F c (by omega) (by omega)).1.1
  rw [eg] at b1
  have hVr : 0 ≤ V.toInt ∧ V.toInt ≤ 999 := by
    rw [hV, v201_val]
    exact clamp_i (k := 999) (by decide)
  refine ⟨?_, ?_, ?_, ?_⟩
  · rw [m2, Ar_s, b1, b2, b3, b4, eq_75 s hg, eq_74 s g]
    exact RS_snd s ri h6 h8 hg hc hF hn
  · rw [m2, Ar_s]
    exact RI_snd ri h6 h8 hg hc hF hn hVr
  · rw [m1, b1, up_e rfl]
    unfold sndE
    rw [up_e rfl, s.2.1 c F hc hF (fun y => hn y.symm)]
  · rw [m1]
    unfold sndE
    rw [up_e rfl]
    exact (clamp_i (k := 20) (by decide)).1
/-- a MONTH goes -/
theorem mon_rel (cx : HC q cc gc hx) (cm : HC q cc gc hm) (rm : RMm cc gc hx hm) (s : RS cc gc (Ar hx 14) (Ar hx 15) (Ar hx 16) (Ar hx 17) (Ar hx 18) (Fi hx 13 5) (Fi hx 13 6) (Ar hm 170)) (ri : RI cc gc (Ar hm 170)) : RS cc gc (Ar (v42 q cc gc hx) 14) (Ar hx 15) (Ar hx 16) (Ar hx 17) (Ar hx 18) (Fi (v42 q cc gc hx) 13 5) (Fi (v42 q cc gc hx) 13 6) (Ar (v219 q cc gc hm) 170) ∧ RI cc gc (Ar (v219 q cc gc hm) 170) := by
  have h6 := cx.cb
  have h8 := cx.gb
  obtain ⟨r1, r2, r3, r4, r5⟩ := ri
  obtain ⟨hol, hH⟩ : ∃ hol : Nat → Nat, ∀ j, j < gc → Ar hm 170 (78 + j) = nI (hol j) ∧ hol j < cc := by
    refine ⟨fun j => (Ar hm 170 (78 + j)).toNatClampNeg, fun j hj => ?_⟩
    obtain ⟨c, hc, e⟩ := r4 j hj
    show Ar hm 170 (78 + j) = nI ((Ar hm 170 (78 + j)).toNatClampNeg) ∧ (Ar hm 170 (78 + j)).toNatClampNeg < cc
    rw [e, nI_clamp (by omega)]
    exact ⟨rfl, hc⟩
  have gR : ∀ c, c < cc → 0 ≤ (imin (nI 999) (Ar hm 170 c + nI 2 * Ar hm 164 c)).toInt ∧ (imin (nI 999) (Ar hm 170 c + nI 2 * Ar hm 164 c)).toInt ≤ 999 := by
    intro c hc
    obtain ⟨⟨-, k, hk, e⟩, -⟩ := rm.1 c hc
    exact mon_G (r1 c (by omega)) hk e
  have eE : ∀ j, j < gc → 0 ≤ (Ar hm 168 j).toInt ∧ (Ar hm 168 j).toInt ≤ 9 := by
    intro j hj
    obtain ⟨-, -, -, k, hk, e⟩ := rm.2 j hj
    exact nI_rgz hk (by decide) e
  have eqG : ∀ c, c < cc → imin (nI 999) (Ar hx 14 c + nI 2 * Ar hx 6 c) = imin (nI 999) (Ar hm 170 c + nI 2 * Ar hm 164 c) := by
    intro c hc
    rw [s.1 c (by omega), ((rm.1 c hc).1).1]
  have eK : ∀ j, j < gc → Ar hx 9 j = Ar hm 166 j ∧ Ar hx 11 j = Ar hm 168 j := fun j hj => ⟨((rm.2 j hj).1).1, ((rm.2 j hj).2.2).1⟩
  obtain ⟨x1, x2, x3, x4⟩ := mon_x (hol := hol) h8 h6 cx (fun j hj => ⟨(s.2.2.2.1 j hj).trans (hH j hj).1, by have := (hH j hj).2; omega⟩) (fun j hj => by rw [(eK j hj).2]; exact eE j hj) (fun c hc => by rw [eqG c hc]; exact gR c hc)
  obtain ⟨m1, m2, m3, m4, m5, m6⟩ := mon_m (hol := hol) h8 h6 cm hH eE gR
  have eD : Fi hx 13 5 = Ar hm 170 94 := s.2.2.2.2.2.1
  have ef5 : Fi (v42 q cc gc hx) 13 5 = Fi (v42_2 q cc gc cc 0 hx) 13 5 := Fi_n (Or.inr (by decide))
  have ef6 : Fi (v42 q cc gc hx) 13 6 = Fi hx 13 6 + nI 1 := by
    show Fi (fset (v42_2 q cc gc cc 0 hx) 13 6 (.int (Fi hx 13 6 + nI 1))) 13 6 = _
    exact Fi_s x1.wt (by decide) rfl (by decide) rfl
  have eag : Ar (v42 q cc gc hx) 14 = Ar (v42_2 q cc gc cc 0 hx) 14 := Ar_f
  have gxe : ∀ k, k < cc → gx (Fi hx 13 5) (Ar hx 9) (Ar hx 11) hol (fun c => imin (nI 999) (Ar hx 14 c + nI 2 * Ar hx 6 c)) gc k = gx (Ar hm 170 94) (Ar hm 166) (Ar hm 168) hol (fun c => imin (nI 999) (Ar hm 170 c + nI 2 * Ar hm 164 c)) gc k := by
    intro k hk
    rw [eD]
    exact gx_cg eK gc k (Nat.le_refl _) (eqG k hk)
  have bits : Fi (v42_2 q cc gc cc 0 hx) 13 5 = Ar (v219 q cc gc hm) 170 94 := by
    refine bit_ext (fun k hk => ?_)
    rw [x4 k hk, m5 k hk, eD]
    by_cases z : k < gc
    · rw [decide_eq_true z, decide_eq_true (hH k z).2, Bool.and_true, dy_cg (G := fun c => imin (nI 999) (Ar hx 14 c + nI 2 * Ar hx 6 c)) (G' := fun c => imin (nI 999) (Ar hm 170 c + nI 2 * Ar hm 164 c)) eK z (eqG (hol k) (hH k z).2)]
    · rw [decide_eq_false z, Bool.false_and, Bool.false_and]
  refine ⟨⟨fun k hk => ?_, fun a b h1 h2 h3 => ?_, fun a b h1 h2 => ?_, fun j hj => ?_, fun j hj => ?_, ?_, ?_⟩, fun k hk => ?_, fun a b h1 h2 h3 => ?_, fun a b h1 h2 => ?_, fun j hj => ?_, fun k h1 h2 => ?_⟩
  · rw [eag, x3 k hk, m3 k hk]
    by_cases z : k < cc
    · rw [if_pos z, if_pos z]
      exact gxe k z
    · rw [if_neg z, if_neg z]
      exact s.1 k hk
  · rw [m4 _ (by omega) (by omega)]
    exact s.2.1 a b h1 h2 h3
  · rw [m4 _ (by omega) (by omega)]
    exact s.2.2.1 a b h1 h2
  · rw [m4 _ (by omega) (by omega)]
    exact s.2.2.2.1 j hj
  · rw [m4 _ (by omega) (by omega)]
    exact s.2.2.2.2.1 j hj
  · rw [ef5]
    exact bits
  · rw [ef6, m6, s.2.2.2.2.2.2]
  · rw [m3 k hk]
    by_cases z : k < cc
    · rw [if_pos z]
      exact gx_i gR eE gc k (Nat.le_refl _) z
    · rw [if_neg z]
      exact r1 k hk
  · rw [m4 _ (by omega) (by omega)]
    exact r2 a b h1 h2 h3
  · rw [m4 _ (by omega) (by omega)]
    exact r3 a b h1 h2
  · rw [m4 _ (by omega) (by omega)]
    exact r4 j hj
  · rw [m5 k h2, r5 k h1 h2, decide_eq_false (by omega)]
    rfl
/-- an envoy is heard -/
theorem env_rel {a b : Nat} {y : Int32} (h6 : cc ≤ 6) (h8 : gc ≤ 8) (s : RS cc gc (Ar hx 14) (Ar hx 15) (Ar hx 16) (Ar hx 17) (Ar hx 18) (Fi hx 13 5) (Fi hx 13 6) (Ar hm 170)) (ri : RI cc gc (Ar hm 170)) (ha : a < cc) (hb : b < cc) (hab : a ≠ b) : RS cc gc (Ar hx 14) (upd (Ar hx 15) (a * 6 + b) (imax (nI 0) (imin (nI 20) (Ar hx 15 (a * 6 + b) + y)))) (Ar hx 16) (Ar hx 17) (Ar hx 18) (Fi hx 13 5) (Fi hx 13 6) (upd (Ar hm 170) (6 + 6 * a + b) (imax (nI 0) (imin (nI 20) (Ar hm 170 (6 + 6 * a + b) + y)))) ∧ RI cc gc (upd (Ar hm 170) (6 + 6 * a + b) (imax (nI 0) (imin (nI 20) (Ar hm 170 (6 + 6 * a + b) + y)))) := by
  obtain ⟨r1, r2, r3, r4, r5⟩ := ri
  refine ⟨⟨fun k hk => ?_, fun a' b' h1 h2 h3 => ?_, fun a' b' h1 h2 => ?_, fun j hj => ?_, fun j hj => ?_, ?_, ?_⟩, fun k hk => ?_, fun a' b' h1 h2 h3 => ?_, fun a' b' h1 h2 => ?_, fun j hj => ?_, fun k h1 h2 => ?_⟩
  · rw [up_n (by omega)]
    exact s.1 k hk
  · by_cases z : a' * 6 + b' = a * 6 + b
    · rw [up_e z, up_e (by omega), s.2.1 a b ha hb hab]
    · rw [up_n z, up_n (by omega)]
      exact s.2.1 a' b' h1 h2 h3
  · rw [up_n (by omega)]
    exact s.2.2.1 a' b' h1 h2
  · rw [up_n (by omega)]
    exact s.2.2.2.1 j hj
  · rw [up_n (by omega)]
    exact s.2.2.2.2.1 j hj
  · rw [up_n (by omega)]
    exact s.2.2.2.2.2.1
  · rw [up_n (by omega)]
    exact s.2.2.2.2.2.2
  · rw [up_n (by omega)]
    exact r1 k hk
  · by_cases z : 6 + 6 * a' + b' = 6 + 6 * a + b
    · rw [up_e z]
      exact clamp_i (k := 20) (by decide)
    · rw [up_n z]
      exact r2 a' b' h1 h2 h3
  · rw [up_n (by omega)]
    exact r3 a' b' h1 h2
  · rw [up_n (by omega)]
    exact r4 j hj
  · rw [up_n (by omega)]
    exact r5 k h1 h2
/-- a DUE is forgiven -/
theorem fgv_rel {a b : Nat} (h6 : cc ≤ 6) (h8 : gc ≤ 8) (s : RS cc gc (Ar hx 14) (Ar hx 15) (Ar hx 16) (Ar hx 17) (Ar hx 18) (Fi hx 13 5) (Fi hx 13 6) (Ar hm 170)) (ri : RI cc gc (Ar hm 170)) (ha : a < cc) (hb : b < cc) : RS cc gc (Ar hx 14) (Ar hx 15) (upd (Ar hx 16) (a * 6 + b) (nI 0)) (Ar hx 17) (Ar hx 18) (Fi hx 13 5) (Fi hx 13 6) (upd (Ar hm 170) (42 + 6 * a + b) (nI 0)) ∧ RI cc gc (upd (Ar hm 170) (42 + 6 * a + b) (nI 0)) := by
  obtain ⟨r1, r2, r3, r4, r5⟩ := ri
  refine ⟨⟨fun k hk => ?_, fun a' b' h1 h2 h3 => ?_, fun a' b' h1 h2 => ?_, fun j hj => ?_, fun j hj => ?_, ?_, ?_⟩, fun k hk => ?_, fun a' b' h1 h2 h3 => ?_, fun a' b' h1 h2 => ?_, fun j hj => ?_, fun k h1 h2 => ?_⟩
  · rw [up_n (by omega)]
    exact s.1 k hk
  · rw [up_n (by omega)]
    exact s.2.1 a' b' h1 h2 h3
  · by_cases z : a' * 6 + b' = a * 6 + b
    · rw [up_e z, up_e (by omega)]
    · rw [up_n z, up_n (by omega)]
      exact s.2.2.1 a' b' h1 h2
  · rw [up_n (by omega)]
    exact s.2.2.2.1 j hj
  · rw [up_n (by omega)]
    exact s.2.2.2.2.1 j hj
  · rw [up_n (by omega)]
    exact s.2.2.2.2.2.1
  · rw [up_n (by omega)]
    exact s.2.2.2.2.2.2
  · rw [up_n (by omega)]
    exact r1 k hk
  · rw [up_n (by omega)]
    exact r2 a' b' h1 h2 h3
  · by_cases z : 42 + 6 * a' + b' = 42 + 6 * a + b
    · rw [up_e z]
      exact ⟨by decide, fun _ => rfl⟩
    · rw [up_n z]
      exact r3 a' b' h1 h2
  · rw [up_n (by omega)]
    exact r4 j hj
  · rw [up_n (by omega)]
    exact r5 k h1 h2
end ACT
