/-! new GIFTS: both sides stay alike -/
section GFR
variable {n0 cc gc N c i : Nat} {q : QT} {h X0 X M M' : pm_H} {f tp g e d hd ha : Nat → Int32} {x m y : Int32}
theorem bit_and {x y : Int32} {k : Nat} : bit (x &&& y) k = (bit x k && bit y k) := by
  unfold bit
  rw [Int32.toBitVec_and, BitVec.getLsbD_and]
theorem bit_m1 : ∀ k, k < 32 → bit (Int32.ofInt (-1)) k = true := by decide +kernel
theorem bit_not {x : Int32} {k : Nat} (hk : k < 32) : bit (x ^^^ Int32.ofInt (-1)) k = !(bit x k) := by
  have e := bit_m1 k hk
  unfold bit at e ⊢
  rw [Int32.toBitVec_xor, BitVec.getLsbD_xor, e, Bool.xor_true]
/-- what the reference has done when i of the new GIFTS are there -/
def gmI (c : Nat) (h : pm_H) (i : Nat) (a : pm_H) : Prop := Ar a 173 = Ar h 173 ∧ (∀ k, k < i → Ar a 166 (c + k) = Ar h 173 (4 * k) ∧ Ar a 167 (c + k) = Ar h 173 (4 * k + 1) ∧ Ar a 168 (c + k) = Ar h 173 (4 * k + 2) ∧ Ar a 170 (78 + (c + k)) = Ar h 173 (4 * k + 3) ∧ Ar a 170 (86 + (c + k)) = shl (nI 1) (Ar h 173 (4 * k + 3))) ∧ (∀ k, k < c → Ar a 166 k = Ar h 166 k ∧ Ar a 167 k = Ar h 167 k ∧ Ar a 168 k = Ar h 168 k ∧ Ar a 170 (78 + k) = Ar h 170 (78 + k) ∧ Ar a 170 (86 + k) = Ar h 170 (86 + k)) ∧ (∀ k, k < 78 → Ar a 170 k = Ar h 170 k) ∧ Ar a 170 95 = Ar h 170 95 ∧ ∀ k, k < 32 → bit (Ar a 170 94) k = (bit (Ar h 170 94) k && !(decide (c ≤ k ∧ k < c + i)))
theorem gm_step {z1 : Nat} {t1 t2 t3 t4 : Int32} {a : pm_H} (hc : c + i < 8) (z : gmI c h i a) : gmI c h (i + 1) (w192_81b q cc gc a z1 c t1 t2 t3 t4 i) := by
  obtain ⟨a1, a2, a3, a4, a5, a6⟩ := z
  unfold w192_81b
  rw [a1]
  generalize hb : aset (aset (aset (aset a 166 8 (upd (Ar a 166) (c + i) (Ar h 173 (4 * i)))) 167 8 (upd (Ar a 167) (c + i) (Ar h 173 (4 * i + 1)))) 168 8 (upd (Ar a 168) (c + i) (Ar h 173 (4 * i + 2)))) 170 96 (upd (upd (upd (Ar a 170) (78 + (c + i)) (Ar h 173 (4 * i + 3))) (86 + (c + i)) (shl (nI 1) (Ar h 173 (4 * i + 3)))) 94 ((upd (upd (Ar a 170) (78 + (c + i)) (Ar h 173 (4 * i + 3))) (86 + (c + i)) (shl (nI 1) (Ar h 173 (4 * i + 3)))) 94 &&& (shl (nI 1) (nI (c + i)) ^^^ Int32.ofInt (-1)))) = b
  have b173 : Ar b 173 = Ar h 173 := by rw [← hb, Ar_n (by decide), Ar_n (by decide), Ar_n (by decide), Ar_n (by decide), a1]
  have b166 : Ar b 166 = upd (Ar a 166) (c + i) (Ar h 173 (4 * i)) := by rw [← hb, Ar_n (by decide), Ar_n (by decide), Ar_n (by decide), Ar_s]
  have b167 : Ar b 167 = upd (Ar a 167) (c + i) (Ar h 173 (4 * i + 1)) := by rw [← hb, Ar_n (by decide), Ar_n (by decide), Ar_s]
  have b168 : Ar b 168 = upd (Ar a 168) (c + i) (Ar h 173 (4 * i + 2)) := by rw [← hb, Ar_n (by decide), Ar_s]
  have b170 : Ar b 170 = upd (upd (upd (Ar a 170) (78 + (c + i)) (Ar h 173 (4 * i + 3))) (86 + (c + i)) (shl (nI 1) (Ar h 173 (4 * i + 3)))) 94 (Ar a 170 94 &&& (shl (nI 1) (nI (c + i)) ^^^ Int32.ofInt (-1))) := by
    rw [← hb, Ar_s, up_n (show 94 ≠ 86 + (c + i) by omega), up_n (show 94 ≠ 78 + (c + i) by omega)]
  clear hb
  refine ⟨Ar_f.trans b173, fun k hk => ?_, fun k hk => ?_, fun k hk => ?_, ?_, fun k hk => ?_⟩
  · rw [Ar_f, Ar_f, Ar_f, Ar_f, b166, b167, b168, b170, up_n (show 78 + (c + k) ≠ 94 by omega), up_n (show 86 + (c + k) ≠ 94 by omega), up_n (show 78 + (c + k) ≠ 86 + (c + i) by omega)]
    by_cases z : k = i
    · rw [z, up_e rfl, up_e rfl, up_e rfl, up_e rfl, up_e rfl]
      exact ⟨rfl, rfl, rfl, rfl, rfl⟩
    · rw [up_n (by omega), up_n (by omega), up_n (by omega), up_n (by omega), up_n (show 86 + (c + k) ≠ 86 + (c + i) by omega), up_n (show 86 + (c + k) ≠ 78 + (c + i) by omega)]
      exact a2 k (by omega)
  · rw [Ar_f, Ar_f, Ar_f, Ar_f, b166, b167, b168, b170, up_n (show k ≠ c + i by omega), up_n (show k ≠ c + i by omega), up_n (show k ≠ c + i by omega), up_n (show 78 + k ≠ 94 by omega), up_n (show 78 + k ≠ 86 + (c + i) by omega), up_n (show 78 + k ≠ 78 + (c + i) by omega), up_n (show 86 + k ≠ 94 by omega), up_n (show 86 + k ≠ 86 + (c + i) by omega), up_n (show 86 + k ≠ 78 + (c + i) by omega)]
    exact a3 k hk
  · rw [Ar_f, b170, up_n (by omega), up_n (by omega), up_n (by omega)]
    exact a4 k hk
  · rw [Ar_f, b170, up_n (by omega), up_n (by omega), up_n (by omega)]
    exact a5
  · rw [Ar_f, b170, up_e rfl, bit_and, bit_not hk, bit_shl (by omega) hk, a6 k hk]
    by_cases z : k = c + i
    · rw [decide_eq_true z, decide_eq_true (show c ≤ k ∧ k < c + (i + 1) by omega)]
      cases bit (Ar h 170 94) k <;> cases decide (c ≤ k ∧ k < c + i) <;> rfl
    · rw [decide_eq_false z, show decide (c ≤ k ∧ k < c + (i + 1)) = decide (c ≤ k ∧ k < c + i) from decide_eq_decide.mpr (by omega)]
      cases bit (Ar h 170 94) k <;> cases decide (c ≤ k ∧ k < c + i) <;> rfl
theorem w192_ar {F x1 x2 x3 : Int32} (h8 : c + N ≤ 8) : gmI c h N (w192 q cc gc h N c F x1 x2 x3).2 := by
  have y := lp_in (f := fun j b => w192_81b q cc gc b N c x1 x2 x3 F j) (P := gmI c h) N 0 h ⟨rfl, fun k hk => absurd hk (Nat.not_lt_zero k), fun _ _ => ⟨rfl, rfl, rfl, rfl, rfl⟩, fun _ _ => rfl, rfl, fun k hk => by rw [decide_eq_false (by omega)]; exact (Bool.and_true _).symm⟩ (fun k b _ hk z => gm_step (by omega) z)
  rw [Nat.zero_add] at y
  have y : gmI c h N (w192_81 q cc gc N c x1 x2 x3 F N 0 h) := y
  show gmI c h N (w190 q cc gc (w192_81 q cc gc N c x1 x2 x3 F N 0 h) N)
  unfold w190
  generalize w192_81 q cc gc N c x1 x2 x3 F N 0 h = u at y ⊢
  unfold gmI at y ⊢
  simp only [Ar_f]
  exact y
/-- a LINE that stands -/
theorem rgL_suc {t p : Nat} (z : (rgL f t cc p).1 = true) : dgi f p t (Int32.ofInt 0) (Int32.ofInt 4) = true ∧ dg f ((nbr f t 2 (p + 1) 0).1 + 1) t = true ∧ dgi f ((nbr f t 2 (p + 1) 0).1 + 2) t (Int32.ofInt 0) (nI cc - Int32.ofInt 1) = true := by
  unfold rgL at z
  cases z1 : dgi f p t (Int32.ofInt 0) (Int32.ofInt 4) with
  | false => rw [z1] at z; cases z
  | true =>
    rw [z1] at z
    dsimp only [cond] at z
    cases z2 : dg f (p + 1) t with
    | false => rw [z2] at z; cases z
    | true =>
      rw [z2] at z
      dsimp only at z
      generalize nbr f t 2 (p + 1) 0 = b at *
      unfold rgW at z
      cases z3 : decide (b.2 = 0) with
      | true => rw [z3] at z; cases z
      | false =>
        rw [z3] at z
        dsimp only [cond] at z
        unfold rgC at z
        cases z4 : decide (b.1 < t ∧ f b.1 = 44) with
        | false => rw [z4] at z; cases z
        | true =>
          rw [z4] at z
          dsimp only [cond] at z
          unfold rgE at z
          cases z5 : dg f (b.1 + 1) t with
          | false => rw [z5] at z; cases z
          | true =>
            rw [z5] at z
            dsimp only [cond] at z
            cases z6 : dgi f (b.1 + 1 + 1) t (Int32.ofInt 0) (nI cc - Int32.ofInt 1) with
            | false => rw [z6] at z; cases z
            | true => exact ⟨rfl, rfl, rfl⟩
theorem gps_cong {t : Nat} (hf : ∀ j, j < t → f j = tp j) : ∀ r, gps f t cc r = gps tp t cc r
  | 0 => rfl
  | r + 1 => by
    show (rgL f t cc (gps f t cc r)).2 + 1 = (rgL tp t cc (gps tp t cc r)).2 + 1
    rw [gps_cong hf r, rgL_cong hf]
theorem gn_of {y : Int32} {b : Nat} (h1 : 0 ≤ y.toInt) (h2 : y.toInt < (b : Int)) : ∃ k, k < b ∧ y = nI k := by
  obtain ⟨k, e, -, e2⟩ := hI_of h1
  exact ⟨k, by omega, e⟩
theorem gft_rel (h6 : cc ≤ 6) (h8 : gc + N ≤ 8) (X1 : gvX X0 X n0 cc gc f N) (hm : gmI gc M N M') (hv : ∀ k, k < N → gvM tp (min n0 55) cc k (Ar M 173)) (hf : ∀ j, j < n0 → f j = tp j) (s : RS cc gc g e d (Ar X0 17) (Ar X0 18) x m (Ar M 170)) (ri : RI cc gc (Ar M 170)) (rm : ∀ j, j < gc → (Ar X0 9 j = Ar M 166 j ∧ ∃ k, k < 5 ∧ Ar M 166 j = nI k) ∧ Ar X0 10 j = Ar M 167 j ∧ (Ar X0 11 j = Ar M 168 j ∧ ∃ k, k < 10 ∧ Ar M 168 j = nI k)) : RS cc (gc + N) g e d (Ar X 17) (Ar X 18) x m (Ar M' 170) ∧ RI cc (gc + N) (Ar M' 170) ∧ ∀ j, j < gc + N → (Ar X 9 j = Ar M' 166 j ∧ ∃ k, k < 5 ∧ Ar M' 166 j = nI k) ∧ Ar X 10 j = Ar M' 167 j ∧ (Ar X 11 j = Ar M' 168 j ∧ ∃ k, k < 10 ∧ Ar M' 168 j = nI k) := by
  obtain ⟨-, -, xo, xn⟩ := X1
  obtain ⟨-, mn, mo, m78, m95, mb⟩ := hm
  obtain ⟨s1, s2, s3, s4, s5, s6, s7⟩ := s
  obtain ⟨i1, i2, i3, i4, i5⟩ := ri
  have hf' : ∀ j, j < min n0 55 → f j = tp j := fun j hj => hf j (by omega)
  have e94 : Ar M' 170 94 = Ar M 170 94 := bit_ext (fun k hk => by
    rw [mb k hk]
    by_cases z : gc ≤ k
    · rw [i5 k z hk]
      rfl
    · rw [decide_eq_false (by omega)]
      exact Bool.and_true _)
  -- a new gift
  have new : ∀ k, k < N → ((Ar X 17 (gc + k) = Ar M' 170 (78 + (gc + k)) ∧ ∃ c, c < cc ∧ Ar M' 170 (78 + (gc + k)) = nI c) ∧ Ar X 18 (gc + k) = Ar M' 170 (86 + (gc + k))) ∧ (Ar X 9 (gc + k) = Ar M' 166 (gc + k) ∧ ∃ c, c < 5 ∧ Ar M' 166 (gc + k) = nI c) ∧ Ar X 10 (gc + k) = Ar M' 167 (gc + k) ∧ (Ar X 11 (gc + k) = Ar M' 168 (gc + k) ∧ ∃ c, c < 10 ∧ Ar M' 168 (gc + k) = nI c) := by
    intro k hk
    obtain ⟨y0, y1, y2, y3, y4, y5⟩ := xn k hk
    obtain ⟨u1, u2, u3⟩ := rgL_suc y0
    obtain ⟨w1, w2, w3, w4⟩ := hv k hk
    obtain ⟨v1, v2, v3, v4, v5⟩ := mn k hk
    rw [← gps_cong hf', ← nbr_cong hf'] at w2 w3 w4
    rw [← gps_cong hf'] at w1
    generalize gps f (min n0 55) cc k = p at *
    generalize nbr f (min n0 55) 2 (p + 1) 0 = b at *
    have p1 := (dgi_g0 u1).1
    have p2 := dg_lt u2
    have p3 := (dgi_g0 u3).1
    have e1 : f p = tp p := hf' p p1
    have e2 : f (b.1 + 1) = tp (b.1 + 1) := hf' _ p2
    have e3 : f (b.1 + 2) = tp (b.1 + 2) := hf' _ p3
    rw [dgi_rng (c := 5) (by decide) (by decide), Bool.and_eq_true] at u1
    rw [dgi_rng (by omega) (cc_m1 h6), Bool.and_eq_true] at u3
    have k1 := gn_of (dg_val u1.1).1 (of_decide_eq_true u1.2)
    have k2 := gn_of (b := 10) (dg_val u2).1 (by have := (dg_val u2).2; omega)
    have k3 := gn_of (dg_val u3.1).1 (of_decide_eq_true u3.2)
    rw [v1, v2, v3, v4, v5, w1, w2, w3, w4, ← e1, ← e2, ← e3]
    exact ⟨⟨⟨y4, k3⟩, y5⟩, ⟨y1, k1⟩, y2, y3, k2⟩
  have all : ∀ (P : Nat → Prop), (∀ j, j < gc → P j) → (∀ k, k < N → P (gc + k)) → ∀ j, j < gc + N → P j := by
    intro P h1 h2 j hj
    by_cases z : j < gc
    · exact h1 j z
    · have := h2 (j - gc) (by omega)
      rw [show gc + (j - gc) = j by omega] at this
      exact this
  refine ⟨⟨fun c hc => ?_, fun a b ha hb hab => ?_, fun a b ha hb => ?_, all _ (fun j hj => ?_) (fun k hk => (new k hk).1.1.1), all _ (fun j hj => ?_) (fun k hk => (new k hk).1.2), s6.trans e94.symm, s7.trans m95.symm⟩, ⟨fun c hc => ?_, fun a b ha hb hab => ?_, fun a b ha hb => ?_, all _ (fun j hj => ?_) (fun k hk => (new k hk).1.1.2), fun k h1 h2 => ?_⟩, all _ (fun j hj => ?_) (fun k hk => (new k hk).2)⟩
  · rw [m78 c (by omega)]
    exact s1 c hc
  · rw [m78 _ (by omega)]
    exact s2 a b ha hb hab
  · rw [m78 _ (by omega)]
    exact s3 a b ha hb
  · rw [(mo j hj).2.2.2.1, (xo j hj).2.2.2.1]
    exact s4 j hj
  · rw [(mo j hj).2.2.2.2, (xo j hj).2.2.2.2]
    exact s5 j hj
  · rw [m78 c (by omega)]
    exact i1 c hc
  · rw [m78 _ (by omega)]
    exact i2 a b ha hb hab
  · rw [m78 _ (by omega)]
    exact i3 a b ha hb
  · rw [(mo j hj).2.2.2.1]
    exact i4 j hj
  · rw [e94]
    exact i5 k (by omega) h2
  · obtain ⟨o1, o2, o3, -⟩ := mo j hj
    obtain ⟨q1, q2, q3, -⟩ := xo j hj
    rw [o1, o2, o3, q1, q2, q3]
    exact rm j hj
end GFR
