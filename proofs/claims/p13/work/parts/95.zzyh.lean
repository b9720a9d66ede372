/-! drawn numbers; what keeps the HOLDERS small numbers -/
section NAK
variable {q : QT} {cc gc g c : Nat} {h h' : pm_H} {x : Int32} {m : Nat}
def dN (x : Int32) : Nat := x.toNatClampNeg
theorem dN_irm (hm : m < 10000) (h0 : 0 < m) : ∃ k, k < m ∧ irm (ushr x (nI 16)) (nI m) = nI k := by
  have h1 := ag_ushr_ok ai_top (0, 16, 16) (0, 0, 65535) x (nI 16) (by decide) (ai_top_ok x).2.1 (ai_top_ok x).2.2 (by decide) (by decide)
  have h1 : av_ok (.int (ushr x (nI 16))) (0, 0, 65535) := h1
  generalize ushr x (nI 16) = u at h1 ⊢
  have em := nI_toInt (n := m) (by omega)
  have h2 := ag_rem_ok (0, 0, 65535) (0, (m : Int), (m : Int)) (0, 0, (m : Int) - 1) u (nI m) (by unfold ag_rem; exact if_pos ⟨by show (0 : Int) < (m : Int); omega, by decide⟩) h1.2.1 h1.2.2 (Int.le_of_eq em.symm) (Int.le_of_eq em)
  have h2 : av_ok (.int (irm u (nI m))) (0, 0, (m : Int) - 1) := h2
  have h3 : (0 : Int) ≤ (irm u (nI m)).toInt := h2.2.1
  have h4 : (irm u (nI m)).toInt ≤ (m : Int) - 1 := h2.2.2
  obtain ⟨k, hk, e, hx⟩ := ab_nn h3 (Int.le_refl 0)
  rw [hx] at h4
  exact ⟨k, by omega, e⟩
theorem en_d262 (hm : m < 10000) (h0 : 0 < m) : irm (ushr x (nI 16)) (nI m) = nI (dN (irm (ushr x (nI 16)) (nI m))) ∧ dN (irm (ushr x (nI 16)) (nI m)) < m := by
  obtain ⟨k, hk, e⟩ := dN_irm (x := x) hm h0
  have z : dN (nI k) = k := nI_clamp (by omega)
  rw [e, z]
  exact ⟨rfl, hk⟩
theorem en_d156 (hm : m < 10000) : cond (decide (m ≤ 0)) (nI 0) (irm (ushr x (nI 16)) (nI m)) = nI (dN (cond (decide (m ≤ 0)) (nI 0) (irm (ushr x (nI 16)) (nI m)))) ∧ dN (cond (decide (m ≤ 0)) (nI 0) (irm (ushr x (nI 16)) (nI m))) ≤ m - 1 := by
  cases z : decide (m ≤ 0) with
  | true =>
    have z0 : dN (nI 0) = 0 := nI_clamp (by omega)
    show nI 0 = nI (dN (nI 0)) ∧ dN (nI 0) ≤ m - 1
    rw [z0]
    exact ⟨rfl, Nat.zero_le _⟩
  | false =>
    have z := of_decide_eq_false z
    have h1 := en_d262 (x := x) hm (by omega)
    have h2 := h1.2
    show irm (ushr x (nI 16)) (nI m) = nI (dN (irm (ushr x (nI 16)) (nI m))) ∧ dN (irm (ushr x (nI 16)) (nI m)) ≤ m - 1
    exact ⟨h1.1, by omega⟩
def NAf (f : Nat → Int32) (l m b : Nat) : Prop := ∀ j, l ≤ j → j < m → f j = nI (f j).toNatClampNeg ∧ (f j).toNatClampNeg < b
theorem NAf_up {f : Nat → Int32} {l m b k : Nat} {v : Int32} (hv : (∃ z, z < b ∧ v = nI z) ∨ k < l ∨ m ≤ k) (hb : b ≤ 1000) (z : NAf f l m b) : NAf (upd f k v) l m b := by
  intro j h1 h2
  by_cases y : j = k
  · rw [up_e y]
    rcases hv with ⟨w, hw, rfl⟩ | hv | hv
    · rw [nI_clamp (by omega)]
      exact ⟨rfl, hw⟩
    · omega
    · omega
  · rw [up_n y]
    exact z j h1 h2
theorem NA_as {a n l m b : Nat} {f : Nat → Int32} (z : NAf f l m b) : NA (aset h a n f) a l m b := by
  show NAf (Ar (aset h a n f) a) l m b
  rw [Ar_s]
  exact z
theorem cp73_na (hw : HC q cc gc h) (z : NA h 17 0 8 6) : NA (cp73 h 19 13) 23 0 8 6 := by
  intro j h1 h2
  rw [show Ar (cp73 h 19 13) 23 j = Ar h 17 j from cp73_a (s := 19) (t := 13) (i := 4) (m := 8) (Or.inr (Or.inr (Or.inr (Or.inl ⟨rfl, rfl⟩)))) h2]
  exact z j h1 h2
theorem v145_na (hw : HC q cc gc h) (hc : c < 6) (z : NA h 23 0 8 6) : NA (v145 q cc gc h g c).2 23 0 8 6 := by
  unfold v145
  cases decide (¬ ((Ar h 23) g).toNatClampNeg = c) with
  | false => exact z
  | true =>
    have e := (v39t_fr (g := g) (c := c) hw).2.1 23 rfl
    show NAf (Ar (v40t q cc gc ((v39t q cc gc h g c).2) g c ((v39t q cc gc h g c).1)) 23) 0 8 6
    rw [v40t_ar.2.2.1, Ar_e e]
    exact NAf_up (Or.inl ⟨c, hc, rfl⟩) (by decide) z
theorem v217_na (hw : HC q cc gc h) (z : NA h 170 78 86 6) : NA (v217 q cc gc h g c).2 170 78 86 6 := by
  by_cases hg : g < gc
  · by_cases hc : c < cc
    · by_cases hn : ((Ar h 170 (78 + g)).toNatClampNeg) ≠ c
      · obtain ⟨h2, -, e⟩ := v217_is hg hc hn
        have h6 := hw.cb
        have h8 := hw.gb
        rw [e]
        refine NA_as (fun j h1 h2 => ?_)
        obtain ⟨i, rfl⟩ : ∃ i, j = 78 + i := ⟨j - 78, by omega⟩
        have hF := (z (78 + g) (by omega) (by omega)).2
        rw [snd_h (by omega) (by omega) (by omega) hF]
        by_cases y : i = g
        · rw [up_e y, nI_clamp (by omega)]
          exact ⟨rfl, by omega⟩
        · rw [up_n y]
          exact z _ h1 h2
      · have e : decide (¬ ((Ar h 170 (78 + g)).toNatClampNeg) = c) = false := decide_eq_false hn
        unfold v217
        rw [decide_eq_true hg, decide_eq_true hc, e]
        exact z
    · unfold v217
      rw [decide_eq_true hg, decide_eq_false hc]
      exact z
  · unfold v217
    rw [decide_eq_false hg]
    exact z
theorem v219_na (hw : HC q cc gc h) (z : NA h 170 78 86 6) : NA (v219 q cc gc h) 170 78 86 6 := by
  have h6 := hw.cb
  have h8 := hw.gb
  have z1 : NA (v219_2 q cc gc cc 0 h) 170 78 86 6 := lp_in (P := fun _ h => NA h 170 78 86 6) cc 0 h z (fun k a _ hk z => by
    show NA (v219_2b q cc gc a k) 170 78 86 6
    unfold v219_2b
    exact NA_as (NAf_up (Or.inr (Or.inl (by omega))) (by decide) z))
  have z2 : NA (v219_39 q cc gc gc 0 (v219_2 q cc gc cc 0 h)) 170 78 86 6 := lp_in (P := fun _ h => NA h 170 78 86 6) gc 0 _ z1 (fun k a _ hk z => by
    show NA (v219_39b q cc gc a k) 170 78 86 6
    have hF := (z (78 + k) (by omega) (by omega)).2
    unfold v219_39b
    cases v218 q cc gc (Ar a 166) (Ar a 170) k with
    | false => exact z
    | true => exact NA_as (NAf_up (Or.inr (Or.inl (by omega))) (by decide) (NAf_up (Or.inr (Or.inr (by omega))) (by decide) z)))
  exact NA_as (NAf_up (Or.inr (Or.inr (by omega))) (by decide) z2)
theorem v217t_na (hw : HC q cc gc h) (z : NA h 171 78 86 6) : NA (v217t q cc gc h g c).2 171 78 86 6 := by
  by_cases hg : g < gc
  · by_cases hc : c < cc
    · by_cases hn : ((Ar h 171 (78 + g)).toNatClampNeg) ≠ c
      · obtain ⟨h2, -, e⟩ := v217t_is hg hc hn
        have h6 := hw.cb
        have h8 := hw.gb
        rw [e]
        refine NA_as (fun j h1 h2 => ?_)
        obtain ⟨i, rfl⟩ : ∃ i, j = 78 + i := ⟨j - 78, by omega⟩
        have hF := (z (78 + g) (by omega) (by omega)).2
        rw [snd_h (by omega) (by omega) (by omega) hF]
        by_cases y : i = g
        · rw [up_e y, nI_clamp (by omega)]
          exact ⟨rfl, by omega⟩
        · rw [up_n y]
          exact z _ h1 h2
      · have e : decide (¬ ((Ar h 171 (78 + g)).toNatClampNeg) = c) = false := decide_eq_false hn
        unfold v217t
        rw [decide_eq_true hg, decide_eq_true hc, e]
        exact z
    · unfold v217t
      rw [decide_eq_true hg, decide_eq_false hc]
      exact z
  · unfold v217t
    rw [decide_eq_false hg]
    exact z
theorem v219t_na (hw : HC q cc gc h) (z : NA h 171 78 86 6) : NA (v219t q cc gc h) 171 78 86 6 := by
  have h6 := hw.cb
  have h8 := hw.gb
  have z1 : NA (v219t_2 q cc gc cc 0 h) 171 78 86 6 := lp_in (P := fun _ h => NA h 171 78 86 6) cc 0 h z (fun k a _ hk z => by
    show NA (v219t_2b q cc gc a k) 171 78 86 6
    unfold v219t_2b
    exact NA_as (NAf_up (Or.inr (Or.inl (by omega))) (by decide) z))
  have z2 : NA (v219t_39 q cc gc gc 0 (v219t_2 q cc gc cc 0 h)) 171 78 86 6 := lp_in (P := fun _ h => NA h 171 78 86 6) gc 0 _ z1 (fun k a _ hk z => by
    show NA (v219t_39b q cc gc a k) 171 78 86 6
    have hF := (z (78 + k) (by omega) (by omega)).2
    unfold v219t_39b
    cases v218 q cc gc (Ar a 166) (Ar a 171) k with
    | false => exact z
    | true => exact NA_as (NAf_up (Or.inr (Or.inl (by omega))) (by decide) (NAf_up (Or.inr (Or.inr (by omega))) (by decide) z)))
  exact NA_as (NAf_up (Or.inr (Or.inr (by omega))) (by decide) z2)
/-- the trial row is the row now -/
theorem v229_is : ∀ j, j < 96 → Ar (v229 q cc gc h) 171 j = Ar h 170 j := by
  have z := lp_in (f := fun i a => v229_2b q cc gc a i) (P := fun i a => Ar a 170 = Ar h 170 ∧ ∀ j, j < i → Ar a 171 j = Ar h 170 j) 96 0 h ⟨rfl, fun j hj => absurd hj (Nat.not_lt_zero j)⟩ (fun k a _ hk z => by
    show Ar (v229_2b q cc gc a k) 170 = Ar h 170 ∧ ∀ j, j < k + 1 → Ar (v229_2b q cc gc a k) 171 j = Ar h 170 j
    unfold v229_2b
    refine ⟨(Ar_n (by decide)).trans z.1, fun j hj => ?_⟩
    rw [Ar_s]
    by_cases y : j = k
    · rw [up_e y, y, z.1]
    · rw [up_n y]
      exact z.2 j (by omega))
  intro j hj
  unfold v229 v229_2
  exact z.2 j (by omega)
theorem v229_na (hw : HC q cc gc h) (z : NA h 170 78 86 6) : NA (v229 q cc gc h) 171 78 86 6 := by
  intro j h1 h2
  rw [v229_is j (by omega)]
  exact z j h1 h2
end NAK
