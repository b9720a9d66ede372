/-! ranks: both sides answer alike -/
section QR8
variable {sl cc gc g c : Nat} {q : QT} {h h1 h2 : pm_H} {v w x y : Int32} {e r G D hd ha : Nat → Int32} {dx mx : Int32}
theorem v248i_n {j : Nat} (hj : j < 6) (h6 : cc ≤ 6) : v248i q cc gc r (nI j) = v248 q cc gc r j := by
  unfold v248i v248 v248i_4 v248_4
  refine lp_cg _ _ _ (fun k b _ hk => ?_)
  unfold v248i_4b v248_4b
  rw [hI_ne (by omega) (by omega), show nI (6 + 6 * k) + nI j = nI (6 + 6 * k + j) from (Int32.ofNat_add (6 + 6 * k) j).symm, nI_clamp (by omega)]
theorem v37_rg (s : RS cc gc G e D hd ha dx mx r) (ri : RI cc gc r) (h6 : cc ≤ 6) (hc : c < cc) : 0 ≤ (v37 q cc gc e c).toInt ∧ (v37 q cc gc e c).toInt ≤ 20 * (0 + cc : Nat) := by
  unfold v37 v37_5
  refine lp_in (f := fun i a => v37_5b q cc gc e c i a) (P := fun k (x : Int32) => 0 ≤ x.toInt ∧ x.toInt ≤ 20 * (k : Nat)) cc 0 (nI 0) ⟨by decide, by decide⟩ (fun k x _ hk p => ?_)
  obtain ⟨p1, p2⟩ := p
  unfold v37_5b
  by_cases y : k = c
  · rw [decide_eq_true y, cond_true]
    exact ⟨p1, by omega⟩
  · rw [decide_eq_false y, cond_false, s.2.1 k c (by omega) hc y]
    have b := ri.2.1 k c (by omega) hc y
    have ea : (x + r (6 + 6 * k + c)).toInt = x.toInt + (r (6 + 6 * k + c)).toInt := by
      rw [Int32.toInt_add, Int.bmod_eq_of_le] <;> omega
    rw [ea]
    exact ⟨by omega, by omega⟩
theorem rk_0 : ∀ k, k < 6 → pm_cmp .ne ((shr (nI 0) (nI k)) &&& (nI 1)) 0 = false := by decide +kernel
theorem rk_1 : ∀ k, k < 6 → pm_cmp .ne ((shr (nI 0) (nI k)) &&& (nI 1)) (nI 1) = true := by decide +kernel
theorem rk_lp (s : RS cc gc G e D hd ha dx mx r) (ri : RI cc gc r) (h6 : cc ≤ 6) {t2 : Int32} {m3 : Nat} (n : Nat) (hn : n ≤ cc) : (0 + n = 0 ∧ v147_7 q cc gc e (nI 0) n 0 (Int32.ofInt (-1), Int32.ofInt (-1)) = (Int32.ofInt (-1), Int32.ofInt (-1)) ∧ v249_40 q cc gc r (nI 0) t2 m3 n 0 (Int32.ofInt (-1)) = Int32.ofInt (-1)) ∨ ∃ j, j < cc ∧ v147_7 q cc gc e (nI 0) n 0 (Int32.ofInt (-1), Int32.ofInt (-1)) = (nI j, v37 q cc gc e j) ∧ v249_40 q cc gc r (nI 0) t2 m3 n 0 (Int32.ofInt (-1)) = nI j := by
  refine lp_rl (f := fun i a => v147_7b q cc gc e (nI 0) i a.1 a.2) (f' := fun i a => v249_40b q cc gc r (nI 0) t2 m3 i a) (P := fun k (a : Int32 × Int32) (b : Int32) => (k = 0 ∧ a = (Int32.ofInt (-1), Int32.ofInt (-1)) ∧ b = Int32.ofInt (-1)) ∨ ∃ j, j < cc ∧ a = (nI j, v37 q cc gc e j) ∧ b = nI j) n 0 _ _ (Or.inl ⟨rfl, rfl, rfl⟩) (fun k a b _ hk p => ?_)
  have hkc : k < cc := by omega
  have n1 : v164 q cc gc (nI 0) (nI k) = false := by
    unfold v164
    rw [rk_1 k (by omega)]
    rfl
  have rg := v37_rg (q := q) s ri h6 hkc
  refine Or.inr ?_
  unfold v147_7b v249_40b
  rw [rk_0 k (by omega), n1, cond_false, cond_false, cond_false]
  rcases p with ⟨rfl, rfl, rfl⟩ | ⟨j, hj, rfl, rfl⟩
  · have l1 : pm_cmp .le (v37 q cc gc e 0) (Int32.ofInt (-1)) = false := by
      refine decide_eq_false (fun z => ?_)
      rw [Int32.le_iff_toInt_le, show (Int32.ofInt (-1)).toInt = -1 by decide] at z
      omega
    refine ⟨0, hkc, ?_, ?_⟩
    · dsimp only
      rw [l1, cond_false, cond_false]
    · rw [show pm_cmp .lt (Int32.ofInt (-1)) 0 = true by decide, cond_true]
  · have l2 : pm_cmp .lt (nI j) 0 = false := lt0_val (by rw [nI_toInt (by omega)]; omega)
    rw [l2, cond_false, v248i_n (by omega) h6, ← eq_37 hkc s, ← eq_37 hj s]
    dsimp only
    cases pm_cmp .le (v37 q cc gc e k) (v37 q cc gc e j) with
    | true =>
      rw [cond_true, cond_true]
      exact ⟨j, hj, rfl, rfl⟩
    | false =>
      rw [cond_false, cond_false]
      exact ⟨k, hkc, rfl, rfl⟩
theorem rks_m (hc : HC q cc gc h) (hr : Ar h 170 = r) (n : Nat) (hn : 0 < n) : (v249_26 q cc gc n 0 (nI 0, Int32.ofInt (-1), h)).2.1 = v249_40 q cc gc r (nI 0) (Int32.ofInt (-1)) 0 cc 0 (Int32.ofInt (-1)) := by
  have y := lp_in (f := fun i a => v249_26b q cc gc a.2.2 i a.1 a.2.1) (P := fun k (a : Int32 × Int32 × pm_H) => (HC q cc gc a.2.2 ∧ Ar a.2.2 170 = r) ∧ ((k = 0 ∧ a.1 = nI 0 ∧ a.2.1 = Int32.ofInt (-1)) ∨ (0 < k ∧ a.2.1 = v249_40 q cc gc r (nI 0) (Int32.ofInt (-1)) 0 cc 0 (Int32.ofInt (-1))))) n 0 (nI 0, Int32.ofInt (-1), h) ⟨⟨hc, hr⟩, Or.inl ⟨rfl, rfl, rfl⟩⟩ (fun k a _ _ p => by
    obtain ⟨a1, a2, a3⟩ := a
    obtain ⟨⟨p1, p2⟩, p3⟩ := p
    dsimp only at p1 p2 p3 ⊢
    unfold v249_26b
    rw [p2]
    obtain ⟨c1, f1⟩ := v167_fr (v := (v249_40 q cc gc r a1 a2 k cc 0 (Int32.ofInt (-1))).toInt64) p1
    refine ⟨⟨c1, (Ar_e (f1.1 170 rfl)).trans p2⟩, Or.inr ⟨Nat.succ_pos k, ?_⟩⟩
    rcases p3 with ⟨rfl, rfl, rfl⟩ | ⟨z, rfl⟩
    · rfl
    · show cond (decide (¬ k = 0)) _ _ = _
      rw [decide_eq_true (show ¬ k = 0 by omega), cond_true])
  rcases y.2 with ⟨z, -, -⟩ | ⟨-, z⟩
  · omega
  · exact z
theorem eq_ranks (pr : prun sl 116 249 [] h h1 h2 v w) (s : SR h) : v = w := by
  obtain ⟨⟨m1, r1⟩, ⟨f1, i1⟩, ⟨m2, r2⟩, -, -⟩ := pr
  obtain ⟨q, cc, gc, hc, s⟩ := s
  have h6 := hc.cb
  obtain ⟨a1, c1, -⟩ := v116_ok hc r1
  injection a1 with b1 b2
  injection b1 with b1
  injection b1 with b1
  injection b2 with b2 b3
  rw [← b2] at c1
  obtain ⟨a2, -, -⟩ := v249_ok c1 r2
  injection a2 with d1 d2
  injection d1 with d1
  injection d1 with d1
  have k170 : Ar h1 170 = Ar h 170 := Ar_e (f1.1 170 rfl)
  have cF : HC q cc gc (fset (fset h1 162 0 (.int (nI 0))) 162 1 (.int (nI 0))) := hc_f rfl rfl (by decide) rfl (hc_f rfl rfl (by decide) rfl c1)
  have kF : Ar (fset (fset h1 162 0 (.int (nI 0))) 162 1 (.int (nI 0))) 170 = Ar h 170 := by rw [Ar_f, Ar_f, k170]
  have L := rk_lp (q := q) (t2 := Int32.ofInt (-1)) (m3 := 0) s.2.1.1 s.2.1.2 h6 cc (Nat.le_refl _)
  have e1 : v147 q cc gc (Ar h 15) (nI 0) = (v147_7 q cc gc (Ar h 15) (nI 0) cc 0 ((Int32.ofInt (-1)), (Int32.ofInt (-1)))).1 := rfl
  rw [b1, d1]
  unfold v116 v249
  by_cases z : cc = 0
  · subst z
    rcases L with ⟨-, l1, -⟩ | ⟨j, hj, -⟩
    · rw [e1, l1]
      rfl
    · omega
  · rcases L with ⟨l0, -⟩ | ⟨j, hj, l1, l2⟩
    · omega
    · rw [decide_eq_true z, cond_true, p1s, rks_m cF kF cc (by omega), l2, e1, l1, p1s, show pm_cmp .ge (nI j) 0 = true from (hI_ge (a := j) (b := 0) (by omega) (by omega)).trans (decide_eq_true (Nat.zero_le _)), cond_true, p1s]
theorem eq8_ranks (pr : prun sl 116 249 [] h h1 h2 v w) (hI : LI8 h) : v = w := eq_ranks pr hI.2.2
end QR8
