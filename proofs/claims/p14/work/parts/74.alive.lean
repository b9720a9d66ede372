section MG74alivex0
/-! alive, by hand -/
section ALV
variable {fr lo sl : Nat} {h : pm_H} {Q : pm_Rs → Prop}
theorem wp_ldiv {k pc : Nat} {L : pm_L} {r : List Value} {x y : Int64} (hi : pm_ins PT k pc = some (.ldiv, 1)) (hy : ¬ y = 0) (kk : pm_WP PT fr lo k (pc + 1, L, .long (x / y) :: r, h, 198, sl) Q) : pm_WP PT fr lo k (pc, L, .long y :: .long x :: r, h, 198, sl) Q := by
  refine wp_i hi rfl rfl ?_ kk
  exact if_neg hy
theorem in10 {x : Int32} (q : in_b x.toInt64 0 10 = true) : ∃ j, x = nI j ∧ j ≤ 10 := by
  unfold in_b at q
  rw [Bool.and_eq_true] at q
  have e1 : ¬ x.toInt64 < 0 := by simpa using q.1
  have e2 : ¬ (10 : Int64) < x.toInt64 := by simpa using q.2
  rw [Int64.lt_iff_toInt_lt, Int32.toInt_toInt64] at e1
  rw [Int64.lt_iff_toInt_lt, Int32.toInt_toInt64] at e2
  have n1 : (0 : Int64).toInt = 0 := by decide
  have n2 : (10 : Int64).toInt = 10 := by decide
  rw [n1] at e1
  rw [n2] at e2
  obtain ⟨j, rfl, hj, ej⟩ := hI_of (show 0 ≤ x.toInt by omega)
  exact ⟨j, rfl, by omega⟩
theorem sub10 : ∀ n : Nat, n ≤ 10 → (((10 : Int32) - nI n).toInt64).toInt = 10 - (n : Int) := by
  intro n hn
  rw [Int32.toInt_toInt64]
  have : ∀ n : Nat, n ≤ 10 → ((10 : Int32) - nI n).toInt = 10 - (n : Int) := by decide
  exact this n hn
theorem mul64 {a b : Int64} (h1 : 0 ≤ a.toInt) (h2 : a.toInt ≤ 1000000000000) (h3 : 0 ≤ b.toInt) (h4 : b.toInt ≤ 10) : (a * b).toInt = a.toInt * b.toInt := by
  have l1 : 0 ≤ a.toInt * b.toInt := Int.mul_nonneg h1 h3
  have l2 : a.toInt * b.toInt ≤ 1000000000000 * 10 := Int.mul_le_mul h2 h4 h3 (by decide)
  rw [Int64.toInt_mul]
  exact Int.bmod_eq_of_le (by omega) (by omega)
/-- after i factors -/
def alP (i : Nat) (u d : Int64) : Prop := 0 ≤ u.toInt ∧ u.toInt ≤ d.toInt ∧ 1 ≤ d.toInt ∧ d.toInt ≤ (10 : Int) ^ i
theorem alP_up {i n : Nat} {u d : Int64} (hi : i < 12) (hn : n ≤ 10) (q : alP i u d) : alP (i + 1) (u * ((10 : Int32) - nI n).toInt64) (d * 10) := by
  obtain ⟨q1, q2, q3, q4⟩ := q
  have hp : (10 : Int) ^ i ≤ 1000000000000 := by
    have : ∀ i : Nat, i < 12 → (10 : Int) ^ i ≤ 1000000000000 := by decide
    exact this i hi
  have e10 : (10 : Int64).toInt = 10 := by decide
  have s := sub10 n hn
  have m1 := mul64 (a := u) (b := ((10 : Int32) - nI n).toInt64) q1 (by omega) (by rw [s]; omega) (by rw [s]; omega)
  have m2 := mul64 (a := d) (b := 10) (by omega) (by omega) (by rw [e10]; decide) (by rw [e10]; decide)
  rw [s] at m1
  rw [e10] at m2
  have l1 : u.toInt * (10 - (n : Int)) ≤ d.toInt * 10 := Int.mul_le_mul q2 (by omega) (by omega) (by omega)
  have l0 : 0 ≤ u.toInt * (10 - (n : Int)) := Int.mul_nonneg q1 (by omega)
  refine ⟨by rw [m1]; exact l0, by rw [m1, m2]; exact l1, by rw [m2]; omega, ?_⟩
  rw [m2, Int.pow_succ]
  exact Int.mul_le_mul_of_nonneg_right q4 (by decide)
theorem al_L {a t n D : Nat} {f : Nat → Int32} (h39 : mF h 39 (.ref 185)) (hF : h 185 = .inl (0, 6, .inl f)) (ha : a < 6) (ea : f a = nI D) (hD : D ≤ 12) (hn : n ≤ 10) (kk : ∀ u d, alP D u d → pm_WP PT fr lo 240 (98, [some (.ref 162), some (.int (nI a)), some (.int (nI t)), some (.int (nI n)), some (.long u), none, some (.long d), none, some (.int (nI D)), none], [], h, 198, sl) Q) : ∀ (m i : Nat) (u d : Int64), i + m = D → alP i u d → pm_WP PT fr lo 240 (63, [some (.ref 162), some (.int (nI a)), some (.int (nI t)), some (.int (nI n)), some (.long u), none, some (.long d), none, some (.int (nI i)), none], [], h, 198, sl) Q := by
  intro m
  induction m with
  | zero =>
    intro i u d hi q
    obtain rfl : i = D := by omega
    refine wp_i rfl rfl rfl rfl ?_
    refine wp_i rfl rfl rfl rfl ?_
    show pm_WP PT fr lo 240 (66, [some (.ref 162), some (.int (nI a)), some (.int (nI t)), some (.int (nI n)), some (.long u), none, some (.long d), none, some (.int (nI i)), none], [.ref 162, .int (nI i)], h, 198, sl) _
    refine wp_gfm rfl rfl h39 ?_
    refine wp_i rfl rfl rfl rfl ?_
    show pm_WP PT fr lo 240 (70, [some (.ref 162), some (.int (nI a)), some (.int (nI t)), some (.int (nI n)), some (.long u), none, some (.long d), none, some (.int (nI i)), none], [.int (nI a), .ref 185, .int (nI i)], h, 198, sl) _
    refine wp_iam rfl hF (hI_in (by omega) (by omega)) (by decide) ?_
    rw [nI_clamp (by omega), ea]
    show pm_WP PT fr lo 240 (71, [some (.ref 162), some (.int (nI a)), some (.int (nI t)), some (.int (nI n)), some (.long u), none, some (.long d), none, some (.int (nI i)), none], [.int (nI i), .int (nI i)], h, 198, sl) _
    show pm_WP PT fr lo 240 (71, [some (.ref 162), some (.int (nI a)), some (.int (nI t)), some (.int (nI n)), some (.long u), none, some (.long d), none, some (.int (nI i)), none], [.int (nI i), .int (nI i)], h, 198, sl) _
    refine wp_icmp (c := .ge) (off := 27) (t := 98) rfl rfl (fun _ => ?_) (fun q => absurd (q.symm.trans ((hI_ge (by omega) (by omega)).trans (decide_eq_true (by omega)))) (by decide))
    show pm_WP PT fr lo 240 (98, [some (.ref 162), some (.int (nI a)), some (.int (nI t)), some (.int (nI n)), some (.long u), none, some (.long d), none, some (.int (nI i)), none], [], h, 198, sl) _
    exact kk u d q
  | succ m ih =>
    intro i u d hi q
    refine wp_i rfl rfl rfl rfl ?_
    refine wp_i rfl rfl rfl rfl ?_
    show pm_WP PT fr lo 240 (66, [some (.ref 162), some (.int (nI a)), some (.int (nI t)), some (.int (nI n)), some (.long u), none, some (.long d), none, some (.int (nI i)), none], [.ref 162, .int (nI i)], h, 198, sl) _
    refine wp_gfm rfl rfl h39 ?_
    refine wp_i rfl rfl rfl rfl ?_
    show pm_WP PT fr lo 240 (70, [some (.ref 162), some (.int (nI a)), some (.int (nI t)), some (.int (nI n)), some (.long u), none, some (.long d), none, some (.int (nI i)), none], [.int (nI a), .ref 185, .int (nI i)], h, 198, sl) _
    refine wp_iam rfl hF (hI_in (by omega) (by omega)) (by decide) ?_
    rw [nI_clamp (by omega), ea]
    show pm_WP PT fr lo 240 (71, [some (.ref 162), some (.int (nI a)), some (.int (nI t)), some (.int (nI n)), some (.long u), none, some (.long d), none, some (.int (nI i)), none], [.int (nI D), .int (nI i)], h, 198, sl) _
    show pm_WP PT fr lo 240 (71, [some (.ref 162), some (.int (nI a)), some (.int (nI t)), some (.int (nI n)), some (.long u), none, some (.long d), none, some (.int (nI i)), none], [.int (nI D), .int (nI i)], h, 198, sl) _
    refine wp_icmp (c := .ge) (off := 27) (t := 98) rfl rfl (fun q => absurd (q.symm.trans ((hI_ge (by omega) (by omega)).trans (decide_eq_false (by omega)))) (by decide)) (fun _ => ?_)
    refine wp_i rfl rfl rfl rfl ?_
    refine wp_i rfl rfl rfl rfl ?_
    refine wp_i rfl rfl rfl rfl ?_
    refine wp_i rfl rfl rfl rfl ?_
    refine wp_i rfl rfl rfl rfl ?_
    refine wp_i rfl rfl rfl rfl ?_
    refine wp_i rfl rfl rfl rfl ?_
    refine wp_i rfl rfl rfl rfl ?_
    refine wp_i rfl rfl rfl rfl ?_
    refine wp_i rfl rfl rfl rfl ?_
    refine wp_i rfl rfl rfl rfl ?_
    refine wp_i rfl rfl rfl rfl ?_
    refine wp_i rfl rfl rfl rfl ?_
    show pm_WP PT fr lo 240 (63, [some (.ref 162), some (.int (nI a)), some (.int (nI t)), some (.int (nI n)), some (.long (u * ((10 - (nI n))).toInt64)), none, some (.long (d * 10)), none, some (.int ((nI i) + 1)), none], [], h, 198, sl) _
    rw [nI_1 i]
    exact ih (i + 1) _ _ (by omega) (alP_up (by omega) hn q)
theorem hm_alive (hI : mInv h) (x y z : Int32) (hf : 100 ≤ fr) (hl : 4000 ≤ lo) : pm_WP PT fr lo 240 (0, pm_l0 [.ref 162, .int x, .int y, .int z] 10, [], h, 198, sl) (mPost anInt h sl) := by
  obtain ⟨hh, hq⟩ := id hI
  obtain ⟨x0, h0, -⟩ := ty_fld hh (g := 0) rfl
  obtain ⟨k1, h1, lk⟩ := ty_nat hh (g := 1) (u := 100) rfl (by decide)
  obtain ⟨c, h3, hc⟩ := ty_nat hh (g := 3) (u := 6) rfl (by decide)
  have h2 := ty_ref hh (g := 2) (p := 163) rfl
  have h39 := ty_ref hh (g := 39) (p := 185) rfl
  have h11 := ty_ref hh (g := 11) (p := 169) rfl
  obtain ⟨rd, w, hR, hw⟩ := ty_rd hh
  obtain ⟨f0, hF, tF⟩ := ty_far hh
  obtain ⟨R, hL⟩ := ty_lar hh
  refine wp_i rfl rfl rfl rfl ?_
  refine wp_i rfl rfl rfl rfl ?_
  show pm_WP PT fr lo 240 (2, [some (.ref 162), some (.int x), some (.int y), some (.int z), none, none, none, none, none, none], [.int 0, .ref 162], h, 198, sl) _
  refine wp_pfm rfl rfl rfl (by decide) h0 ?_
  refine wp_i rfl rfl rfl rfl ?_
  refine wp_i rfl rfl rfl rfl ?_
  show pm_WP PT fr lo 240 (7, [some (.ref 162), some (.int x), some (.int y), some (.int z), none, none, none, none, none, none], [.int x, .ref 162], (mset h 0 (.int 0)), 198, sl) _
  refine wp_callM (t := 168) (As := [.int x]) (rest := []) (mx := 2) rfl rfl rfl rfl (Nat.le_of_ble_eq_true rfl) (Nat.le_of_ble_eq_true rfl) (by omega) (by omega) rfl (mF_obj (mF_self h0)) (wp_mono (hd_isCourt (c := c) x (mF_ne (by decide) h3) (by omega) (by omega)) ?_)
  rintro _ rfl
  cases b1 : in_b x.toInt64 0 (nI c - 1).toInt64 with
  | false =>
    show pm_WP PT fr lo 240 (10, [some (.ref 162), some (.int x), some (.int y), some (.int z), none, none, none, none, none, none], [.int 0], (mset h 0 (.int 0)), 198, sl) _
    refine wp_i rfl rfl rfl rfl ?_
    refine wp_i rfl rfl rfl rfl ?_
    show pm_WP PT fr lo 240 (34, [some (.ref 162), some (.int x), some (.int y), some (.int z), none, none, none, none, none, none], [.int (-1)], (mset h 0 (.int 0)), 198, sl) _
    exact wp_iret rfl rfl (post0 hI h0 ⟨_, rfl⟩)
  | true =>
    show pm_WP PT fr lo 240 (10, [some (.ref 162), some (.int x), some (.int y), some (.int z), none, none, none, none, none, none], [.int 1], (mset h 0 (.int 0)), 198, sl) _
    refine wp_i rfl rfl rfl rfl ?_
    refine wp_i rfl rfl rfl rfl ?_
    refine wp_i rfl rfl rfl rfl ?_
    show pm_WP PT fr lo 240 (15, [some (.ref 162), some (.int x), some (.int y), some (.int z), none, none, none, none, none, none], [.int y, .ref 162], (mset h 0 (.int 0)), 198, sl) _
    refine wp_callM (t := 168) (As := [.int y]) (rest := []) (mx := 2) rfl rfl rfl rfl (Nat.le_of_ble_eq_true rfl) (Nat.le_of_ble_eq_true rfl) (by omega) (by omega) rfl (mF_obj (mF_self h0)) (wp_mono (hd_isCourt (c := c) y (mF_ne (by decide) h3) (by omega) (by omega)) ?_)
    rintro _ rfl
    cases b2 : in_b y.toInt64 0 (nI c - 1).toInt64 with
    | false =>
      show pm_WP PT fr lo 240 (18, [some (.ref 162), some (.int x), some (.int y), some (.int z), none, none, none, none, none, none], [.int 0], (mset h 0 (.int 0)), 198, sl) _
      refine wp_i rfl rfl rfl rfl ?_
      refine wp_i rfl rfl rfl rfl ?_
      show pm_WP PT fr lo 240 (34, [some (.ref 162), some (.int x), some (.int y), some (.int z), none, none, none, none, none, none], [.int (-1)], (mset h 0 (.int 0)), 198, sl) _
      exact wp_iret rfl rfl (post0 hI h0 ⟨_, rfl⟩)
    | true =>
      show pm_WP PT fr lo 240 (18, [some (.ref 162), some (.int x), some (.int y), some (.int z), none, none, none, none, none, none], [.int 1], (mset h 0 (.int 0)), 198, sl) _
      refine wp_i rfl rfl rfl rfl ?_
      refine wp_i rfl rfl rfl rfl ?_
      refine wp_i rfl rfl rfl rfl ?_
      refine wp_i rfl rfl rfl rfl ?_
      refine wp_i rfl rfl rfl rfl ?_
      show pm_WP PT fr lo 240 (27, [some (.ref 162), some (.int x), some (.int y), some (.int z), none, none, none, none, none, none], [.long 10, .long 0, .long (z).toInt64], (mset h 0 (.int 0)), 198, sl) _
      refine wp_callS (t := 163) (As := [.long (z).toInt64, .long 0, .long 10]) (rest := []) (mx := 6) rfl rfl rfl rfl (Nat.le_of_ble_eq_true rfl) (Nat.le_of_ble_eq_true rfl) (by omega) (by omega) (wp_mono (hd_in z.toInt64 0 10) ?_)
      rintro _ rfl
      cases b3 : in_b z.toInt64 0 10 with
      | false =>
        show pm_WP PT fr lo 240 (30, [some (.ref 162), some (.int x), some (.int y), some (.int z), none, none, none, none, none, none], [.int 0], (mset h 0 (.int 0)), 198, sl) _
        refine wp_i rfl rfl rfl rfl ?_
        refine wp_i rfl rfl rfl rfl ?_
        show pm_WP PT fr lo 240 (34, [some (.ref 162), some (.int x), some (.int y), some (.int z), none, none, none, none, none, none], [.int (-1)], (mset h 0 (.int 0)), 198, sl) _
        exact wp_iret rfl rfl (post0 hI h0 ⟨_, rfl⟩)
      | true =>
        show pm_WP PT fr lo 240 (30, [some (.ref 162), some (.int x), some (.int y), some (.int z), none, none, none, none, none, none], [.int 1], (mset h 0 (.int 0)), 198, sl) _
        refine wp_i rfl rfl rfl rfl ?_
        obtain ⟨a, rfl, ha⟩ := isC_iv hc b1
        obtain ⟨t, rfl, ht⟩ := isC_iv hc b2
        obtain ⟨n, rfl, hn⟩ := in10 b3
        show pm_WP PT fr lo 240 (35, [some (.ref 162), some (.int (nI a)), some (.int (nI t)), some (.int (nI n)), none, none, none, none, none, none], [], (mset h 0 (.int 0)), 198, sl) _
        refine wp_i rfl rfl rfl rfl ?_
        refine wp_i rfl rfl rfl rfl ?_
        show pm_WP PT fr lo 240 (37, [some (.ref 162), some (.int (nI a)), some (.int (nI t)), some (.int (nI n)), none, none, none, none, none, none], [.int (nI t), .ref 162], (mset h 0 (.int 0)), 198, sl) _
        refine wp_callM (t := 237) (As := [.int (nI t)]) (rest := []) (mx := 6) rfl rfl rfl rfl (Nat.le_of_ble_eq_true rfl) (Nat.le_of_ble_eq_true rfl) (by omega) (by omega) rfl (mF_obj (mF_self h0)) (wp_mono (hd_laysFar (w := w) (mF_ne (by decide) h3) hc (mF_ne (by decide) h39) (mF_ne (by decide) h11) (mset_arr (by decide) hR) hw (mset_arr (by decide) hF) (by omega) (by omega) (by omega)) ?_)
        rintro _ ⟨f, rfl, hf2⟩
        have tf := far_ty tF hf2
        obtain ⟨ea, la⟩ := hf2.1 a ha
        have hI0 := INF_lt
        have w1 : wyI h (aset (mset h 0 (.int 0)) 185 6 f) f k1 := ⟨dD_tr (dD_set rfl) (dD_arr rfl (by decide)), mF_as (by decide) (mF_self h0), mF_as (by decide) (mF_ne (by decide) h1), ⟨R, by rw [aset_nei (by decide), mset_ne (by decide)]; exact hL⟩, aset_self _ _ _ _⟩
        generalize (aset (mset h 0 (.int 0)) 185 6 f) = hg at w1 ⊢
        have g39 := dD_mF w1.1 rfl h39
        have g185 := w1.2.2.2.2
        refine wp_i rfl rfl rfl rfl ?_
        show pm_WP PT fr lo 240 (41, [some (.ref 162), some (.int (nI a)), some (.int (nI t)), some (.int (nI n)), none, none, none, none, none, none], [.ref 162], hg, 198, sl) _
        refine wp_gfm rfl rfl g39 ?_
        refine wp_i rfl rfl rfl rfl ?_
        show pm_WP PT fr lo 240 (45, [some (.ref 162), some (.int (nI a)), some (.int (nI t)), some (.int (nI n)), none, none, none, none, none, none], [.int (nI a), .ref 185], hg, 198, sl) _
        refine wp_iam rfl g185 (hI_in (by omega) (by omega)) (by decide) ?_
        rw [nI_clamp (by omega), ea]
        show pm_WP PT fr lo 240 (46, [some (.ref 162), some (.int (nI a)), some (.int (nI t)), some (.int (nI n)), none, none, none, none, none, none], [.int (nI (lD w c t c a))], hg, 198, sl) _
        refine wp_i rfl rfl rfl rfl ?_
        show pm_WP PT fr lo 240 (48, [some (.ref 162), some (.int (nI a)), some (.int (nI t)), some (.int (nI n)), none, none, none, none, none, none], [.int 12, .int (nI (lD w c t c a))], hg, 198, sl) _
        refine wp_icmp (c := .le) (off := 6) (t := 54) rfl rfl (fun q => ?_) (fun q => ?_)
        · have q : lD w c t c a ≤ 12 := of_decide_eq_true ((hI_le (b := 12) (by omega) (by omega)).symm.trans q)
          refine wp_i rfl rfl rfl rfl ?_
          refine wp_i rfl rfl rfl rfl ?_
          refine wp_i rfl rfl rfl rfl ?_
          refine wp_i rfl rfl rfl rfl ?_
          refine wp_i rfl rfl rfl rfl ?_
          refine wp_i rfl rfl rfl rfl ?_
          show pm_WP PT fr lo 240 (63, [some (.ref 162), some (.int (nI a)), some (.int (nI t)), some (.int (nI n)), some (.long 1), none, some (.long 1), none, some (.int 0), none], [], hg, 198, sl) _
          refine al_L g39 g185 (by omega) ea q hn (fun u d qa => ?_) (lD w c t c a) 0 1 1 (by omega) ⟨by decide, by decide, by decide, by decide⟩
          obtain ⟨a1, a2, a3, a4⟩ := qa
          have hp : (10 : Int) ^ lD w c t c a ≤ 1000000000000 := by
            have : ∀ i : Nat, i ≤ 12 → (10 : Int) ^ i ≤ 1000000000000 := by decide
            exact this _ q
          refine wp_i rfl rfl rfl rfl ?_
          refine wp_i rfl rfl rfl rfl ?_
          show pm_WP PT fr lo 240 (102, [some (.ref 162), some (.int (nI a)), some (.int (nI t)), some (.int (nI n)), some (.long u), none, some (.long d), none, some (.int (nI (lD w c t c a))), none], [.long d, .long u], hg, 198, sl) _
          refine wp_callS (t := 166) (As := [.long u, .long d]) (rest := []) (mx := 4) rfl rfl rfl rfl (Nat.le_of_ble_eq_true rfl) (Nat.le_of_ble_eq_true rfl) (by omega) (by omega) (wp_mono (hd_common 40 _ _ u d a1 (by omega) (by omega) (by omega) (by omega) (by omega)) ?_)
          rintro _ ⟨g, hg1, rfl⟩
          refine wp_i rfl rfl rfl rfl ?_
          refine wp_i rfl rfl rfl rfl ?_
          refine wp_i rfl rfl rfl rfl ?_
          show pm_WP PT fr lo 240 (109, [some (.ref 162), some (.int (nI a)), some (.int (nI t)), some (.int (nI n)), some (.long u), none, some (.long d), none, some (.long g), none], [.int 0, .ref 162], hg, 198, sl) _
          refine wp_pfm rfl rfl rfl (by decide) w1.2.2.1 ?_
          refine wp_i rfl rfl rfl rfl ?_
          refine wp_i rfl rfl rfl rfl ?_
          refine wp_i rfl rfl rfl rfl ?_
          have hgn : ¬ g = 0 := fun e => by subst e; exact absurd hg1 (by decide)
          show pm_WP PT fr lo 240 (117, [some (.ref 162), some (.int (nI a)), some (.int (nI t)), some (.int (nI n)), some (.long u), none, some (.long d), none, some (.long g), none], [.long g, .long u, .ref 162], (mset hg 1 (.int 0)), 198, sl) _
          refine wp_ldiv rfl hgn ?_
          have w2 : wyI h (mset hg 1 (.int 0)) f 0 := ⟨dD_tr w1.1 (dD_set rfl), mF_ne (by decide) w1.2.1, mF_self w1.2.2.1, ⟨_, by rw [mset_ne (by decide)]; exact w1.2.2.2.1.choose_spec⟩, mset_arr (by decide) g185⟩
          show pm_WP PT fr lo 240 (118, [some (.ref 162), some (.int (nI a)), some (.int (nI t)), some (.int (nI n)), some (.long u), none, some (.long d), none, some (.long g), none], [.long (u / g), .ref 162], (mset hg 1 (.int 0)), 198, sl) _
          generalize mset hg 1 (.int 0) = hx at w2 ⊢
          obtain ⟨R0, m0⟩ := id w2.2.2.2.1
          show pm_WP PT fr lo 240 (118, [some (.ref 162), some (.int (nI a)), some (.int (nI t)), some (.int (nI n)), some (.long u), none, some (.long d), none, some (.long g), none], [.long (u / g), .ref 162], hx, 198, sl) _
          refine wp_callM (t := 167) (As := [.long (u / g)]) (rest := []) (mx := 3) rfl rfl rfl rfl (Nat.le_of_ble_eq_true rfl) (Nat.le_of_ble_eq_true rfl) (by omega) (by omega) rfl (mF_obj w2.2.2.1) (wp_mono (hd_enters (u / g) w2.2.2.1 (by omega) (dD_mF w2.1 rfl h2) m0) ?_)
          rintro _ rfl
          have w3 : wyI h (mset (lset hx 163 128 (vp_updL R0 0 (u / g))) 1 (.int (nI (0 + 1)))) f (0 + 1) := wyI_en (R := R0) w2
          show pm_WP PT fr lo 240 (121, [some (.ref 162), some (.int (nI a)), some (.int (nI t)), some (.int (nI n)), some (.long u), none, some (.long d), none, some (.long g), none], [], (mset (lset hx 163 128 (vp_updL R0 0 (u / g))) 1 (.int (nI (0 + 1)))), 198, sl) _
          generalize (mset (lset hx 163 128 (vp_updL R0 0 (u / g))) 1 (.int (nI (0 + 1)))) = hy at w3 ⊢
          refine wp_i rfl rfl rfl rfl ?_
          refine wp_i rfl rfl rfl rfl ?_
          refine wp_i rfl rfl rfl rfl ?_
          show pm_WP PT fr lo 240 (126, [some (.ref 162), some (.int (nI a)), some (.int (nI t)), some (.int (nI n)), some (.long u), none, some (.long d), none, some (.long g), none], [.long g, .long d, .ref 162], hy, 198, sl) _
          refine wp_ldiv rfl hgn ?_
          show pm_WP PT fr lo 240 (127, [some (.ref 162), some (.int (nI a)), some (.int (nI t)), some (.int (nI n)), some (.long u), none, some (.long d), none, some (.long g), none], [.long (d / g), .ref 162], hy, 198, sl) _
          have w3b : wyI h hy f 1 := w3
          obtain ⟨R1, m1⟩ := id w3b.2.2.2.1
          show pm_WP PT fr lo 240 (127, [some (.ref 162), some (.int (nI a)), some (.int (nI t)), some (.int (nI n)), some (.long u), none, some (.long d), none, some (.long g), none], [.long (d / g), .ref 162], hy, 198, sl) _
          refine wp_callM (t := 167) (As := [.long (d / g)]) (rest := []) (mx := 3) rfl rfl rfl rfl (Nat.le_of_ble_eq_true rfl) (Nat.le_of_ble_eq_true rfl) (by omega) (by omega) rfl (mF_obj w3b.2.2.1) (wp_mono (hd_enters (d / g) w3b.2.2.1 (by omega) (dD_mF w3b.1 rfl h2) m1) ?_)
          rintro _ rfl
          have w4 : wyI h (mset (lset hy 163 128 (vp_updL R1 1 (d / g))) 1 (.int (nI (1 + 1)))) f (1 + 1) := wyI_en (R := R1) w3b
          show pm_WP PT fr lo 240 (130, [some (.ref 162), some (.int (nI a)), some (.int (nI t)), some (.int (nI n)), some (.long u), none, some (.long d), none, some (.long g), none], [], (mset (lset hy 163 128 (vp_updL R1 1 (d / g))) 1 (.int (nI (1 + 1)))), 198, sl) _
          generalize (mset (lset hy 163 128 (vp_updL R1 1 (d / g))) 1 (.int (nI (1 + 1)))) = hz at w4 ⊢
          refine wp_i rfl rfl rfl rfl ?_
          show pm_WP PT fr lo 240 (131, [some (.ref 162), some (.int (nI a)), some (.int (nI t)), some (.int (nI n)), some (.long u), none, some (.long d), none, some (.long g), none], [.int 0], hz, 198, sl) _
          exact wp_iret rfl rfl (wyP hI w4 (by omega) tf ⟨_, rfl⟩)
        · refine wp_i rfl rfl rfl rfl ?_
          show pm_WP PT fr lo 240 (53, [some (.ref 162), some (.int (nI a)), some (.int (nI t)), some (.int (nI n)), none, none, none, none, none, none], [.int (-2)], hg, 198, sl) _
          exact wp_iret rfl rfl (wyP hI w1 lk tf ⟨_, rfl⟩)
end ALV
end MG74alivex0
section MG74alivex1
/-! law, by hand -/
section LAW
variable {fr lo sl : Nat} {h : pm_H} {Q : pm_Rs → Prop}
theorem hm_va (hI : mInv h) (hf : 75 ≤ fr) (hl : 4000 ≤ lo) : pm_WP PT fr lo 257 (0, pm_l0 [.ref 162] 3, [], h, 198, sl) (fun x => ∃ (v : Int32) (h' : pm_H), x = (some (.int v), h', 198, sl) ∧ fm rxF h h' ∧ mInv h') := by
  have key := rxoVA [.ref 162] h fr lo sl ⟨⟨rfl, List.mem_singleton_self _⟩, trivial⟩ hI.1 hI.2 hf hl
  refine wp_mono key ?_
  rintro ⟨v, h', s⟩ ⟨⟨a, ha, hv⟩, e, ⟨f1, f2⟩, f3⟩
  cases List.mem_singleton.mp ha
  cases e
  obtain ⟨v⟩ | v := v
  · exact hv.elim
  · obtain ⟨x, rfl, -⟩ := av_int (a := (0, (-2147483648), 2147483647)) rfl hv
    exact ⟨x, h', rfl, f1, f3, f2⟩
def o1G (g : Nat) : Bool := Nat.beq g 1
def o3C (i : Nat) : Bool := Nat.beq i 163
theorem mInv_1 {k : Nat} {h' : pm_H} (hI : mInv h) (d : dD o3C o1G h h') (h1 : mF h' 1 (.int (nI k))) (hk : k ≤ 100) (hL : ∃ R : Nat → Int64, h' 163 = .inl (2, 128, .inr (.inl R))) : mInv h' := by
  refine ⟨dD_ty hI.1 d (fun i hi _ _ => ?_) (fun g hg b hb => ?_), rxQ_dD d rfl rfl rfl rfl rfl rfl hI.2⟩
  · have := Nat.eq_of_beq_eq_true hi
    subst this
    obtain ⟨R, e⟩ := hL
    show ac_ok (h' 163) _
    rw [e]
    exact ⟨rfl, rfl, fun j _ => al_top_ok _⟩
  · have := Nat.eq_of_beq_eq_true hg
    subst this
    cases (Option.some.inj hb : _ = b)
    exact ⟨_, h1, av_nI (by omega) (by omega) (by omega)⟩
theorem mInv_s1 (hI : mInv h) {k : Nat} (hk : k ≤ 100) : mInv (mset h 1 (.int (nI k))) := by
  obtain ⟨x1, h1, -⟩ := ty_fld hI.1 (g := 1) rfl
  obtain ⟨R, hL⟩ := ty_lar hI.1
  exact mInv_1 hI (dD_set rfl) (mF_self h1) hk ⟨R, by rw [mset_ne (by decide)]; exact hL⟩
theorem hm_enters {k : Nat} (hI : mInv h) (v : Int64) (h1 : mF h 1 (.int (nI k))) (hk : k < 100) : pm_WP PT fr lo 167 (0, pm_l0 [.ref 162, .long v] 3, [], h, 198, sl) (fun x => ∃ h' : pm_H, x = (none, h', 198, sl) ∧ mInv h' ∧ mF h' 1 (.int (nI (k + 1))) ∧ ∀ i, i < 162 → h' i = h i) := by
  obtain ⟨R, hL⟩ := ty_lar hI.1
  refine wp_mono (hd_enters v h1 (by omega) (ty_ref hI.1 (g := 2) (p := 163) rfl) hL) ?_
  rintro _ rfl
  have d : dD o3C o1G h (mset (lset h 163 128 (vp_updL R k v)) 1 (.int (nI (k + 1)))) := dD_tr (dD_lset rfl (by decide)) (dD_set rfl)
  have m1 : mF (mset (lset h 163 128 (vp_updL R k v)) 1 (.int (nI (k + 1)))) 1 (.int (nI (k + 1))) := mF_self (mF_ls (by decide) h1)
  exact ⟨_, rfl, mInv_1 hI d m1 (by omega) ⟨_, by rw [mset_ne (by decide), lset_self]⟩, m1, x_lt d (fun i hi => nb_ne (by omega))⟩
def lwC (i : Nat) : Bool := Nat.beq i 193 || Nat.beq i 174
def lwG (g : Nat) : Bool := Nat.beq g 23
/-- other code laid -/
theorem mInv_code {n dn : Nat} {h' : pm_H} {g s : Nat → Int32} (hI : mInv h) (d : dD lwC lwG h h') (h23 : mF h' 23 (.int (nI n))) (hC : h' 174 = .inl (0, 80, .inl g)) (hS : h' 193 = .inl (0, 80, .inl s)) (hn : n ≤ 80) (hd : n = 0 ∨ (dep g n = some dn ∧ 1 ≤ dn)) : mInv h' := by
  refine ⟨dD_ty hI.1 d (fun i hi _ _ => ?_) (fun k hg b hb => ?_), ?_⟩
  · unfold lwC at hi
    rw [Bool.or_eq_true] at hi
    rcases hi with hi | hi
    · have := Nat.eq_of_beq_eq_true hi
      subst this
      show ac_ok (h' 193) _
      rw [hS]
      exact ⟨rfl, rfl, fun j _ => ai_top_ok _⟩
    · have := Nat.eq_of_beq_eq_true hi
      subst this
      show ac_ok (h' 174) _
      rw [hC]
      exact ⟨rfl, rfl, fun j _ => ai_top_ok _⟩
  · have := Nat.eq_of_beq_eq_true hg
    subst this
    cases (Option.some.inj hb : _ = b)
    exact ⟨_, h23, av_nI (by omega) (by omega) (by omega)⟩
  · obtain ⟨-, ⟨c, gg, b1, b2, b3⟩, ⟨f1, r1, r2⟩, f2, r3, r4⟩ := hI.2
    exact ⟨⟨n, dn, g, h23, hC, hn, hd⟩, ⟨c, gg, dD_mF d rfl b1, dD_mF d rfl b2, b3⟩, ⟨f1, (d.1 178 (by decide) rfl).trans r1, r2⟩, f2, (d.1 196 (by decide) rfl).trans r3, r4⟩
theorem fm_lt {h h' : pm_H} (q : fm rxF h h') : ∀ i, i < 162 → h' i = h i := fun i hi => q.1 i (by
  show rxC i = true
  unfold rxC
  have : Nat.blt i 162 = true := Nat.ble_eq_true_of_le hi
  rw [this]
  rfl)
theorem lw_L {n : Nat} {f v : Int32} {cd : Nat → Int32} (h23 : mF h 23 (.int (nI n))) (h50 : mF h 50 (.ref 193)) (h21 : mF h 21 (.ref 174)) (hC : h 174 = .inl (0, 80, .inl cd)) (hn : n ≤ 80) (kk : ∀ g : Nat → Int32, (∀ j, j < n → g j = cd j) → pm_WP PT fr lo 258 (64, [some (.ref 162), some (.int f), some (.int v), some (.int (nI n)), some (.int (nI n))], [], aset h 193 80 g, 198, sl) Q) : ∀ (m k : Nat) (g : Nat → Int32), k + m = n → (∀ j, j < k → g j = cd j) → pm_WP PT fr lo 258 (35, [some (.ref 162), some (.int f), some (.int v), some (.int (nI n)), some (.int (nI k))], [], aset h 193 80 g, 198, sl) Q := by
  intro m
  induction m with
  | zero =>
    intro k g hk e1
    obtain rfl : k = n := by omega
    refine wp_i rfl rfl rfl rfl ?_
    refine wp_i rfl rfl rfl rfl ?_
    show pm_WP PT fr lo 258 (38, [some (.ref 162), some (.int f), some (.int v), some (.int (nI k)), some (.int (nI k))], [.ref 162, .int (nI k)], (aset h 193 80 g), 198, sl) _
    refine wp_gfm rfl rfl (mF_as (by decide) h23) ?_
    show pm_WP PT fr lo 258 (41, [some (.ref 162), some (.int f), some (.int v), some (.int (nI k)), some (.int (nI k))], [.int (nI k), .int (nI k)], (aset h 193 80 g), 198, sl) _
    refine wp_icmp (c := .ge) (off := 23) (t := 64) rfl rfl (fun _ => ?_) (fun q => absurd (q.symm.trans ((hI_ge (by omega) (by omega)).trans (decide_eq_true (by omega)))) (by decide))
    show pm_WP PT fr lo 258 (64, [some (.ref 162), some (.int f), some (.int v), some (.int (nI k)), some (.int (nI k))], [], (aset h 193 80 g), 198, sl) _
    exact kk g e1
  | succ m ih =>
    intro k g hk e1
    refine wp_i rfl rfl rfl rfl ?_
    refine wp_i rfl rfl rfl rfl ?_
    show pm_WP PT fr lo 258 (38, [some (.ref 162), some (.int f), some (.int v), some (.int (nI n)), some (.int (nI k))], [.ref 162, .int (nI k)], (aset h 193 80 g), 198, sl) _
    refine wp_gfm rfl rfl (mF_as (by decide) h23) ?_
    show pm_WP PT fr lo 258 (41, [some (.ref 162), some (.int f), some (.int v), some (.int (nI n)), some (.int (nI k))], [.int (nI n), .int (nI k)], (aset h 193 80 g), 198, sl) _
    refine wp_icmp (c := .ge) (off := 23) (t := 64) rfl rfl (fun q => absurd (q.symm.trans ((hI_ge (by omega) (by omega)).trans (decide_eq_false (by omega)))) (by decide)) (fun _ => ?_)
    refine wp_i rfl rfl rfl rfl ?_
    show pm_WP PT fr lo 258 (45, [some (.ref 162), some (.int f), some (.int v), some (.int (nI n)), some (.int (nI k))], [.ref 162], (aset h 193 80 g), 198, sl) _
    refine wp_gfm rfl rfl (mF_as (by decide) h50) ?_
    refine wp_i rfl rfl rfl rfl ?_
    refine wp_i rfl rfl rfl rfl ?_
    show pm_WP PT fr lo 258 (51, [some (.ref 162), some (.int f), some (.int v), some (.int (nI n)), some (.int (nI k))], [.ref 162, .int (nI k), .ref 193], (aset h 193 80 g), 198, sl) _
    refine wp_gfm rfl rfl (mF_as (by decide) h21) ?_
    refine wp_i rfl rfl rfl rfl ?_
    show pm_WP PT fr lo 258 (56, [some (.ref 162), some (.int f), some (.int v), some (.int (nI n)), some (.int (nI k))], [.int (nI k), .ref 174, .int (nI k), .ref 193], (aset h 193 80 g), 198, sl) _
    refine wp_iam rfl (aset_ne (by decide) hC) (hI_in (by omega) (by omega)) (by decide) ?_
    rw [nI_clamp (by omega)]
    show pm_WP PT fr lo 258 (57, [some (.ref 162), some (.int f), some (.int v), some (.int (nI n)), some (.int (nI k))], [.int (cd k), .int (nI k), .ref 193], (aset h 193 80 g), 198, sl) _
    show pm_WP PT fr lo 258 (57, [some (.ref 162), some (.int f), some (.int v), some (.int (nI n)), some (.int (nI k))], [.int (cd k), .int (nI k), .ref 193], (aset h 193 80 g), 198, sl) _
    refine wp_ism rfl (aset_self _ _ _ _) (hI_in (by omega) (by omega)) (by decide) ?_
    rw [nI_clamp (by omega)]
    refine wp_i rfl rfl rfl rfl ?_
    refine wp_i rfl rfl rfl rfl ?_
    show pm_WP PT fr lo 258 (35, [some (.ref 162), some (.int f), some (.int v), some (.int (nI n)), some (.int (nI k + 1))], [], (aset (aset h 193 80 g) 193 80 (upd g k (cd k))), 198, sl) _
    rw [nI_1 k, aset_aset]
    refine ih (k + 1) _ (by omega) (fun j hj => ?_)
    by_cases e : j = k
    · subst e
      simp only [upd, if_true]
    · simp only [upd, if_neg e]
      exact e1 j (by omega)
theorem hm_law (hI : mInv h) (hf : 500 ≤ fr) (hl : 12000 ≤ lo) : pm_WP PT fr lo 258 (0, pm_l0 [.ref 162] 5, [], h, 198, sl) (mPost anInt h sl) := by
  obtain ⟨hh, hq⟩ := id hI
  obtain ⟨x0, h0, -⟩ := ty_fld hh (g := 0) rfl
  obtain ⟨n0, h15, hn0⟩ := ty_nat hh (g := 15) (u := 80) rfl (by decide)
  obtain ⟨x16, h16, -⟩ := ty_fld hh (g := 16) rfl
  obtain ⟨x17, h17, -⟩ := ty_fld hh (g := 17) rfl
  obtain ⟨x18, h18, -⟩ := ty_fld hh (g := 18) rfl
  obtain ⟨x24, h24, -⟩ := ty_fld hh (g := 24) rfl
  have h14 := ty_ref hh (g := 14) (p := 172) rfl
  have h22 := ty_ref hh (g := 22) (p := 175) rfl
  obtain ⟨tp, hA, -⟩ := ty_arr hh (i := 172) (by decide) rfl rfl (by decide)
  obtain ⟨rc, hR, -⟩ := ty_arr hh (i := 175) (by decide) rfl rfl (by decide)
  obtain ⟨cd0, hC0, -⟩ := ty_arr hh (i := 174) (by decide) rfl rfl (by decide)
  refine wp_i rfl rfl rfl rfl ?_
  refine wp_i rfl rfl rfl rfl ?_
  show pm_WP PT fr lo 258 (2, [some (.ref 162), none, none, none, none], [.int 0, .ref 162], h, 198, sl) _
  refine wp_pfm rfl rfl rfl (by decide) h0 ?_
  refine wp_i rfl rfl rfl rfl ?_
  show pm_WP PT fr lo 258 (6, [some (.ref 162), none, none, none, none], [.ref 162], (mset h 0 (.int 0)), 198, sl) _
  refine wp_callM (t := 196) (As := []) (rest := []) (mx := 3) rfl rfl rfl rfl (Nat.le_of_ble_eq_true rfl) (Nat.le_of_ble_eq_true rfl) (by omega) (by omega) rfl (mF_obj (mF_self h0)) (wp_mono (hd_readsRule (n := n0) (mF_ne (by decide) h15) (mF_ne (by decide) h16) (mF_ne (by decide) h17) (mF_ne (by decide) h18) (mF_ne (by decide) h24) (mF_ne (by decide) h14) (mset_arr (by decide) hA) (mF_ne (by decide) h22) (mset_arr (by decide) hR) hn0 (by omega) (by omega)) ?_)
  rintro _ ⟨f, h2, a, t, nn, c, rc2, tp2, rfl, d2, s2, m15, ha, ht, hnn, hc, f1, f2, f3⟩
  obtain ⟨p1, p2, p3, p4, p5, p6, p7, p8⟩ := s2
  have d0 : dD ruC ruG h h2 := dD_tr (dD_set rfl) (dD_mono d2 (fun i q => by unfold ruC at q; rw [Bool.or_eq_false_iff] at q; exact q.1) (fun g q => by unfold ruG at q; rw [Bool.or_eq_false_iff, Bool.or_eq_false_iff] at q; exact q.2.2))
  have m0 : mF h2 0 (.int 0) := dD_mF d2 rfl (mF_self h0)
  obtain ⟨x23, h23, v23⟩ := ty_fld hh (g := 23) rfl
  have m23 : mF h2 23 x23 := dD_mF d2 rfl (mF_ne (by decide) h23)
  have mC : h2 174 = .inl (0, 80, .inl cd0) := (d2.1 174 (by decide) rfl).trans (mset_arr (by decide) hC0)
  have dq : dD rDC (fun g => Nat.beq g 0 || rDG g) h h2 := dD_tr (dD_set rfl) (dD_mono d2 (fun _ q => q) (fun g q => by rw [Bool.or_eq_false_iff] at q; exact q.2))
  have hI2 : mInv h2 := ⟨dD_ty hh d0 (fun i hi _ _ => ru_cell hi p8 mC) (fun g hg b hb => ru_fld hg hb m0 m15 p1 p2 p5 p6 m23 v23 ha ht hnn hc), rxQ_dD dq rfl rfl rfl rfl rfl rfl hq⟩
  have l2 : ∀ i, i < 162 → h2 i = h i := x_lt d0 (fun i hi => ruC_lt hi)
  refine wp_i rfl rfl rfl rfl ?_
  refine wp_i rfl rfl rfl rfl ?_
  show pm_WP PT fr lo 258 (11, [some (.ref 162), some (.int f), none, none, none], [.int f], h2, 198, sl) _
  refine wp_if (c := .ge) (off := 11) (t := 22) rfl rfl (fun q => ?_) (fun q => ?_)
  · have q : 0 ≤ f.toInt := by
      have : (0 : Int32) ≤ f := of_decide_eq_true q
      rw [Int32.le_iff_toInt_le] at this
      exact this
    have e0 : f = 0 := by
      obtain ⟨j, rfl, -, e⟩ := hI_of q
      obtain rfl : j = 0 := by omega
      rfl
    refine wp_i rfl rfl rfl rfl ?_
    show pm_WP PT fr lo 258 (23, [some (.ref 162), some (.int f), none, none, none], [.ref 162], h2, 198, sl) _
    refine wp_callM (t := 257) (As := []) (rest := []) (mx := 3) rfl rfl rfl rfl (Nat.le_of_ble_eq_true rfl) (Nat.le_of_ble_eq_true rfl) (by omega) (by omega) rfl (mF_obj m0) (wp_mono (hm_va hI2 (by omega) (by omega)) ?_)
    rintro _ ⟨v, h3, rfl, q3, hI3⟩
    obtain ⟨n, dn, cd, m23, hC, hn, hdn⟩ := id hI3.2.1
    have m21 := ty_ref hI3.1 (g := 21) (p := 174) rfl
    have m22 := ty_ref hI3.1 (g := 22) (p := 175) rfl
    have m50 := ty_ref hI3.1 (g := 50) (p := 193) rfl
    have m24 : mF h3 24 (.int (nI c)) := fm_mF q3 rfl p6
    have m175 : h3 175 = .inl (0, 80, .inl rc2) := (q3.1 175 rfl).trans p8
    obtain ⟨g0, hS0, -⟩ := ty_arr hI3.1 (i := 193) (by decide) rfl rfl (by decide)
    refine wp_i rfl rfl rfl rfl ?_
    refine wp_i rfl rfl rfl rfl ?_
    show pm_WP PT fr lo 258 (28, [some (.ref 162), some (.int f), some (.int v), none, none], [.ref 162], h3, 198, sl) _
    refine wp_gfm rfl rfl m23 ?_
    refine wp_i rfl rfl rfl rfl ?_
    refine wp_i rfl rfl rfl rfl ?_
    refine wp_i rfl rfl rfl rfl ?_
    show pm_WP PT fr lo 258 (35, [some (.ref 162), some (.int f), some (.int v), some (.int (nI n)), some (.int 0)], [], h3, 198, sl) _
    rw [← aset_same hS0]
    refine lw_L m23 m50 m21 hC hn (fun g eg => ?_) n 0 g0 (by omega) (fun j hj => by omega)
    refine wp_i rfl rfl rfl rfl ?_
    refine wp_i rfl rfl rfl rfl ?_
    show pm_WP PT fr lo 258 (66, [some (.ref 162), some (.int f), some (.int v), some (.int (nI n)), some (.int (nI n))], [.ref 162, .ref 162], (aset h3 193 80 g), 198, sl) _
    refine wp_gfm rfl rfl (mF_as (by decide) m22) ?_
    refine wp_i rfl rfl rfl rfl ?_
    show pm_WP PT fr lo 258 (70, [some (.ref 162), some (.int f), some (.int v), some (.int (nI n)), some (.int (nI n))], [.ref 162, .ref 175, .ref 162], (aset h3 193 80 g), 198, sl) _
    refine wp_gfm rfl rfl (mF_as (by decide) m24) ?_
    show pm_WP PT fr lo 258 (73, [some (.ref 162), some (.int f), some (.int v), some (.int (nI n)), some (.int (nI n))], [.int (nI c), .ref 175, .ref 162], (aset h3 193 80 g), 198, sl) _
    refine wp_callM (t := 197) (As := [.ref 175, .int (nI c)]) (rest := []) (mx := 4) rfl rfl rfl rfl (Nat.le_of_ble_eq_true rfl) (Nat.le_of_ble_eq_true rfl) (by omega) (by omega) rfl (mF_obj (mF_as (by decide) m22)) (wp_mono (hd_lays175 (f := rc2) (g := cd) (n := c) (by omega) (mF_as (by decide) m23) (mF_as (by decide) m21) (aset_ne (by decide) m175) (aset_ne (by decide) hC)) ?_)
    rintro _ ⟨g2, rfl, eg2⟩
    have d5 : dD lwC lwG h3 (aset (mset (aset h3 193 80 g) 23 (.int (nI c))) 174 80 g2) := dD_tr (dD_tr (dD_arr rfl (by decide)) (dD_set rfl)) (dD_arr rfl (by decide))
    have s5 : (aset (mset (aset h3 193 80 g) 23 (.int (nI c))) 174 80 g2) 193 = .inl (0, 80, .inl g) := aset_ne (by decide) (mset_arr (by decide) (aset_self _ _ _ _))
    have hI5 : mInv (aset (mset (aset h3 193 80 g) 23 (.int (nI c))) 174 80 g2) := mInv_code (dn := 1) hI3 d5 (mF_as (by decide) (mF_self (mF_as (by decide) m23))) (aset_self _ _ _ _) s5 (by omega) ((f3 e0).imp id (fun e => ⟨by rw [dep_cong eg2]; exact e, Nat.le_refl _⟩))
    have l5 : ∀ i, i < 162 → (aset (mset (aset h3 193 80 g) 23 (.int (nI c))) 174 80 g2) i = h3 i := x_lt d5 (fun i hi => by unfold lwC; rw [nb_ne (by omega), nb_ne (by omega)]; rfl)
    show pm_WP PT fr lo 258 (76, [some (.ref 162), some (.int f), some (.int v), some (.int (nI n)), some (.int (nI n))], [], (aset (mset (aset h3 193 80 g) 23 (.int (nI c))) 174 80 g2), 198, sl) _
    generalize aset (mset (aset h3 193 80 g) 23 (.int (nI c))) 174 80 g2 = h5 at hI5 s5 l5 ⊢
    obtain ⟨y0, y0m, -⟩ := ty_fld hI5.1 (g := 0) rfl
    refine wp_i rfl rfl rfl rfl ?_
    show pm_WP PT fr lo 258 (77, [some (.ref 162), some (.int f), some (.int v), some (.int (nI n)), some (.int (nI n))], [.ref 162], h5, 198, sl) _
    refine wp_callM (t := 257) (As := []) (rest := []) (mx := 3) rfl rfl rfl rfl (Nat.le_of_ble_eq_true rfl) (Nat.le_of_ble_eq_true rfl) (by omega) (by omega) rfl (mF_obj y0m) (wp_mono (hm_va hI5 (by omega) (by omega)) ?_)
    rintro _ ⟨u, h6, rfl, q6, hI6⟩
    obtain ⟨n6, dn6, cd6, k23, kC, -⟩ := id hI6.2.1
    have k21 := ty_ref hI6.1 (g := 21) (p := 174) rfl
    have k50 := ty_ref hI6.1 (g := 50) (p := 193) rfl
    have k193 : h6 193 = .inl (0, 80, .inl g) := (q6.1 193 rfl).trans s5
    refine wp_i rfl rfl rfl rfl ?_
    refine wp_i rfl rfl rfl rfl ?_
    refine wp_i rfl rfl rfl rfl ?_
    show pm_WP PT fr lo 258 (84, [some (.ref 162), some (.int f), some (.int v), some (.int (nI n)), some (.int u)], [.ref 162, .ref 162], h6, 198, sl) _
    refine wp_gfm rfl rfl k50 ?_
    refine wp_i rfl rfl rfl rfl ?_
    show pm_WP PT fr lo 258 (88, [some (.ref 162), some (.int f), some (.int v), some (.int (nI n)), some (.int u)], [.int (nI n), .ref 193, .ref 162], h6, 198, sl) _
    refine wp_callM (t := 197) (As := [.ref 193, .int (nI n)]) (rest := []) (mx := 4) rfl rfl rfl rfl (Nat.le_of_ble_eq_true rfl) (Nat.le_of_ble_eq_true rfl) (by omega) (by omega) rfl (mF_obj k23) (wp_mono (hd_lays193 (f := g) (g := cd6) (n := n) hn k23 k21 k193 kC) ?_)
    rintro _ ⟨g7, rfl, eg7⟩
    have d7 : dD lwC lwG h6 (aset (mset h6 23 (.int (nI n))) 174 80 g7) := dD_tr (dD_set rfl) (dD_arr rfl (by decide))
    have hI7 : mInv (aset (mset h6 23 (.int (nI n))) 174 80 g7) := mInv_code (dn := dn) hI6 d7 (mF_as (by decide) (mF_self k23)) (aset_self _ _ _ _) (aset_ne (by decide) (mset_arr (by decide) k193)) hn (hdn.imp id (fun e => ⟨by rw [dep_cong (fun j hj => (eg7 j hj).trans (eg j hj))]; exact e.1, e.2⟩))
    have l7 : ∀ i, i < 162 → (aset (mset h6 23 (.int (nI n))) 174 80 g7) i = h6 i := x_lt d7 (fun i hi => by unfold lwC; rw [nb_ne (by omega), nb_ne (by omega)]; rfl)
    show pm_WP PT fr lo 258 (91, [some (.ref 162), some (.int f), some (.int v), some (.int (nI n)), some (.int u)], [], (aset (mset h6 23 (.int (nI n))) 174 80 g7), 198, sl) _
    generalize aset (mset h6 23 (.int (nI n))) 174 80 g7 = h7 at hI7 l7 ⊢
    obtain ⟨x1, y1, -⟩ := ty_fld hI7.1 (g := 1) rfl
    refine wp_i rfl rfl rfl rfl ?_
    refine wp_i rfl rfl rfl rfl ?_
    show pm_WP PT fr lo 258 (93, [some (.ref 162), some (.int f), some (.int v), some (.int (nI n)), some (.int u)], [.int 0, .ref 162], h7, 198, sl) _
    refine wp_pfm rfl rfl rfl (by decide) y1 ?_
    refine wp_i rfl rfl rfl rfl ?_
    refine wp_i rfl rfl rfl rfl ?_
    refine wp_i rfl rfl rfl rfl ?_
    have hI8 : mInv (mset h7 1 (.int 0)) := mInv_s1 hI7 (k := 0) (by decide)
    have y8 : mF (mset h7 1 (.int 0)) 1 (.int (nI 0)) := mF_self y1
    have l8 : ∀ i, i < 162 → (mset h7 1 (.int 0)) i = h7 i := fun i hi => mset_ne (by omega)
    generalize mset h7 1 (.int 0) = h8 at hI8 y8 l8 ⊢
    show pm_WP PT fr lo 258 (100, [some (.ref 162), some (.int f), some (.int v), some (.int (nI n)), some (.int u)], [.long (u).toInt64, .ref 162], h8, 198, sl) _
    refine wp_callM (t := 167) (As := [.long (u).toInt64]) (rest := []) (mx := 3) rfl rfl rfl rfl (Nat.le_of_ble_eq_true rfl) (Nat.le_of_ble_eq_true rfl) (by omega) (by omega) rfl (mF_obj y8) (wp_mono (hm_enters hI8 u.toInt64 y8 (by decide)) ?_)
    rintro _ ⟨h9, rfl, hI9, y9, l9⟩
    refine wp_i rfl rfl rfl rfl ?_
    refine wp_i rfl rfl rfl rfl ?_
    refine wp_i rfl rfl rfl rfl ?_
    show pm_WP PT fr lo 258 (106, [some (.ref 162), some (.int f), some (.int v), some (.int (nI n)), some (.int u)], [.long (v).toInt64, .ref 162], h9, 198, sl) _
    refine wp_callM (t := 167) (As := [.long (v).toInt64]) (rest := []) (mx := 3) rfl rfl rfl rfl (Nat.le_of_ble_eq_true rfl) (Nat.le_of_ble_eq_true rfl) (by omega) (by omega) rfl (mF_obj y9) (wp_mono (hm_enters hI9 v.toInt64 y9 (by decide)) ?_)
    rintro _ ⟨h10, rfl, hI10, y10, l10⟩
    refine wp_i rfl rfl rfl rfl ?_
    refine wp_i rfl rfl rfl rfl ?_
    refine wp_i rfl rfl rfl rfl ?_
    show pm_WP PT fr lo 258 (113, [some (.ref 162), some (.int f), some (.int v), some (.int (nI n)), some (.int u)], [.int (u - v)], h10, 198, sl) _
    exact wp_iret rfl rfl ⟨⟨_, rfl⟩, rfl, fun i hi => (l10 i hi).trans ((l9 i hi).trans ((l8 i hi).trans ((l7 i hi).trans ((fm_lt q6 i hi).trans ((l5 i hi).trans ((fm_lt q3 i hi).trans (l2 i hi)))))))  , hI10⟩
  · refine wp_i rfl rfl rfl rfl ?_
    refine wp_i rfl rfl rfl rfl ?_
    refine wp_i rfl rfl rfl rfl ?_
    refine wp_i rfl rfl rfl rfl ?_
    refine wp_i rfl rfl rfl rfl ?_
    show pm_WP PT fr lo 258 (21, [some (.ref 162), some (.int f), none, none, none], [.int ((f + 1) - 10000)], h2, 198, sl) _
    exact wp_iret rfl rfl ⟨⟨_, rfl⟩, rfl, l2, hI2⟩
end LAW
end MG74alivex1
section MG74alivex2
/-! walks, by hand -/
section WLK
variable {fr lo sl : Nat} {h : pm_H} {Q : pm_Rs → Prop} {c a b : Nat} {w : Nat → Nat → Nat} {rd : Nat → Int32} {hv gv : Int32}
def wkI (g : Nat → Int32) : Prop := ∀ j, j < 600 → -1 ≤ (g j).toInt
theorem wkI_up {g : Nat → Int32} {k : Nat} {v : Int32} (q : wkI g) (hv : -1 ≤ v.toInt) : wkI (upd g k v) := by
  intro j hj
  unfold upd
  by_cases e : j = k
  · rw [if_pos e]; exact hv
  · rw [if_neg e]; exact q j hj
theorem max_ge (x y : Int32) : x.toInt ≤ (if x < y then y else x).toInt := by
  by_cases e : x < y
  · rw [if_pos e]
    rw [Int32.lt_iff_toInt_lt] at e
    omega
  · rw [if_neg e]
    exact Int.le_refl _
theorem in_ge {x : Int32} {u : Int64} (q : in_b x.toInt64 0 u = true) : 0 ≤ x.toInt := by
  unfold in_b at q
  rw [Bool.and_eq_true] at q
  have e1 : ¬ x.toInt64 < 0 := by simpa using q.1
  rw [Int64.lt_iff_toInt_lt, Int32.toInt_toInt64] at e1
  have n1 : (0 : Int64).toInt = 0 := by decide
  rw [n1] at e1
  omega
theorem wk_A (h40 : mF h 40 (.ref 186)) (kk : ∀ g, wkI g → pm_WP PT fr lo 239 (73, [some (.ref 162), some (.int (nI a)), some (.int (nI b)), some (.int hv), some (.int gv), some (.int (nI 600)), none, none, none, none, none], [], aset h 186 600 g, 198, sl) Q) : ∀ (m k : Nat) (g : Nat → Int32), k + m = 600 → wkI g → pm_WP PT fr lo 239 (51, [some (.ref 162), some (.int (nI a)), some (.int (nI b)), some (.int hv), some (.int gv), some (.int (nI k)), none, none, none, none, none], [], aset h 186 600 g, 198, sl) Q := by
  intro m
  induction m with
  | zero =>
    intro k g hk q
    obtain rfl : k = 600 := by omega
    refine wp_i rfl rfl rfl rfl ?_
    refine wp_i rfl rfl rfl rfl ?_
    show pm_WP PT fr lo 239 (56, [some (.ref 162), some (.int (nI a)), some (.int (nI b)), some (.int hv), some (.int gv), some (.int (nI 600)), none, none, none, none, none], [.int 600, .int (nI 600)], (aset h 186 600 g), 198, sl) _
    refine wp_icmp (c := .ge) (off := 17) (t := 73) rfl rfl (fun _ => ?_) (fun q => absurd (q.symm.trans ((hI_ge (b := 600) (by omega) (by omega)).trans (decide_eq_true (by omega)))) (by decide))
    show pm_WP PT fr lo 239 (73, [some (.ref 162), some (.int (nI a)), some (.int (nI b)), some (.int hv), some (.int gv), some (.int (nI 600)), none, none, none, none, none], [], (aset h 186 600 g), 198, sl) _
    exact kk g q
  | succ m ih =>
    intro k g hk q
    refine wp_i rfl rfl rfl rfl ?_
    refine wp_i rfl rfl rfl rfl ?_
    show pm_WP PT fr lo 239 (56, [some (.ref 162), some (.int (nI a)), some (.int (nI b)), some (.int hv), some (.int gv), some (.int (nI k)), none, none, none, none, none], [.int 600, .int (nI k)], (aset h 186 600 g), 198, sl) _
    refine wp_icmp (c := .ge) (off := 17) (t := 73) rfl rfl (fun q => absurd (q.symm.trans ((hI_ge (b := 600) (by omega) (by omega)).trans (decide_eq_false (by omega)))) (by decide)) (fun _ => ?_)
    refine wp_i rfl rfl rfl rfl ?_
    show pm_WP PT fr lo 239 (60, [some (.ref 162), some (.int (nI a)), some (.int (nI b)), some (.int hv), some (.int gv), some (.int (nI k)), none, none, none, none, none], [.ref 162], (aset h 186 600 g), 198, sl) _
    refine wp_gfm rfl rfl (mF_as (by decide) h40) ?_
    refine wp_i rfl rfl rfl rfl ?_
    refine wp_i rfl rfl rfl rfl ?_
    show pm_WP PT fr lo 239 (66, [some (.ref 162), some (.int (nI a)), some (.int (nI b)), some (.int hv), some (.int gv), some (.int (nI k)), none, none, none, none, none], [.int (-1), .int (nI k), .ref 186], (aset h 186 600 g), 198, sl) _
    refine wp_ism rfl (aset_self _ _ _ _) (hI_in (by omega) (by omega)) (by decide) ?_
    rw [nI_clamp (by omega)]
    refine wp_i rfl rfl rfl rfl ?_
    refine wp_i rfl rfl rfl rfl ?_
    show pm_WP PT fr lo 239 (51, [some (.ref 162), some (.int (nI a)), some (.int (nI b)), some (.int hv), some (.int gv), some (.int (nI k + 1)), none, none, none, none, none], [], (aset (aset h 186 600 g) 186 600 (upd g k (-1))), 198, sl) _
    rw [nI_1 k, aset_aset]
    exact ih (k + 1) _ (by omega) (wkI_up q (by decide))
theorem wk_J (h3 : mF h 3 (.int (nI c))) (hc : c ≤ 6) (h40 : mF h 40 (.ref 186)) (h11 : mF h 11 (.ref 169)) (hR : h 169 = .inl (0, 36, .inl rd)) (hw : rdOk rd w) {m i : Nat} (hm : m ≤ 99) (hi : i < c) {wv : Int32} (hf : 1 ≤ fr) (hl : 20 ≤ lo) (kk : ∀ g x8 x9 x10, wkI g → pm_WP PT fr lo 239 (238, [some (.ref 162), some (.int (nI a)), some (.int (nI b)), some (.int hv), some (.int gv), some (.int (nI m)), some (.int (nI i)), some (.int wv), x8, x9, x10], [], aset h 186 600 g, 198, sl) Q) : ∀ (n j : Nat) (g : Nat → Int32) (x9 x10 : Option Value), j + n = c → wkI g → pm_WP PT fr lo 239 (139, [some (.ref 162), some (.int (nI a)), some (.int (nI b)), some (.int hv), some (.int gv), some (.int (nI m)), some (.int (nI i)), some (.int wv), some (.int (nI j)), x9, x10], [], aset h 186 600 g, 198, sl) Q := by
  intro n
  induction n with
  | zero =>
    intro j g x9 x10 hj q
    obtain rfl : j = c := by omega
    refine wp_i rfl rfl rfl rfl ?_
    refine wp_i rfl rfl rfl rfl ?_
    show pm_WP PT fr lo 239 (142, [some (.ref 162), some (.int (nI a)), some (.int (nI b)), some (.int hv), some (.int gv), some (.int (nI m)), some (.int (nI i)), some (.int wv), some (.int (nI j)), x9, x10], [.ref 162, .int (nI j)], (aset h 186 600 g), 198, sl) _
    refine wp_gfm rfl rfl (mF_as (by decide) h3) ?_
    show pm_WP PT fr lo 239 (145, [some (.ref 162), some (.int (nI a)), some (.int (nI b)), some (.int hv), some (.int gv), some (.int (nI m)), some (.int (nI i)), some (.int wv), some (.int (nI j)), x9, x10], [.int (nI j), .int (nI j)], (aset h 186 600 g), 198, sl) _
    refine wp_icmp (c := .ge) (off := 93) (t := 238) rfl rfl (fun _ => ?_) (fun q => absurd (q.symm.trans ((hI_ge (by omega) (by omega)).trans (decide_eq_true (by omega)))) (by decide))
    show pm_WP PT fr lo 239 (238, [some (.ref 162), some (.int (nI a)), some (.int (nI b)), some (.int hv), some (.int gv), some (.int (nI m)), some (.int (nI i)), some (.int wv), some (.int (nI j)), x9, x10], [], (aset h 186 600 g), 198, sl) _
    exact kk g _ _ _ q
  | succ n ih =>
    intro j g x9 x10 hj q
    obtain ⟨ew, hw9⟩ := hw i j (by omega) (by omega)
    refine wp_i rfl rfl rfl rfl ?_
    refine wp_i rfl rfl rfl rfl ?_
    show pm_WP PT fr lo 239 (142, [some (.ref 162), some (.int (nI a)), some (.int (nI b)), some (.int hv), some (.int gv), some (.int (nI m)), some (.int (nI i)), some (.int wv), some (.int (nI j)), x9, x10], [.ref 162, .int (nI j)], (aset h 186 600 g), 198, sl) _
    refine wp_gfm rfl rfl (mF_as (by decide) h3) ?_
    show pm_WP PT fr lo 239 (145, [some (.ref 162), some (.int (nI a)), some (.int (nI b)), some (.int hv), some (.int gv), some (.int (nI m)), some (.int (nI i)), some (.int wv), some (.int (nI j)), x9, x10], [.int (nI c), .int (nI j)], (aset h 186 600 g), 198, sl) _
    refine wp_icmp (c := .ge) (off := 93) (t := 238) rfl rfl (fun q => absurd (q.symm.trans ((hI_ge (by omega) (by omega)).trans (decide_eq_false (by omega)))) (by decide)) (fun _ => ?_)
    refine wp_i rfl rfl rfl rfl ?_
    show pm_WP PT fr lo 239 (150, [some (.ref 162), some (.int (nI a)), some (.int (nI b)), some (.int hv), some (.int gv), some (.int (nI m)), some (.int (nI i)), some (.int wv), some (.int (nI j)), x9, x10], [.int wv], (aset h 186 600 g), 198, sl) _
    refine wp_if (c := .lt) (off := 88) (t := 238) rfl rfl (fun q1 => ?_) (fun q1 => ?_)
    · show pm_WP PT fr lo 239 (238, [some (.ref 162), some (.int (nI a)), some (.int (nI b)), some (.int hv), some (.int gv), some (.int (nI m)), some (.int (nI i)), some (.int wv), some (.int (nI j)), x9, x10], [], (aset h 186 600 g), 198, sl) _
      exact kk g _ _ _ q
    · refine wp_i rfl rfl rfl rfl ?_
      show pm_WP PT fr lo 239 (154, [some (.ref 162), some (.int (nI a)), some (.int (nI b)), some (.int hv), some (.int gv), some (.int (nI m)), some (.int (nI i)), some (.int wv), some (.int (nI j)), x9, x10], [.ref 162], (aset h 186 600 g), 198, sl) _
      refine wp_gfm rfl rfl (mF_as (by decide) h11) ?_
      refine wp_i rfl rfl rfl rfl ?_
      refine wp_i rfl rfl rfl rfl ?_
      refine wp_i rfl rfl rfl rfl ?_
      refine wp_i rfl rfl rfl rfl ?_
      refine wp_i rfl rfl rfl rfl ?_
      show pm_WP PT fr lo 239 (165, [some (.ref 162), some (.int (nI a)), some (.int (nI b)), some (.int hv), some (.int gv), some (.int (nI m)), some (.int (nI i)), some (.int wv), some (.int (nI j)), x9, x10], [.int ((6 * (nI i)) + (nI j)), .ref 169], (aset h 186 600 g), 198, sl) _
      rw [ix6 i j]
      show pm_WP PT fr lo 239 (165, [some (.ref 162), some (.int (nI a)), some (.int (nI b)), some (.int hv), some (.int gv), some (.int (nI m)), some (.int (nI i)), some (.int wv), some (.int (nI j)), x9, x10], [.int (nI (6 * i + j)), .ref 169], (aset h 186 600 g), 198, sl) _
      refine wp_iam rfl (aset_ne (by decide) hR) (hI_in (by omega) (by omega)) (by decide) ?_
      rw [nI_clamp (by omega), ew]
      show pm_WP PT fr lo 239 (166, [some (.ref 162), some (.int (nI a)), some (.int (nI b)), some (.int hv), some (.int gv), some (.int (nI m)), some (.int (nI i)), some (.int wv), some (.int (nI j)), x9, x10], [.int (nI (w i j))], (aset h 186 600 g), 198, sl) _
      refine wp_i rfl rfl rfl rfl ?_
      refine wp_i rfl rfl rfl rfl ?_
      show pm_WP PT fr lo 239 (170, [some (.ref 162), some (.int (nI a)), some (.int (nI b)), some (.int hv), some (.int gv), some (.int (nI m)), some (.int (nI i)), some (.int wv), some (.int (nI j)), some (.int (nI (w i j))), x10], [.int (nI (w i j))], (aset h 186 600 g), 198, sl) _
      refine wp_if (c := .le) (off := 62) (t := 232) rfl rfl (fun q2 => ?_) (fun q2 => ?_)
      · show pm_WP PT fr lo 239 (232, [some (.ref 162), some (.int (nI a)), some (.int (nI b)), some (.int hv), some (.int gv), some (.int (nI m)), some (.int (nI i)), some (.int wv), some (.int (nI j)), some (.int (nI (w i j))), x10], [], (aset h 186 600 g), 198, sl) _
        refine wp_i rfl rfl rfl rfl ?_
        refine wp_i rfl rfl rfl rfl ?_
        show pm_WP PT fr lo 239 (139, [some (.ref 162), some (.int (nI a)), some (.int (nI b)), some (.int hv), some (.int gv), some (.int (nI m)), some (.int (nI i)), some (.int wv), some (.int (nI j + 1)), some (.int (nI (w i j))), x10], [], (aset h 186 600 g), 198, sl) _
        rw [nI_1 j]
        exact ih (j + 1) _ _ _ (by omega) q
      · refine wp_i rfl rfl rfl rfl ?_
        refine wp_i rfl rfl rfl rfl ?_
        refine wp_i rfl rfl rfl rfl ?_
        refine wp_i rfl rfl rfl rfl ?_
        show pm_WP PT fr lo 239 (180, [some (.ref 162), some (.int (nI a)), some (.int (nI b)), some (.int hv), some (.int gv), some (.int (nI m)), some (.int (nI i)), some (.int wv), some (.int (nI j)), some (.int (nI (w i j))), x10], [.int 99, .int ((nI m) + (nI (w i j)))], (aset h 186 600 g), 198, sl) _
        rw [nI_add]
        show pm_WP PT fr lo 239 (180, [some (.ref 162), some (.int (nI a)), some (.int (nI b)), some (.int hv), some (.int gv), some (.int (nI m)), some (.int (nI i)), some (.int wv), some (.int (nI j)), some (.int (nI (w i j))), x10], [.int 99, .int (nI (m + w i j))], (aset h 186 600 g), 198, sl) _
        show pm_WP PT fr lo 239 (180, [some (.ref 162), some (.int (nI a)), some (.int (nI b)), some (.int hv), some (.int gv), some (.int (nI m)), some (.int (nI i)), some (.int wv), some (.int (nI j)), some (.int (nI (w i j))), x10], [.int 99, .int (nI (m + w i j))], (aset h 186 600 g), 198, sl) _
        refine wp_icmp (c := .gt) (off := 52) (t := 232) rfl rfl (fun q3 => ?_) (fun q3 => ?_)
        · show pm_WP PT fr lo 239 (232, [some (.ref 162), some (.int (nI a)), some (.int (nI b)), some (.int hv), some (.int gv), some (.int (nI m)), some (.int (nI i)), some (.int wv), some (.int (nI j)), some (.int (nI (w i j))), x10], [], (aset h 186 600 g), 198, sl) _
          refine wp_i rfl rfl rfl rfl ?_
          refine wp_i rfl rfl rfl rfl ?_
          show pm_WP PT fr lo 239 (139, [some (.ref 162), some (.int (nI a)), some (.int (nI b)), some (.int hv), some (.int gv), some (.int (nI m)), some (.int (nI i)), some (.int wv), some (.int (nI j + 1)), some (.int (nI (w i j))), x10], [], (aset h 186 600 g), 198, sl) _
          rw [nI_1 j]
          exact ih (j + 1) _ _ _ (by omega) q
        · have q3 : ¬ 99 < m + w i j := of_decide_eq_false ((hI_gt (b := 99) (by omega) (by omega)).symm.trans q3)
          refine wp_i rfl rfl rfl rfl ?_
          refine wp_i rfl rfl rfl rfl ?_
          refine wp_i rfl rfl rfl rfl ?_
          refine wp_i rfl rfl rfl rfl ?_
          show pm_WP PT fr lo 239 (189, [some (.ref 162), some (.int (nI a)), some (.int (nI b)), some (.int hv), some (.int gv), some (.int (nI m)), some (.int (nI i)), some (.int wv), some (.int (nI j)), some (.int (nI (w i j))), x10], [.int (hv * (nI (w i j))), .int wv], (aset h 186 600 g), 198, sl) _
          refine wp_icmp (c := .lt) (off := 43) (t := 232) rfl rfl (fun q4 => ?_) (fun q4 => ?_)
          · show pm_WP PT fr lo 239 (232, [some (.ref 162), some (.int (nI a)), some (.int (nI b)), some (.int hv), some (.int gv), some (.int (nI m)), some (.int (nI i)), some (.int wv), some (.int (nI j)), some (.int (nI (w i j))), x10], [], (aset h 186 600 g), 198, sl) _
            refine wp_i rfl rfl rfl rfl ?_
            refine wp_i rfl rfl rfl rfl ?_
            show pm_WP PT fr lo 239 (139, [some (.ref 162), some (.int (nI a)), some (.int (nI b)), some (.int hv), some (.int gv), some (.int (nI m)), some (.int (nI i)), some (.int wv), some (.int (nI j + 1)), some (.int (nI (w i j))), x10], [], (aset h 186 600 g), 198, sl) _
            rw [nI_1 j]
            exact ih (j + 1) _ _ _ (by omega) q
          · refine wp_i rfl rfl rfl rfl ?_
            refine wp_i rfl rfl rfl rfl ?_
            refine wp_i rfl rfl rfl rfl ?_
            refine wp_i rfl rfl rfl rfl ?_
            refine wp_i rfl rfl rfl rfl ?_
            refine wp_i rfl rfl rfl rfl ?_
            refine wp_i rfl rfl rfl rfl ?_
            show pm_WP PT fr lo 239 (203, [some (.ref 162), some (.int (nI a)), some (.int (nI b)), some (.int hv), some (.int gv), some (.int (nI m)), some (.int (nI i)), some (.int wv), some (.int (nI j)), some (.int (nI (w i j))), x10], [.int ((6 * ((nI m) + (nI (w i j)))) + (nI j))], (aset h 186 600 g), 198, sl) _
            rw [nI_add, ix6]
            show pm_WP PT fr lo 239 (203, [some (.ref 162), some (.int (nI a)), some (.int (nI b)), some (.int hv), some (.int gv), some (.int (nI m)), some (.int (nI i)), some (.int wv), some (.int (nI j)), some (.int (nI (w i j))), x10], [.int (nI (6 * (m + w i j) + j))], (aset h 186 600 g), 198, sl) _
            refine wp_i rfl rfl rfl rfl ?_
            refine wp_i rfl rfl rfl rfl ?_
            show pm_WP PT fr lo 239 (206, [some (.ref 162), some (.int (nI a)), some (.int (nI b)), some (.int hv), some (.int gv), some (.int (nI m)), some (.int (nI i)), some (.int wv), some (.int (nI j)), some (.int (nI (w i j))), some (.int (nI (6 * (m + w i j) + j)))], [.ref 162], (aset h 186 600 g), 198, sl) _
            refine wp_gfm rfl rfl (mF_as (by decide) h40) ?_
            refine wp_i rfl rfl rfl rfl ?_
            refine wp_i rfl rfl rfl rfl ?_
            show pm_WP PT fr lo 239 (212, [some (.ref 162), some (.int (nI a)), some (.int (nI b)), some (.int hv), some (.int gv), some (.int (nI m)), some (.int (nI i)), some (.int wv), some (.int (nI j)), some (.int (nI (w i j))), some (.int (nI (6 * (m + w i j) + j)))], [.ref 162, .int (nI (6 * (m + w i j) + j)), .ref 186], (aset h 186 600 g), 198, sl) _
            refine wp_gfm rfl rfl (mF_as (by decide) h40) ?_
            refine wp_i rfl rfl rfl rfl ?_
            show pm_WP PT fr lo 239 (217, [some (.ref 162), some (.int (nI a)), some (.int (nI b)), some (.int hv), some (.int gv), some (.int (nI m)), some (.int (nI i)), some (.int wv), some (.int (nI j)), some (.int (nI (w i j))), some (.int (nI (6 * (m + w i j) + j)))], [.int (nI (6 * (m + w i j) + j)), .ref 186, .int (nI (6 * (m + w i j) + j)), .ref 186], (aset h 186 600 g), 198, sl) _
            refine wp_iam rfl (aset_self _ _ _ _) (hI_in (by omega) (by omega)) (by decide) ?_
            rw [nI_clamp (by omega)]
            show pm_WP PT fr lo 239 (218, [some (.ref 162), some (.int (nI a)), some (.int (nI b)), some (.int hv), some (.int gv), some (.int (nI m)), some (.int (nI i)), some (.int wv), some (.int (nI j)), some (.int (nI (w i j))), some (.int (nI (6 * (m + w i j) + j)))], [.int (g (6 * (m + w i j) + j)), .int (nI (6 * (m + w i j) + j)), .ref 186], (aset h 186 600 g), 198, sl) _
            refine wp_i rfl rfl rfl rfl ?_
            refine wp_i rfl rfl rfl rfl ?_
            refine wp_i rfl rfl rfl rfl ?_
            refine wp_i rfl rfl rfl rfl ?_
            refine wp_i rfl rfl rfl rfl ?_
            refine wp_i rfl rfl rfl rfl ?_
            refine wp_i rfl rfl rfl rfl ?_
            show pm_WP PT fr lo 239 (228, [some (.ref 162), some (.int (nI a)), some (.int (nI b)), some (.int hv), some (.int gv), some (.int (nI m)), some (.int (nI i)), some (.int wv), some (.int (nI j)), some (.int (nI (w i j))), some (.int (nI (6 * (m + w i j) + j)))], [.int ((wv - (hv * (nI (w i j)))) + gv), .int (g (6 * (m + w i j) + j)), .int (nI (6 * (m + w i j) + j)), .ref 186], (aset h 186 600 g), 198, sl) _
            refine wp_max rfl rfl hf (by show pm_sum [Value.int (nI (6 * (m + w i j) + j)), Value.ref 186] + 13 ≤ lo; have : pm_sum [Value.int (nI (6 * (m + w i j) + j)), Value.ref 186] = 2 := rfl; omega) ?_
            have hmx : -1 ≤ (if (g (6 * (m + w i j) + j)) < ((wv - (hv * (nI (w i j)))) + gv) then ((wv - (hv * (nI (w i j)))) + gv) else (g (6 * (m + w i j) + j))).toInt := Int.le_trans (q _ (by omega)) (max_ge _ _)
            show pm_WP PT fr lo 239 (231, [some (.ref 162), some (.int (nI a)), some (.int (nI b)), some (.int hv), some (.int gv), some (.int (nI m)), some (.int (nI i)), some (.int wv), some (.int (nI j)), some (.int (nI (w i j))), some (.int (nI (6 * (m + w i j) + j)))], [.int (if (g (6 * (m + w i j) + j)) < ((wv - (hv * (nI (w i j)))) + gv) then ((wv - (hv * (nI (w i j)))) + gv) else (g (6 * (m + w i j) + j))), .int (nI (6 * (m + w i j) + j)), .ref 186], (aset h 186 600 g), 198, sl) _
            generalize (if (g (6 * (m + w i j) + j)) < ((wv - (hv * (nI (w i j)))) + gv) then ((wv - (hv * (nI (w i j)))) + gv) else (g (6 * (m + w i j) + j))) = mv at hmx ⊢
            show pm_WP PT fr lo 239 (231, [some (.ref 162), some (.int (nI a)), some (.int (nI b)), some (.int hv), some (.int gv), some (.int (nI m)), some (.int (nI i)), some (.int wv), some (.int (nI j)), some (.int (nI (w i j))), some (.int (nI (6 * (m + w i j) + j)))], [.int mv, .int (nI (6 * (m + w i j) + j)), .ref 186], (aset h 186 600 g), 198, sl) _
            refine wp_ism rfl (aset_self _ _ _ _) (hI_in (by omega) (by omega)) (by decide) ?_
            rw [nI_clamp (by omega), aset_aset]
            show pm_WP PT fr lo 239 (232, [some (.ref 162), some (.int (nI a)), some (.int (nI b)), some (.int hv), some (.int gv), some (.int (nI m)), some (.int (nI i)), some (.int wv), some (.int (nI j)), some (.int (nI (w i j))), some (.int (nI (6 * (m + w i j) + j)))], [], (aset h 186 600 (upd g (6 * (m + w i j) + j) mv)), 198, sl) _
            refine wp_i rfl rfl rfl rfl ?_
            refine wp_i rfl rfl rfl rfl ?_
            show pm_WP PT fr lo 239 (139, [some (.ref 162), some (.int (nI a)), some (.int (nI b)), some (.int hv), some (.int gv), some (.int (nI m)), some (.int (nI i)), some (.int wv), some (.int (nI j + 1)), some (.int (nI (w i j))), some (.int (nI (6 * (m + w i j) + j)))], [], (aset h 186 600 (upd g (6 * (m + w i j) + j) mv)), 198, sl) _
            rw [nI_1 j]
            exact ih (j + 1) _ _ _ (by omega) (wkI_up q hmx)
theorem wk_I (h3 : mF h 3 (.int (nI c))) (hc : c ≤ 6) (h40 : mF h 40 (.ref 186)) (h11 : mF h 11 (.ref 169)) (hR : h 169 = .inl (0, 36, .inl rd)) (hw : rdOk rd w) {m : Nat} (hm : m ≤ 99) (hf : 1 ≤ fr) (hl : 20 ≤ lo) (kk : ∀ g x6 x7 x8 x9 x10, wkI g → pm_WP PT fr lo 239 (244, [some (.ref 162), some (.int (nI a)), some (.int (nI b)), some (.int hv), some (.int gv), some (.int (nI m)), x6, x7, x8, x9, x10], [], aset h 186 600 g, 198, sl) Q) : ∀ (n i : Nat) (g : Nat → Int32) (x7 x8 x9 x10 : Option Value), i + n = c → wkI g → pm_WP PT fr lo 239 (112, [some (.ref 162), some (.int (nI a)), some (.int (nI b)), some (.int hv), some (.int gv), some (.int (nI m)), some (.int (nI i)), x7, x8, x9, x10], [], aset h 186 600 g, 198, sl) Q := by
  intro n
  induction n with
  | zero =>
    intro i g x7 x8 x9 x10 hj q
    obtain rfl : i = c := by omega
    refine wp_i rfl rfl rfl rfl ?_
    refine wp_i rfl rfl rfl rfl ?_
    show pm_WP PT fr lo 239 (115, [some (.ref 162), some (.int (nI a)), some (.int (nI b)), some (.int hv), some (.int gv), some (.int (nI m)), some (.int (nI i)), x7, x8, x9, x10], [.ref 162, .int (nI i)], (aset h 186 600 g), 198, sl) _
    refine wp_gfm rfl rfl (mF_as (by decide) h3) ?_
    show pm_WP PT fr lo 239 (118, [some (.ref 162), some (.int (nI a)), some (.int (nI b)), some (.int hv), some (.int gv), some (.int (nI m)), some (.int (nI i)), x7, x8, x9, x10], [.int (nI i), .int (nI i)], (aset h 186 600 g), 198, sl) _
    refine wp_icmp (c := .ge) (off := 126) (t := 244) rfl rfl (fun _ => ?_) (fun q => absurd (q.symm.trans ((hI_ge (by omega) (by omega)).trans (decide_eq_true (by omega)))) (by decide))
    show pm_WP PT fr lo 239 (244, [some (.ref 162), some (.int (nI a)), some (.int (nI b)), some (.int hv), some (.int gv), some (.int (nI m)), some (.int (nI i)), x7, x8, x9, x10], [], (aset h 186 600 g), 198, sl) _
    exact kk g _ _ _ _ _ q
  | succ n ih =>
    intro i g x7 x8 x9 x10 hj q
    refine wp_i rfl rfl rfl rfl ?_
    refine wp_i rfl rfl rfl rfl ?_
    show pm_WP PT fr lo 239 (115, [some (.ref 162), some (.int (nI a)), some (.int (nI b)), some (.int hv), some (.int gv), some (.int (nI m)), some (.int (nI i)), x7, x8, x9, x10], [.ref 162, .int (nI i)], (aset h 186 600 g), 198, sl) _
    refine wp_gfm rfl rfl (mF_as (by decide) h3) ?_
    show pm_WP PT fr lo 239 (118, [some (.ref 162), some (.int (nI a)), some (.int (nI b)), some (.int hv), some (.int gv), some (.int (nI m)), some (.int (nI i)), x7, x8, x9, x10], [.int (nI c), .int (nI i)], (aset h 186 600 g), 198, sl) _
    refine wp_icmp (c := .ge) (off := 126) (t := 244) rfl rfl (fun q => absurd (q.symm.trans ((hI_ge (by omega) (by omega)).trans (decide_eq_false (by omega)))) (by decide)) (fun _ => ?_)
    refine wp_i rfl rfl rfl rfl ?_
    show pm_WP PT fr lo 239 (122, [some (.ref 162), some (.int (nI a)), some (.int (nI b)), some (.int hv), some (.int gv), some (.int (nI m)), some (.int (nI i)), x7, x8, x9, x10], [.ref 162], (aset h 186 600 g), 198, sl) _
    refine wp_gfm rfl rfl (mF_as (by decide) h40) ?_
    refine wp_i rfl rfl rfl rfl ?_
    refine wp_i rfl rfl rfl rfl ?_
    refine wp_i rfl rfl rfl rfl ?_
    refine wp_i rfl rfl rfl rfl ?_
    refine wp_i rfl rfl rfl rfl ?_
    show pm_WP PT fr lo 239 (133, [some (.ref 162), some (.int (nI a)), some (.int (nI b)), some (.int hv), some (.int gv), some (.int (nI m)), some (.int (nI i)), x7, x8, x9, x10], [.int ((6 * (nI m)) + (nI i)), .ref 186], (aset h 186 600 g), 198, sl) _
    rw [ix6 m i]
    show pm_WP PT fr lo 239 (133, [some (.ref 162), some (.int (nI a)), some (.int (nI b)), some (.int hv), some (.int gv), some (.int (nI m)), some (.int (nI i)), x7, x8, x9, x10], [.int (nI (6 * m + i)), .ref 186], (aset h 186 600 g), 198, sl) _
    refine wp_iam rfl (aset_self _ _ _ _) (hI_in (by omega) (by omega)) (by decide) ?_
    rw [nI_clamp (by omega)]
    show pm_WP PT fr lo 239 (134, [some (.ref 162), some (.int (nI a)), some (.int (nI b)), some (.int hv), some (.int gv), some (.int (nI m)), some (.int (nI i)), x7, x8, x9, x10], [.int (g (6 * m + i))], (aset h 186 600 g), 198, sl) _
    refine wp_i rfl rfl rfl rfl ?_
    refine wp_i rfl rfl rfl rfl ?_
    refine wp_i rfl rfl rfl rfl ?_
    show pm_WP PT fr lo 239 (139, [some (.ref 162), some (.int (nI a)), some (.int (nI b)), some (.int hv), some (.int gv), some (.int (nI m)), some (.int (nI i)), some (.int (g (6 * m + i))), some (.int 0), x9, x10], [], (aset h 186 600 g), 198, sl) _
    refine wk_J h3 hc h40 h11 hR hw hm (by omega) hf hl (fun g2 y8 y9 y10 q2 => ?_) c 0 g _ _ (by omega) q
    refine wp_i rfl rfl rfl rfl ?_
    refine wp_i rfl rfl rfl rfl ?_
    show pm_WP PT fr lo 239 (112, [some (.ref 162), some (.int (nI a)), some (.int (nI b)), some (.int hv), some (.int gv), some (.int (nI m)), some (.int (nI i + 1)), some (.int (g (6 * m + i))), y8, y9, y10], [], (aset h 186 600 g2), 198, sl) _
    rw [nI_1 i]
    exact ih (i + 1) g2 _ _ _ _ (by omega) q2
theorem wk_M (h3 : mF h 3 (.int (nI c))) (hc : c ≤ 6) (h40 : mF h 40 (.ref 186)) (h11 : mF h 11 (.ref 169)) (hR : h 169 = .inl (0, 36, .inl rd)) (hw : rdOk rd w) (hb : b < 6) (hf : 1 ≤ fr) (hl : 20 ≤ lo) (kk : ∀ g x, wkI g → Q (some (.int x), aset h 186 600 g, 198, sl)) : ∀ (n m : Nat) (g : Nat → Int32) (x6 x7 x8 x9 x10 : Option Value), m + n = 100 → wkI g → pm_WP PT fr lo 239 (84, [some (.ref 162), some (.int (nI a)), some (.int (nI b)), some (.int hv), some (.int gv), some (.int (nI m)), x6, x7, x8, x9, x10], [], aset h 186 600 g, 198, sl) Q := by
  intro n
  induction n with
  | zero =>
    intro m g x6 x7 x8 x9 x10 hj q
    obtain rfl : m = 100 := by omega
    refine wp_i rfl rfl rfl rfl ?_
    refine wp_i rfl rfl rfl rfl ?_
    show pm_WP PT fr lo 239 (88, [some (.ref 162), some (.int (nI a)), some (.int (nI b)), some (.int hv), some (.int gv), some (.int (nI 100)), x6, x7, x8, x9, x10], [.int 99, .int (nI 100)], (aset h 186 600 g), 198, sl) _
    refine wp_icmp (c := .gt) (off := 162) (t := 250) rfl rfl (fun _ => ?_) (fun q => absurd (q.symm.trans ((hI_gt (b := 99) (by omega) (by omega)).trans (decide_eq_true (by omega)))) (by decide))
    refine wp_i rfl rfl rfl rfl ?_
    show pm_WP PT fr lo 239 (252, [some (.ref 162), some (.int (nI a)), some (.int (nI b)), some (.int hv), some (.int gv), some (.int (nI 100)), x6, x7, x8, x9, x10], [.int (-2)], (aset h 186 600 g), 198, sl) _
    exact wp_iret rfl rfl (kk g _ q)
  | succ n ih =>
    intro m g x6 x7 x8 x9 x10 hj q
    refine wp_i rfl rfl rfl rfl ?_
    refine wp_i rfl rfl rfl rfl ?_
    show pm_WP PT fr lo 239 (88, [some (.ref 162), some (.int (nI a)), some (.int (nI b)), some (.int hv), some (.int gv), some (.int (nI m)), x6, x7, x8, x9, x10], [.int 99, .int (nI m)], (aset h 186 600 g), 198, sl) _
    refine wp_icmp (c := .gt) (off := 162) (t := 250) rfl rfl (fun q => absurd (q.symm.trans ((hI_gt (b := 99) (by omega) (by omega)).trans (decide_eq_false (by omega)))) (by decide)) (fun _ => ?_)
    refine wp_i rfl rfl rfl rfl ?_
    show pm_WP PT fr lo 239 (92, [some (.ref 162), some (.int (nI a)), some (.int (nI b)), some (.int hv), some (.int gv), some (.int (nI m)), x6, x7, x8, x9, x10], [.ref 162], (aset h 186 600 g), 198, sl) _
    refine wp_gfm rfl rfl (mF_as (by decide) h40) ?_
    refine wp_i rfl rfl rfl rfl ?_
    refine wp_i rfl rfl rfl rfl ?_
    refine wp_i rfl rfl rfl rfl ?_
    refine wp_i rfl rfl rfl rfl ?_
    refine wp_i rfl rfl rfl rfl ?_
    show pm_WP PT fr lo 239 (102, [some (.ref 162), some (.int (nI a)), some (.int (nI b)), some (.int hv), some (.int gv), some (.int (nI m)), x6, x7, x8, x9, x10], [.int ((6 * (nI m)) + (nI b)), .ref 186], (aset h 186 600 g), 198, sl) _
    rw [ix6 m b]
    show pm_WP PT fr lo 239 (102, [some (.ref 162), some (.int (nI a)), some (.int (nI b)), some (.int hv), some (.int gv), some (.int (nI m)), x6, x7, x8, x9, x10], [.int (nI (6 * m + b)), .ref 186], (aset h 186 600 g), 198, sl) _
    refine wp_iam rfl (aset_self _ _ _ _) (hI_in (by omega) (by omega)) (by decide) ?_
    rw [nI_clamp (by omega)]
    show pm_WP PT fr lo 239 (103, [some (.ref 162), some (.int (nI a)), some (.int (nI b)), some (.int hv), some (.int gv), some (.int (nI m)), x6, x7, x8, x9, x10], [.int (g (6 * m + b))], (aset h 186 600 g), 198, sl) _
    show pm_WP PT fr lo 239 (103, [some (.ref 162), some (.int (nI a)), some (.int (nI b)), some (.int hv), some (.int gv), some (.int (nI m)), x6, x7, x8, x9, x10], [.int (g (6 * m + b))], (aset h 186 600 g), 198, sl) _
    refine wp_if (c := .lt) (off := 6) (t := 109) rfl rfl (fun q1 => ?_) (fun q1 => ?_)
    · refine wp_i rfl rfl rfl rfl ?_
      refine wp_i rfl rfl rfl rfl ?_
      show pm_WP PT fr lo 239 (112, [some (.ref 162), some (.int (nI a)), some (.int (nI b)), some (.int hv), some (.int gv), some (.int (nI m)), some (.int 0), x7, x8, x9, x10], [], (aset h 186 600 g), 198, sl) _
      refine wk_I h3 hc h40 h11 hR hw (by omega) hf hl (fun g2 y6 y7 y8 y9 y10 q2 => ?_) c 0 g _ _ _ _ (by omega) q
      refine wp_i rfl rfl rfl rfl ?_
      refine wp_i rfl rfl rfl rfl ?_
      show pm_WP PT fr lo 239 (84, [some (.ref 162), some (.int (nI a)), some (.int (nI b)), some (.int hv), some (.int gv), some (.int (nI m + 1)), y6, y7, y8, y9, y10], [], (aset h 186 600 g2), 198, sl) _
      rw [nI_1 m]
      exact ih (m + 1) g2 _ _ _ _ _ (by omega) q2
    · refine wp_i rfl rfl rfl rfl ?_
      show pm_WP PT fr lo 239 (108, [some (.ref 162), some (.int (nI a)), some (.int (nI b)), some (.int hv), some (.int gv), some (.int (nI m)), x6, x7, x8, x9, x10], [.int (nI m)], (aset h 186 600 g), 198, sl) _
      exact wp_iret rfl rfl (kk g _ q)
def wlC (i : Nat) : Bool := Nat.beq i 186
theorem hm_walks (hI : mInv h) (x y hv gv : Int32) (hf : 100 ≤ fr) (hl : 4000 ≤ lo) : pm_WP PT fr lo 239 (0, pm_l0 [.ref 162, .int x, .int y, .int hv, .int gv] 11, [], h, 198, sl) (mPost anInt h sl) := by
  obtain ⟨hh, hq⟩ := id hI
  obtain ⟨x0, h0, -⟩ := ty_fld hh (g := 0) rfl
  obtain ⟨c, h3, hc⟩ := ty_nat hh (g := 3) (u := 6) rfl (by decide)
  have h40 := ty_ref hh (g := 40) (p := 186) rfl
  have h11 := ty_ref hh (g := 11) (p := 169) rfl
  obtain ⟨rd, w, hR, hw⟩ := ty_rd hh
  obtain ⟨f0, hF, tF⟩ := ty_arr hh (i := 186) (by decide) rfl rfl (by decide)
  have fin : ∀ (g : Nat → Int32) (v : Int32), wkI g → mPost anInt h sl (some (.int v), aset (mset h 0 (.int 0)) 186 600 g, 198, sl) := by
    intro g v q
    have d : dD wlC g0G h (aset (mset h 0 (.int 0)) 186 600 g) := dD_tr (dD_set rfl) (dD_arr rfl (by decide))
    refine ⟨⟨_, rfl⟩, rfl, x_lt d (fun i hi => nb_ne (by omega)), dD_ty hh d (fun i hi _ _ => ?_) (fun k hg b hb => ?_), rxQ_dD d rfl rfl rfl rfl rfl rfl hq⟩
    · have := Nat.eq_of_beq_eq_true hi
      subst this
      show ac_ok (aset (mset h 0 (.int 0)) 186 600 g 186) _
      rw [aset_self]
      exact ⟨rfl, rfl, fun j hj => ⟨rfl, q j hj, (ai_top_ok (g j)).2.2⟩⟩
    · have := Nat.eq_of_beq_eq_true hg
      subst this
      cases (Option.some.inj hb : _ = b)
      exact ⟨_, mF_as (by decide) (mF_self h0), ⟨rfl, by decide, by decide⟩⟩
  refine wp_i rfl rfl rfl rfl ?_
  refine wp_i rfl rfl rfl rfl ?_
  show pm_WP PT fr lo 239 (2, [some (.ref 162), some (.int x), some (.int y), some (.int hv), some (.int gv), none, none, none, none, none, none], [.int 0, .ref 162], h, 198, sl) _
  refine wp_pfm rfl rfl rfl (by decide) h0 ?_
  refine wp_i rfl rfl rfl rfl ?_
  refine wp_i rfl rfl rfl rfl ?_
  show pm_WP PT fr lo 239 (7, [some (.ref 162), some (.int x), some (.int y), some (.int hv), some (.int gv), none, none, none, none, none, none], [.int x, .ref 162], (mset h 0 (.int 0)), 198, sl) _
  refine wp_callM (t := 168) (As := [.int x]) (rest := []) (mx := 2) rfl rfl rfl rfl (Nat.le_of_ble_eq_true rfl) (Nat.le_of_ble_eq_true rfl) (by omega) (by omega) rfl (mF_obj (mF_self h0)) (wp_mono (hd_isCourt (c := c) x (mF_ne (by decide) h3) (by omega) (by omega)) ?_)
  rintro _ rfl
  cases b1 : in_b x.toInt64 0 (nI c - 1).toInt64 with
  | false =>
    show pm_WP PT fr lo 239 (10, [some (.ref 162), some (.int x), some (.int y), some (.int hv), some (.int gv), none, none, none, none, none, none], [.int 0], (mset h 0 (.int 0)), 198, sl) _
    refine wp_i rfl rfl rfl rfl ?_
    refine wp_i rfl rfl rfl rfl ?_
    show pm_WP PT fr lo 239 (47, [some (.ref 162), some (.int x), some (.int y), some (.int hv), some (.int gv), none, none, none, none, none, none], [.int (-1)], (mset h 0 (.int 0)), 198, sl) _
    exact wp_iret rfl rfl (post0 hI h0 ⟨_, rfl⟩)
  | true =>
    show pm_WP PT fr lo 239 (10, [some (.ref 162), some (.int x), some (.int y), some (.int hv), some (.int gv), none, none, none, none, none, none], [.int 1], (mset h 0 (.int 0)), 198, sl) _
    refine wp_i rfl rfl rfl rfl ?_
    refine wp_i rfl rfl rfl rfl ?_
    refine wp_i rfl rfl rfl rfl ?_
    show pm_WP PT fr lo 239 (15, [some (.ref 162), some (.int x), some (.int y), some (.int hv), some (.int gv), none, none, none, none, none, none], [.int y, .ref 162], (mset h 0 (.int 0)), 198, sl) _
    refine wp_callM (t := 168) (As := [.int y]) (rest := []) (mx := 2) rfl rfl rfl rfl (Nat.le_of_ble_eq_true rfl) (Nat.le_of_ble_eq_true rfl) (by omega) (by omega) rfl (mF_obj (mF_self h0)) (wp_mono (hd_isCourt (c := c) y (mF_ne (by decide) h3) (by omega) (by omega)) ?_)
    rintro _ rfl
    cases b2 : in_b y.toInt64 0 (nI c - 1).toInt64 with
    | false =>
      show pm_WP PT fr lo 239 (18, [some (.ref 162), some (.int x), some (.int y), some (.int hv), some (.int gv), none, none, none, none, none, none], [.int 0], (mset h 0 (.int 0)), 198, sl) _
      refine wp_i rfl rfl rfl rfl ?_
      refine wp_i rfl rfl rfl rfl ?_
      show pm_WP PT fr lo 239 (47, [some (.ref 162), some (.int x), some (.int y), some (.int hv), some (.int gv), none, none, none, none, none, none], [.int (-1)], (mset h 0 (.int 0)), 198, sl) _
      exact wp_iret rfl rfl (post0 hI h0 ⟨_, rfl⟩)
    | true =>
      show pm_WP PT fr lo 239 (18, [some (.ref 162), some (.int x), some (.int y), some (.int hv), some (.int gv), none, none, none, none, none, none], [.int 1], (mset h 0 (.int 0)), 198, sl) _
      refine wp_i rfl rfl rfl rfl ?_
      refine wp_i rfl rfl rfl rfl ?_
      refine wp_i rfl rfl rfl rfl ?_
      refine wp_i rfl rfl rfl rfl ?_
      refine wp_i rfl rfl rfl rfl ?_
      show pm_WP PT fr lo 239 (27, [some (.ref 162), some (.int x), some (.int y), some (.int hv), some (.int gv), none, none, none, none, none, none], [.long 9, .long 0, .long (hv).toInt64], (mset h 0 (.int 0)), 198, sl) _
      refine wp_callS (t := 163) (As := [.long (hv).toInt64, .long 0, .long 9]) (rest := []) (mx := 6) rfl rfl rfl rfl (Nat.le_of_ble_eq_true rfl) (Nat.le_of_ble_eq_true rfl) (by omega) (by omega) (wp_mono (hd_in hv.toInt64 0 9) ?_)
      rintro _ rfl
      cases b3 : in_b hv.toInt64 0 9 with
      | false =>
        show pm_WP PT fr lo 239 (30, [some (.ref 162), some (.int x), some (.int y), some (.int hv), some (.int gv), none, none, none, none, none, none], [.int 0], (mset h 0 (.int 0)), 198, sl) _
        refine wp_i rfl rfl rfl rfl ?_
        refine wp_i rfl rfl rfl rfl ?_
        show pm_WP PT fr lo 239 (47, [some (.ref 162), some (.int x), some (.int y), some (.int hv), some (.int gv), none, none, none, none, none, none], [.int (-1)], (mset h 0 (.int 0)), 198, sl) _
        exact wp_iret rfl rfl (post0 hI h0 ⟨_, rfl⟩)
      | true =>
        show pm_WP PT fr lo 239 (30, [some (.ref 162), some (.int x), some (.int y), some (.int hv), some (.int gv), none, none, none, none, none, none], [.int 1], (mset h 0 (.int 0)), 198, sl) _
        refine wp_i rfl rfl rfl rfl ?_
        refine wp_i rfl rfl rfl rfl ?_
        refine wp_i rfl rfl rfl rfl ?_
        refine wp_i rfl rfl rfl rfl ?_
        refine wp_i rfl rfl rfl rfl ?_
        show pm_WP PT fr lo 239 (40, [some (.ref 162), some (.int x), some (.int y), some (.int hv), some (.int gv), none, none, none, none, none, none], [.long 99, .long 0, .long (gv).toInt64], (mset h 0 (.int 0)), 198, sl) _
        refine wp_callS (t := 163) (As := [.long (gv).toInt64, .long 0, .long 99]) (rest := []) (mx := 6) rfl rfl rfl rfl (Nat.le_of_ble_eq_true rfl) (Nat.le_of_ble_eq_true rfl) (by omega) (by omega) (wp_mono (hd_in gv.toInt64 0 99) ?_)
        rintro _ rfl
        cases b4 : in_b gv.toInt64 0 99 with
        | false =>
          show pm_WP PT fr lo 239 (43, [some (.ref 162), some (.int x), some (.int y), some (.int hv), some (.int gv), none, none, none, none, none, none], [.int 0], (mset h 0 (.int 0)), 198, sl) _
          refine wp_i rfl rfl rfl rfl ?_
          refine wp_i rfl rfl rfl rfl ?_
          show pm_WP PT fr lo 239 (47, [some (.ref 162), some (.int x), some (.int y), some (.int hv), some (.int gv), none, none, none, none, none, none], [.int (-1)], (mset h 0 (.int 0)), 198, sl) _
          exact wp_iret rfl rfl (post0 hI h0 ⟨_, rfl⟩)
        | true =>
          show pm_WP PT fr lo 239 (43, [some (.ref 162), some (.int x), some (.int y), some (.int hv), some (.int gv), none, none, none, none, none, none], [.int 1], (mset h 0 (.int 0)), 198, sl) _
          refine wp_i rfl rfl rfl rfl ?_
          obtain ⟨a, rfl, ha⟩ := isC_iv hc b1
          obtain ⟨b, rfl, hb⟩ := isC_iv hc b2
          have hg := in_ge b4
          show pm_WP PT fr lo 239 (48, [some (.ref 162), some (.int (nI a)), some (.int (nI b)), some (.int hv), some (.int gv), none, none, none, none, none, none], [], (mset h 0 (.int 0)), 198, sl) _
          refine wp_i rfl rfl rfl rfl ?_
          refine wp_i rfl rfl rfl rfl ?_
          show pm_WP PT fr lo 239 (51, [some (.ref 162), some (.int (nI a)), some (.int (nI b)), some (.int hv), some (.int gv), some (.int 0), none, none, none, none, none], [], (mset h 0 (.int 0)), 198, sl) _
          have key := wk_A (fr := fr) (lo := lo) (sl := sl) (h := mset h 0 (.int 0)) (a := a) (b := b) (hv := hv) (gv := gv) (Q := mPost anInt h sl) (mF_ne (by decide) h40) (fun g q => ?_) 600 0 f0 (by omega) (fun j hj => (tF j hj).1)
          · rw [aset_same (mset_arr (by decide) hF)] at key
            exact key
          · refine wp_i rfl rfl rfl rfl ?_
            show pm_WP PT fr lo 239 (74, [some (.ref 162), some (.int (nI a)), some (.int (nI b)), some (.int hv), some (.int gv), some (.int (nI 600)), none, none, none, none, none], [.ref 162], (aset (mset h 0 (.int 0)) 186 600 g), 198, sl) _
            refine wp_gfm rfl rfl (mF_as (by decide) (mF_ne (by decide) h40)) ?_
            refine wp_i rfl rfl rfl rfl ?_
            refine wp_i rfl rfl rfl rfl ?_
            show pm_WP PT fr lo 239 (80, [some (.ref 162), some (.int (nI a)), some (.int (nI b)), some (.int hv), some (.int gv), some (.int (nI 600)), none, none, none, none, none], [.int gv, .int (nI a), .ref 186], (aset (mset h 0 (.int 0)) 186 600 g), 198, sl) _
            refine wp_ism rfl (aset_self _ _ _ _) (hI_in (by omega) (by omega)) (by decide) ?_
            rw [nI_clamp (by omega), aset_aset]
            show pm_WP PT fr lo 239 (81, [some (.ref 162), some (.int (nI a)), some (.int (nI b)), some (.int hv), some (.int gv), some (.int (nI 600)), none, none, none, none, none], [], (aset (mset h 0 (.int 0)) 186 600 (upd g a gv)), 198, sl) _
            refine wp_i rfl rfl rfl rfl ?_
            refine wp_i rfl rfl rfl rfl ?_
            show pm_WP PT fr lo 239 (84, [some (.ref 162), some (.int (nI a)), some (.int (nI b)), some (.int hv), some (.int gv), some (.int 0), none, none, none, none, none], [], (aset (mset h 0 (.int 0)) 186 600 (upd g a gv)), 198, sl) _
            exact wk_M (w := w) (mF_ne (by decide) h3) hc (mF_ne (by decide) h40) (mF_ne (by decide) h11) (mset_arr (by decide) hR) hw (by omega) (by omega) (by omega) (fun g2 v q2 => fin g2 v q2) 100 0 _ none none none none none (by omega) (wkI_up q (by omega))
end WLK
end MG74alivex2
