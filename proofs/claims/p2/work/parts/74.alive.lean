/-! alive, by hand -/
section ALV
variable {fr lo sl : Nat} {h : pm_H} {Q : pm_Rs → Prop}
theorem wp_ldiv {k pc : Nat} {L : pm_L} {r : List Value} {x y : Int64} (hi : pm_ins PT k pc = some (.ldiv, 1)) (hy : ¬ y = 0) (kk : pm_WP PT fr lo k (pc + 1, L, .long (x / y) :: r, h, 198, sl) Q) : pm_WP PT fr lo k (pc, L, .long y :: .long x :: r, h, 198, sl) Q := by
  refine wp_i hi rfl rfl ?_ kk
  exact if_neg hy
theorem in10 {x : Int32} (q : in_b x.toInt64 0 10 = true) : ∃ j, x = nI j ∧ j ≤ 10 := by
  unfold in_b at q
  rw [Bool.and_eq_true] at q
  have e1 : ¬ x.toInt64 < 0 := by simpa using q.1
  have e2 : ¬ (10 : Int64) < x.toInt64 := by simpa using q.2
  rw [Int64.lt_iff_toInt_lt, Int32.toInt_toInt64] at e1
  rw [Int64.lt_iff_toInt_lt, Int32.toInt_toInt64] at e2
  have n1 : (0 : Int64).toInt = 0 := by decide
  have n2 : (10 : Int64).toInt = 10 := by decide
  rw [n1] at e1
  rw [n2] at e2
  obtain ⟨j, rfl, hj, ej⟩ := hI_of (show 0 ≤ x.toInt by omega)
  exact ⟨j, rfl, by omega⟩
theorem sub10 : ∀ n : Nat, n ≤ 10 → (((10 : Int32) - nI n).toInt64).toInt = 10 - (n : Int) := by
  intro n hn
  rw [Int32.toInt_toInt64]
  have : ∀ n : Nat, n ≤ 10 → ((10 : Int32) - nI n).toInt = 10 - (n : Int) := by decide
  exact this n hn
theorem mul64 {a b : Int64} (h1 : 0 ≤ a.toInt) (h2 : a.toInt ≤ 1000000000000) (h3 : 0 ≤ b.toInt) (h4 : b.toInt ≤ 10) : (a * b).toInt = a.toInt * b.toInt := by
  have l1 : 0 ≤ a.toInt * b.toInt := Int.mul_nonneg h1 h3
  have l2 : a.toInt * b.toInt ≤ 1000000000000 * 10 := Int.mul_le_mul h2 h4 h3 (by decide)
  rw [Int64.toInt_mul]
  exact Int.bmod_eq_of_le (by omega) (by omega)
/-- after i factors -/
def alP (i : Nat) (u d : Int64) : Prop := 0 ≤ u.toInt ∧ u.toInt ≤ d.toInt ∧ 1 ≤ d.toInt ∧ d.toInt ≤ (10 : Int) ^ i
theorem alP_up {i n : Nat} {u d : Int64} (hi : i < 12) (hn : n ≤ 10) (q : alP i u d) : alP (i + 1) (u * ((10 : Int32) - nI n).toInt64) (d * 10) := by
  obtain ⟨q1, q2, q3, q4⟩ := q
  have hp : (10 : Int) ^ i ≤ 1000000000000 := by
    have : ∀ i : Nat, i < 12 → (10 : Int) ^ i ≤ 1000000000000 := by decide
    exact this i hi
  have e10 : (10 : Int64).toInt = 10 := by decide
  have s := sub10 n hn
  have m1 := mul64 (a := u) (b := ((10 : Int32) - nI n).toInt64) q1 (by omega) (by rw [s]; omega) (by rw [s]; omega)
  have m2 := mul64 (a := d) (b := 10) (by omega) (by omega) (by rw [e10]; decide) (by rw [e10]; decide)
  rw [s] at m1
  rw [e10] at m2
  have l1 : u.toInt * (10 - (n : Int)) ≤ d.toInt * 10 := Int.mul_le_mul q2 (by omega) (by omega) (by omega)
  have l0 : 0 ≤ u.toInt * (10 - (n : Int)) := Int.mul_nonneg q1 (by omega)
  refine ⟨by rw [m1]; exact l0, by rw [m1, m2]; exact l1, by rw [m2]; omega, ?_⟩
  rw [m2, Int.pow_succ]
  exact Int.mul_le_mul_of_nonneg_right q4 (by decide)
theorem al_L {a t n D : Nat} {f : Nat → Int32} (h39 : mF h 39 (.ref 185)) (hF : h 185 = .inl (0, 6, .inl f)) (ha : a < 6) (ea : f a = nI D) (hD : D ≤ 12) (hn : n ≤ 10) (kk : ∀ u d, alP D u d → pm_WP PT fr lo 240 (98, [some (.ref 162), some (.int (nI a)), some (.int (nI t)), some (.int (nI n)), some (.long u), none, some (.long d), none, some (.int (nI D)), none], [], h, 198, sl) Q) : ∀ (m i : Nat) (u d : Int64), i + m = D → alP i u d → pm_WP PT fr lo 240 (63, [some (.ref 162), some (.int (nI a)), some (.int (nI t)), some (.int (nI n)), some (.long u), none, some (.long d), none, some (.int (nI i)), none], [], h, 198, sl) Q := by
  intro m
  induction m with
  | zero =>
    intro i u d hi q
    obtain rfl : i = D := by omega
    refine wp_i rfl rfl rfl rfl ?_
    refine wp_i rfl rfl rfl rfl ?_
    show pm_WP PT fr lo 240 (66, [some (.ref 162), some (.int (nI a)), some (.int (nI t)), some (.int (nI n)), some (.long u), none, some (.long d), none, some (.int (nI i)), none], [.ref 162, .int (nI i)], h, 198, sl) _
    refine wp_gfm rfl rfl h39 ?_
    refine wp_i rfl rfl rfl rfl ?_
    show pm_WP PT fr lo 240 (70, [some (.ref 162), some (.int (nI a)), some (.int (nI t)), some (.int (nI n)), some (.long u), none, some (.long d), none, some (.int (nI i)), none], [.int (nI a), .ref 185, .int (nI i)], h, 198, sl) _
    refine wp_iam rfl hF (hI_in (by omega) (by omega)) (by decide) ?_
    rw [nI_clamp (by omega), ea]
    show pm_WP PT fr lo 240 (71, [some (.ref 162), some (.int (nI a)), some (.int (nI t)), some (.int (nI n)), some (.long u), none, some (.long d), none, some (.int (nI i)), none], [.int (nI i), .int (nI i)], h, 198, sl) _
    show pm_WP PT fr lo 240 (71, [some (.ref 162), some (.int (nI a)), some (.int (nI t)), some (.int (nI n)), some (.long u), none, some (.long d), none, some (.int (nI i)), none], [.int (nI i), .int (nI i)], h, 198, sl) _
    refine wp_icmp (c := .ge) (off := 27) (t := 98) rfl rfl (fun _ => ?_) (fun q => absurd (q.symm.trans ((hI_ge (by omega) (by omega)).trans (decide_eq_true (by omega)))) (by decide))
    show pm_WP PT fr lo 240 (98, [some (.ref 162), some (.int (nI a)), some (.int (nI t)), some (.int (nI n)), some (.long u), none, some (.long d), none, some (.int (nI i)), none], [], h, 198, sl) _
    exact kk u d q
  | succ m ih =>
    intro i u d hi q
    refine wp_i rfl rfl rfl rfl ?_
    refine wp_i rfl rfl rfl rfl ?_
    show pm_WP PT fr lo 240 (66, [some (.ref 162), some (.int (nI a)), some (.int (nI t)), some (.int (nI n)), some (.long u), none, some (.long d), none, some (.int (nI i)), none], [.ref 162, .int (nI i)], h, 198, sl) _
    refine wp_gfm rfl rfl h39 ?_
    refine wp_i rfl rfl rfl rfl ?_
    show pm_WP PT fr lo 240 (70, [some (.ref 162), some (.int (nI a)), some (.int (nI t)), some (.int (nI n)), some (.long u), none, some (.long d), none, some (.int (nI i)), none], [.int (nI a), .ref 185, .int (nI i)], h, 198, sl) _
    refine wp_iam rfl hF (hI_in (by omega) (by omega)) (by decide) ?_
    rw [nI_clamp (by omega), ea]
    show pm_WP PT fr lo 240 (71, [some (.ref 162), some (.int (nI a)), some (.int (nI t)), some (.int (nI n)), some (.long u), none, some (.long d), none, some (.int (nI i)), none], [.int (nI D), .int (nI i)], h, 198, sl) _
    show pm_WP PT fr lo 240 (71, [some (.ref 162), some (.int (nI a)), some (.int (nI t)), some (.int (nI n)), some (.long u), none, some (.long d), none, some (.int (nI i)), none], [.int (nI D), .int (nI i)], h, 198, sl) _
    refine wp_icmp (c := .ge) (off := 27) (t := 98) rfl rfl (fun q => absurd (q.symm.trans ((hI_ge (by omega) (by omega)).trans (decide_eq_false (by omega)))) (by decide)) (fun _ => ?_)
    refine wp_i rfl rfl rfl rfl ?_
    refine wp_i rfl rfl rfl rfl ?_
    refine wp_i rfl rfl rfl rfl ?_
    refine wp_i rfl rfl rfl rfl ?_
    refine wp_i rfl rfl rfl rfl ?_
    refine wp_i rfl rfl rfl rfl ?_
    refine wp_i rfl rfl rfl rfl ?_
    refine wp_i rfl rfl rfl rfl ?_
    refine wp_i rfl rfl rfl rfl ?_
    refine wp_i rfl rfl rfl rfl ?_
    refine wp_i rfl rfl rfl rfl ?_
    refine wp_i rfl rfl rfl rfl ?_
    refine wp_i rfl rfl rfl rfl ?_
    show pm_WP PT fr lo 240 (63, [some (.ref 162), some (.int (nI a)), some (.int (nI t)), some (.int (nI n)), some (.long (u * ((10 - (nI n))).toInt64)), none, some (.long (d * 10)), none, some (.int ((nI i) + 1)), none], [], h, 198, sl) _
    rw [nI_1 i]
    exact ih (i + 1) _ _ (by omega) (alP_up (by omega) hn q)
theorem hm_alive (hI : mInv h) (x y z : Int32) (hf : 100 ≤ fr) (hl : 4000 ≤ lo) : pm_WP PT fr lo 240 (0, pm_l0 [.ref 162, .int x, .int y, .int z] 10, [], h, 198, sl) (mPost anInt h sl) := by
  obtain ⟨hh, hq⟩ := id hI
  obtain ⟨x0, h0, -⟩ := ty_fld hh (g := 0) rfl
  obtain ⟨k1, h1, lk⟩ := ty_nat hh (g := 1) (u := 100) rfl (by decide)
  obtain ⟨c, h3, hc⟩ := ty_nat hh (g := 3) (u := 6) rfl (by decide)
  have h2 := ty_ref hh (g := 2) (p := 163) rfl
  have h39 := ty_ref hh (g := 39) (p := 185) rfl
  have h11 := ty_ref hh (g := 11) (p := 169) rfl
  obtain ⟨rd, w, hR, hw⟩ := ty_rd hh
  obtain ⟨f0, hF, tF⟩ := ty_far hh
  obtain ⟨R, hL⟩ := ty_lar hh
  refine wp_i rfl rfl rfl rfl ?_
  refine wp_i rfl rfl rfl rfl ?_
  show pm_WP PT fr lo 240 (2, [some (.ref 162), some (.int x), some (.int y), some (.int z), none, none, none, none, none, none], [.int 0, .ref 162], h, 198, sl) _
  refine wp_pfm rfl rfl rfl (by decide) h0 ?_
  refine wp_i rfl rfl rfl rfl ?_
  refine wp_i rfl rfl rfl rfl ?_
  show pm_WP PT fr lo 240 (7, [some (.ref 162), some (.int x), some (.int y), some (.int z), none, none, none, none, none, none], [.int x, .ref 162], (mset h 0 (.int 0)), 198, sl) _
  refine wp_callM (t := 168) (As := [.int x]) (rest := []) (mx := 2) rfl rfl rfl rfl (Nat.le_of_ble_eq_true rfl) (Nat.le_of_ble_eq_true rfl) (by omega) (by omega) rfl (mF_obj (mF_self h0)) (wp_mono (hd_isCourt (c := c) x (mF_ne (by decide) h3) (by omega) (by omega)) ?_)
  rintro _ rfl
  cases b1 : in_b x.toInt64 0 (nI c - 1).toInt64 with
  | false =>
    show pm_WP PT fr lo 240 (10, [some (.ref 162), some (.int x), some (.int y), some (.int z), none, none, none, none, none, none], [.int 0], (mset h 0 (.int 0)), 198, sl) _
    refine wp_i rfl rfl rfl rfl ?_
    refine wp_i rfl rfl rfl rfl ?_
    show pm_WP PT fr lo 240 (34, [some (.ref 162), some (.int x), some (.int y), some (.int z), none, none, none, none, none, none], [.int (-1)], (mset h 0 (.int 0)), 198, sl) _
    exact wp_iret rfl rfl (post0 hI h0 ⟨_, rfl⟩)
  | true =>
    show pm_WP PT fr lo 240 (10, [some (.ref 162), some (.int x), some (.int y), some (.int z), none, none, none, none, none, none], [.int 1], (mset h 0 (.int 0)), 198, sl) _
    refine wp_i rfl rfl rfl rfl ?_
    refine wp_i rfl rfl rfl rfl ?_
    refine wp_i rfl rfl rfl rfl ?_
    show pm_WP PT fr lo 240 (15, [some (.ref 162), some (.int x), some (.int y), some (.int z), none, none, none, none, none, none], [.int y, .ref 162], (mset h 0 (.int 0)), 198, sl) _
    refine wp_callM (t := 168) (As := [.int y]) (rest := []) (mx := 2) rfl rfl rfl rfl (Nat.le_of_ble_eq_true rfl) (Nat.le_of_ble_eq_true rfl) (by omega) (by omega) rfl (mF_obj (mF_self h0)) (wp_mono (hd_isCourt (c := c) y (mF_ne (by decide) h3) (by omega) (by omega)) ?_)
    rintro _ rfl
    cases b2 : in_b y.toInt64 0 (nI c - 1).toInt64 with
    | false =>
      show pm_WP PT fr lo 240 (18, [some (.ref 162), some (.int x), some (.int y), some (.int z), none, none, none, none, none, none], [.int 0], (mset h 0 (.int 0)), 198, sl) _
      refine wp_i rfl rfl rfl rfl ?_
      refine wp_i rfl rfl rfl rfl ?_
      show pm_WP PT fr lo 240 (34, [some (.ref 162), some (.int x), some (.int y), some (.int z), none, none, none, none, none, none], [.int (-1)], (mset h 0 (.int 0)), 198, sl) _
      exact wp_iret rfl rfl (post0 hI h0 ⟨_, rfl⟩)
    | true =>
      show pm_WP PT fr lo 240 (18, [some (.ref 162), some (.int x), some (.int y), some (.int z), none, none, none, none, none, none], [.int 1], (mset h 0 (.int 0)), 198, sl) _
      refine wp_i rfl rfl rfl rfl ?_
      refine wp_i rfl rfl rfl rfl ?_
      refine wp_i rfl rfl rfl rfl ?_
      refine wp_i rfl rfl rfl rfl ?_
      refine wp_i rfl rfl rfl rfl ?_
      show pm_WP PT fr lo 240 (27, [some (.ref 162), some (.int x), some (.int y), some (.int z), none, none, none, none, none, none], [.long 10, .long 0, .long (z).toInt64], (mset h 0 (.int 0)), 198, sl) _
      refine wp_callS (t := 163) (As := [.long (z).toInt64, .long 0, .long 10]) (rest := []) (mx := 6) rfl rfl rfl rfl (Nat.le_of_ble_eq_true rfl) (Nat.le_of_ble_eq_true rfl) (by omega) (by omega) (wp_mono (hd_in z.toInt64 0 10) ?_)
      rintro _ rfl
      cases b3 : in_b z.toInt64 0 10 with
      | false =>
        show pm_WP PT fr lo 240 (30, [some (.ref 162), some (.int x), some (.int y), some (.int z), none, none, none, none, none, none], [.int 0], (mset h 0 (.int 0)), 198, sl) _
        refine wp_i rfl rfl rfl rfl ?_
        refine wp_i rfl rfl rfl rfl ?_
        show pm_WP PT fr lo 240 (34, [some (.ref 162), some (.int x), some (.int y), some (.int z), none, none, none, none, none, none], [.int (-1)], (mset h 0 (.int 0)), 198, sl) _
        exact wp_iret rfl rfl (post0 hI h0 ⟨_, rfl⟩)
      | true =>
        show pm_WP PT fr lo 240 (30, [some (.ref 162), some (.int x), some (.int y), some (.int z), none, none, none, none, none, none], [.int 1], (mset h 0 (.int 0)), 198, sl) _
        refine wp_i rfl rfl rfl rfl ?_
        obtain ⟨a, rfl, ha⟩ := isC_iv hc b1
        obtain ⟨t, rfl, ht⟩ := isC_iv hc b2
        obtain ⟨n, rfl, hn⟩ := in10 b3
        show pm_WP PT fr lo 240 (35, [some (.ref 162), some (.int (nI a)), some (.int (nI t)), some (.int (nI n)), none, none, none, none, none, none], [], (mset h 0 (.int 0)), 198, sl) _
        refine wp_i rfl rfl rfl rfl ?_
        refine wp_i rfl rfl rfl rfl ?_
        show pm_WP PT fr lo 240 (37, [some (.ref 162), some (.int (nI a)), some (.int (nI t)), some (.int (nI n)), none, none, none, none, none, none], [.int (nI t), .ref 162], (mset h 0 (.int 0)), 198, sl) _
        refine wp_callM (t := 237) (As := [.int (nI t)]) (rest := []) (mx := 6) rfl rfl rfl rfl (Nat.le_of_ble_eq_true rfl) (Nat.le_of_ble_eq_true rfl) (by omega) (by omega) rfl (mF_obj (mF_self h0)) (wp_mono (hd_laysFar (w := w) (mF_ne (by decide) h3) hc (mF_ne (by decide) h39) (mF_ne (by decide) h11) (mset_arr (by decide) hR) hw (mset_arr (by decide) hF) (by omega) (by omega) (by omega)) ?_)
        rintro _ ⟨f, rfl, hf2⟩
        have tf := far_ty tF hf2
        obtain ⟨ea, la⟩ := hf2.1 a ha
        have hI0 := INF_lt
        have w1 : wyI h (aset (mset h 0 (.int 0)) 185 6 f) f k1 := ⟨dD_tr (dD_set rfl) (dD_arr rfl (by decide)), mF_as (by decide) (mF_self h0), mF_as (by decide) (mF_ne (by decide) h1), ⟨R, by rw [aset_nei (by decide), mset_ne (by decide)]; exact hL⟩, aset_self _ _ _ _⟩
        generalize (aset (mset h 0 (.int 0)) 185 6 f) = hg at w1 ⊢
        have g39 := dD_mF w1.1 rfl h39
        have g185 := w1.2.2.2.2
        refine wp_i rfl rfl rfl rfl ?_
        show pm_WP PT fr lo 240 (41, [some (.ref 162), some (.int (nI a)), some (.int (nI t)), some (.int (nI n)), none, none, none, none, none, none], [.ref 162], hg, 198, sl) _
        refine wp_gfm rfl rfl g39 ?_
        refine wp_i rfl rfl rfl rfl ?_
        show pm_WP PT fr lo 240 (45, [some (.ref 162), some (.int (nI a)), some (.int (nI t)), some (.int (nI n)), none, none, none, none, none, none], [.int (nI a), .ref 185], hg, 198, sl) _
        refine wp_iam rfl g185 (hI_in (by omega) (by omega)) (by decide) ?_
        rw [nI_clamp (by omega), ea]
        show pm_WP PT fr lo 240 (46, [some (.ref 162), some (.int (nI a)), some (.int (nI t)), some (.int (nI n)), none, none, none, none, none, none], [.int (nI (lD w c t c a))], hg, 198, sl) _
        refine wp_i rfl rfl rfl rfl ?_
        show pm_WP PT fr lo 240 (48, [some (.ref 162), some (.int (nI a)), some (.int (nI t)), some (.int (nI n)), none, none, none, none, none, none], [.int 12, .int (nI (lD w c t c a))], hg, 198, sl) _
        refine wp_icmp (c := .le) (off := 6) (t := 54) rfl rfl (fun q => ?_) (fun q => ?_)
        · have q : lD w c t c a ≤ 12 := of_decide_eq_true ((hI_le (b := 12) (by omega) (by omega)).symm.trans q)
          refine wp_i rfl rfl rfl rfl ?_
          refine wp_i rfl rfl rfl rfl ?_
          refine wp_i rfl rfl rfl rfl ?_
          refine wp_i rfl rfl rfl rfl ?_
          refine wp_i rfl rfl rfl rfl ?_
          refine wp_i rfl rfl rfl rfl ?_
          show pm_WP PT fr lo 240 (63, [some (.ref 162), some (.int (nI a)), some (.int (nI t)), some (.int (nI n)), some (.long 1), none, some (.long 1), none, some (.int 0), none], [], hg, 198, sl) _
          refine al_L g39 g185 (by omega) ea q hn (fun u d qa => ?_) (lD w c t c a) 0 1 1 (by omega) ⟨by decide, by decide, by decide, by decide⟩
          obtain ⟨a1, a2, a3, a4⟩ := qa
          have hp : (10 : Int) ^ lD w c t c a ≤ 1000000000000 := by
            have : ∀ i : Nat, i ≤ 12 → (10 : Int) ^ i ≤ 1000000000000 := by decide
            exact this _ q
          refine wp_i rfl rfl rfl rfl ?_
          refine wp_i rfl rfl rfl rfl ?_
          show pm_WP PT fr lo 240 (102, [some (.ref 162), some (.int (nI a)), some (.int (nI t)), some (.int (nI n)), some (.long u), none, some (.long d), none, some (.int (nI (lD w c t c a))), none], [.long d, .long u], hg, 198, sl) _
          refine wp_callS (t := 166) (As := [.long u, .long d]) (rest := []) (mx := 4) rfl rfl rfl rfl (Nat.le_of_ble_eq_true rfl) (Nat.le_of_ble_eq_true rfl) (by omega) (by omega) (wp_mono (hd_common 40 _ _ u d a1 (by omega) (by omega) (by omega) (by omega) (by omega)) ?_)
          rintro _ ⟨g, hg1, rfl⟩
          refine wp_i rfl rfl rfl rfl ?_
          refine wp_i rfl rfl rfl rfl ?_
          refine wp_i rfl rfl rfl rfl ?_
          show pm_WP PT fr lo 240 (109, [some (.ref 162), some (.int (nI a)), some (.int (nI t)), some (.int (nI n)), some (.long u), none, some (.long d), none, some (.long g), none], [.int 0, .ref 162], hg, 198, sl) _
          refine wp_pfm rfl rfl rfl (by decide) w1.2.2.1 ?_
          refine wp_i rfl rfl rfl rfl ?_
          refine wp_i rfl rfl rfl rfl ?_
          refine wp_i rfl rfl rfl rfl ?_
          have hgn : ¬ g = 0 := fun e => by subst e; exact absurd hg1 (by decide)
          show pm_WP PT fr lo 240 (117, [some (.ref 162), some (.int (nI a)), some (.int (nI t)), some (.int (nI n)), some (.long u), none, some (.long d), none, some (.long g), none], [.long g, .long u, .ref 162], (mset hg 1 (.int 0)), 198, sl) _
          refine wp_ldiv rfl hgn ?_
          have w2 : wyI h (mset hg 1 (.int 0)) f 0 := ⟨dD_tr w1.1 (dD_set rfl), mF_ne (by decide) w1.2.1, mF_self w1.2.2.1, ⟨_, by rw [mset_ne (by decide)]; exact w1.2.2.2.1.choose_spec⟩, mset_arr (by decide) g185⟩
          show pm_WP PT fr lo 240 (118, [some (.ref 162), some (.int (nI a)), some (.int (nI t)), some (.int (nI n)), some (.long u), none, some (.long d), none, some (.long g), none], [.long (u / g), .ref 162], (mset hg 1 (.int 0)), 198, sl) _
          generalize mset hg 1 (.int 0) = hx at w2 ⊢
          obtain ⟨R0, m0⟩ := id w2.2.2.2.1
          show pm_WP PT fr lo 240 (118, [some (.ref 162), some (.int (nI a)), some (.int (nI t)), some (.int (nI n)), some (.long u), none, some (.long d), none, some (.long g), none], [.long (u / g), .ref 162], hx, 198, sl) _
          refine wp_callM (t := 167) (As := [.long (u / g)]) (rest := []) (mx := 3) rfl rfl rfl rfl (Nat.le_of_ble_eq_true rfl) (Nat.le_of_ble_eq_true rfl) (by omega) (by omega) rfl (mF_obj w2.2.2.1) (wp_mono (hd_enters (u / g) w2.2.2.1 (by omega) (dD_mF w2.1 rfl h2) m0) ?_)
          rintro _ rfl
          have w3 : wyI h (mset (lset hx 163 128 (vp_updL R0 0 (u / g))) 1 (.int (nI (0 + 1)))) f (0 + 1) := wyI_en (R := R0) w2
          show pm_WP PT fr lo 240 (121, [some (.ref 162), some (.int (nI a)), some (.int (nI t)), some (.int (nI n)), some (.long u), none, some (.long d), none, some (.long g), none], [], (mset (lset hx 163 128 (vp_updL R0 0 (u / g))) 1 (.int (nI (0 + 1)))), 198, sl) _
          generalize (mset (lset hx 163 128 (vp_updL R0 0 (u / g))) 1 (.int (nI (0 + 1)))) = hy at w3 ⊢
          refine wp_i rfl rfl rfl rfl ?_
          refine wp_i rfl rfl rfl rfl ?_
          refine wp_i rfl rfl rfl rfl ?_
          show pm_WP PT fr lo 240 (126, [some (.ref 162), some (.int (nI a)), some (.int (nI t)), some (.int (nI n)), some (.long u), none, some (.long d), none, some (.long g), none], [.long g, .long d, .ref 162], hy, 198, sl) _
          refine wp_ldiv rfl hgn ?_
          show pm_WP PT fr lo 240 (127, [some (.ref 162), some (.int (nI a)), some (.int (nI t)), some (.int (nI n)), some (.long u), none, some (.long d), none, some (.long g), none], [.long (d / g), .ref 162], hy, 198, sl) _
          have w3b : wyI h hy f 1 := w3
          obtain ⟨R1, m1⟩ := id w3b.2.2.2.1
          show pm_WP PT fr lo 240 (127, [some (.ref 162), some (.int (nI a)), some (.int (nI t)), some (.int (nI n)), some (.long u), none, some (.long d), none, some (.long g), none], [.long (d / g), .ref 162], hy, 198, sl) _
          refine wp_callM (t := 167) (As := [.long (d / g)]) (rest := []) (mx := 3) rfl rfl rfl rfl (Nat.le_of_ble_eq_true rfl) (Nat.le_of_ble_eq_true rfl) (by omega) (by omega) rfl (mF_obj w3b.2.2.1) (wp_mono (hd_enters (d / g) w3b.2.2.1 (by omega) (dD_mF w3b.1 rfl h2) m1) ?_)
          rintro _ rfl
          have w4 : wyI h (mset (lset hy 163 128 (vp_updL R1 1 (d / g))) 1 (.int (nI (1 + 1)))) f (1 + 1) := wyI_en (R := R1) w3b
          show pm_WP PT fr lo 240 (130, [some (.ref 162), some (.int (nI a)), some (.int (nI t)), some (.int (nI n)), some (.long u), none, some (.long d), none, some (.long g), none], [], (mset (lset hy 163 128 (vp_updL R1 1 (d / g))) 1 (.int (nI (1 + 1)))), 198, sl) _
          generalize (mset (lset hy 163 128 (vp_updL R1 1 (d / g))) 1 (.int (nI (1 + 1)))) = hz at w4 ⊢
          refine wp_i rfl rfl rfl rfl ?_
          show pm_WP PT fr lo 240 (131, [some (.ref 162), some (.int (nI a)), some (.int (nI t)), some (.int (nI n)), some (.long u), none, some (.long d), none, some (.long g), none], [.int 0], hz, 198, sl) _
          exact wp_iret rfl rfl (wyP hI w4 (by omega) tf ⟨_, rfl⟩)
        · refine wp_i rfl rfl rfl rfl ?_
          show pm_WP PT fr lo 240 (53, [some (.ref 162), some (.int (nI a)), some (.int (nI t)), some (.int (nI n)), none, none, none, none, none, none], [.int (-2)], hg, 198, sl) _
          exact wp_iret rfl rfl (wyP hI w1 lk tf ⟨_, rfl⟩)
end ALV
