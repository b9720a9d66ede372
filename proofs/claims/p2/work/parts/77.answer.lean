/-! answer, by hand -/
section ANS
variable {fr lo sl : Nat} {h : pm_H} {Q : pm_Rs → Prop}
def rxrS : con := (217, [(2, 162, 1), (2, 171, 1), (0, 0, 7), (0, 0, 5)], [], [some (0, (-2), (-2)), some (0, 0, 20)], [], 75, 4200, false)
def rxzS : List ast := [(18, [some (2, 162, 1), some (2, 171, 1), some (0, 0, 7), some (0, 0, 5), none, none, none, none, none], [], [])]
theorem rxsS : seg_chk [] (kn_or (kl bB rxF [rxt7, rxt14, rxt15]) rk) PT bB 198 rxF0 rxJ rxjo rxP 1179 rxrS rxzS = true := fq_seg2 (fq_jn_eq _) rfl (by decide +kernel)
theorem rxoS : seg_ok PT bB 198 rxF rxQ rxrS rxzS := seg_chk_ok rxle rxpp (kn_or_ok (kl_ok (List.forall_mem_cons.mpr ⟨rxo7, List.forall_mem_cons.mpr ⟨rxo14, List.forall_mem_cons.mpr ⟨rxo15, fun _ h => (by cases h)⟩⟩⟩)) rk_ok) seg_nil rxsS
theorem in_iv {j c : Nat} (hj : j < c) (hc : c ≤ 8) : in_b (nI j).toInt64 0 (nI c - 1).toInt64 = true := by
  have : ∀ c : Nat, c ≤ 8 → ∀ j : Nat, j < c → in_b (nI j).toInt64 0 (nI c - 1).toInt64 = true := by decide
  exact this c hc j hj
theorem hd_isGift {c : Nat} (x : Int32) (h4 : mF h 4 (.int (nI c))) (hf : 1 ≤ fr) (hl : 30 ≤ lo) : pm_WP PT fr lo 169 (0, pm_l0 [.ref 162, .int x] 2, [], h, 198, sl) (fun r => r = (some (.int (cond (in_b x.toInt64 0 (nI c - 1).toInt64) 1 0)), h, 198, sl)) := by
  refine wp_i rfl rfl rfl rfl ?_
  refine wp_i rfl rfl rfl rfl ?_
  refine wp_i rfl rfl rfl rfl ?_
  refine wp_i rfl rfl rfl rfl ?_
  show pm_WP PT fr lo 169 (4, [some (.ref 162), some (.int x)], [.ref 162, .long 0, .long (x).toInt64], h, 198, sl) _
  refine wp_gfm rfl rfl h4 ?_
  refine wp_i rfl rfl rfl rfl ?_
  refine wp_i rfl rfl rfl rfl ?_
  refine wp_i rfl rfl rfl rfl ?_
  show pm_WP PT fr lo 169 (10, [some (.ref 162), some (.int x)], [.long (((nI c) - 1)).toInt64, .long 0, .long (x).toInt64], h, 198, sl) _
  refine wp_callS (t := 163) (As := [.long (x).toInt64, .long 0, .long (((nI c) - 1)).toInt64]) (rest := []) (mx := 6) rfl rfl rfl rfl (Nat.le_of_ble_eq_true rfl) (Nat.le_of_ble_eq_true rfl) hf (by omega) (wp_mono (hd_in x.toInt64 0 (nI c - 1).toInt64) ?_)
  rintro _ rfl
  show pm_WP PT fr lo 169 (13, [some (.ref 162), some (.int x)], [.int (cond (in_b x.toInt64 0 (nI c - 1).toInt64) 1 0)], h, 198, sl) _
  exact wp_zret rfl rfl (by cases in_b x.toInt64 0 (nI c - 1).toInt64; exact Or.inl rfl; exact Or.inr rfl) rfl
theorem hd_arePair {c : Nat} (hc : c ≤ 6) (x y : Int32) (h3 : mF h 3 (.int (nI c))) (hf : 2 ≤ fr) (hl : 80 ≤ lo) : pm_WP PT fr lo 170 (0, pm_l0 [.ref 162, .int x, .int y] 3, [], h, 198, sl) (fun r => ∃ v : Int32, r = (some (.int v), h, 198, sl) ∧ (v = 0 ∨ v = 1 ∧ ∃ a b, x = nI a ∧ y = nI b ∧ a < c ∧ b < c)) := by
  refine wp_i rfl rfl rfl rfl ?_
  refine wp_i rfl rfl rfl rfl ?_
  show pm_WP PT fr lo 170 (2, [some (.ref 162), some (.int x), some (.int y)], [.int x, .ref 162], h, 198, sl) _
  refine wp_callM (t := 168) (As := [.int x]) (rest := []) (mx := 2) rfl rfl rfl rfl (Nat.le_of_ble_eq_true rfl) (Nat.le_of_ble_eq_true rfl) (by omega) (by omega) rfl (mF_obj h3) (wp_mono (hd_isCourt (c := c) x h3 (by omega) (by omega)) ?_)
  rintro _ rfl
  cases b1 : in_b x.toInt64 0 (nI c - 1).toInt64 with
  | false =>
    show pm_WP PT fr lo 170 (5, [some (.ref 162), some (.int x), some (.int y)], [.int 0], h, 198, sl) _
    refine wp_i rfl rfl rfl rfl ?_
    refine wp_i rfl rfl rfl rfl ?_
    show pm_WP PT fr lo 170 (26, [some (.ref 162), some (.int x), some (.int y)], [.int 0], h, 198, sl) _
    exact wp_zret rfl rfl (Or.inl rfl) ⟨0, rfl, Or.inl rfl⟩
  | true =>
    show pm_WP PT fr lo 170 (5, [some (.ref 162), some (.int x), some (.int y)], [.int 1], h, 198, sl) _
    refine wp_i rfl rfl rfl rfl ?_
    refine wp_i rfl rfl rfl rfl ?_
    refine wp_i rfl rfl rfl rfl ?_
    show pm_WP PT fr lo 170 (10, [some (.ref 162), some (.int x), some (.int y)], [.int y, .ref 162], h, 198, sl) _
    refine wp_callM (t := 168) (As := [.int y]) (rest := []) (mx := 2) rfl rfl rfl rfl (Nat.le_of_ble_eq_true rfl) (Nat.le_of_ble_eq_true rfl) (by omega) (by omega) rfl (mF_obj h3) (wp_mono (hd_isCourt (c := c) y h3 (by omega) (by omega)) ?_)
    rintro _ rfl
    cases b2 : in_b y.toInt64 0 (nI c - 1).toInt64 with
    | false =>
      show pm_WP PT fr lo 170 (13, [some (.ref 162), some (.int x), some (.int y)], [.int 0], h, 198, sl) _
      refine wp_i rfl rfl rfl rfl ?_
      refine wp_i rfl rfl rfl rfl ?_
      show pm_WP PT fr lo 170 (26, [some (.ref 162), some (.int x), some (.int y)], [.int 0], h, 198, sl) _
      exact wp_zret rfl rfl (Or.inl rfl) ⟨0, rfl, Or.inl rfl⟩
    | true =>
      show pm_WP PT fr lo 170 (13, [some (.ref 162), some (.int x), some (.int y)], [.int 1], h, 198, sl) _
      refine wp_i rfl rfl rfl rfl ?_
      obtain ⟨a, rfl, ha⟩ := isC_iv hc b1
      obtain ⟨b, rfl, hb⟩ := isC_iv hc b2
      show pm_WP PT fr lo 170 (16, [some (.ref 162), some (.int (nI a)), some (.int (nI b))], [], h, 198, sl) _
      refine wp_i rfl rfl rfl rfl ?_
      refine wp_i rfl rfl rfl rfl ?_
      show pm_WP PT fr lo 170 (18, [some (.ref 162), some (.int (nI a)), some (.int (nI b))], [.int (nI b), .int (nI a)], h, 198, sl) _
      refine wp_icmp (c := .eq) (off := 7) (t := 25) rfl rfl (fun q => ?_) (fun q => ?_)
      · refine wp_i rfl rfl rfl rfl ?_
        show pm_WP PT fr lo 170 (26, [some (.ref 162), some (.int (nI a)), some (.int (nI b))], [.int 0], h, 198, sl) _
        exact wp_zret rfl rfl (Or.inl rfl) ⟨0, rfl, Or.inl rfl⟩
      · refine wp_i rfl rfl rfl rfl ?_
        refine wp_i rfl rfl rfl rfl ?_
        show pm_WP PT fr lo 170 (26, [some (.ref 162), some (.int (nI a)), some (.int (nI b))], [.int 1], h, 198, sl) _
        exact wp_zret rfl rfl (Or.inr rfl) ⟨1, rfl, Or.inr ⟨rfl, a, b, rfl, rfl, ha, hb⟩⟩
theorem hd_sends {g y : Nat} {n c : Nat} (hI : mInv h) (h4 : mF h 4 (.int (nI n))) (h3 : mF h 3 (.int (nI c))) (hn : n ≤ 8) (hc : c ≤ 6) (hg : g < n) (hy : y < c) (hf : 75 ≤ fr) (hl : 4200 ≤ lo) : pm_WP PT fr lo 217 (0, pm_l0 [.ref 162, .ref 171, .int (nI g), .int (nI y)] 9, [], h, 198, sl) (fun r => ∃ (s : Int32) (h2 : pm_H), r = (some (.int s), h2, 198, sl) ∧ (s.toInt = -2 ∨ 0 ≤ s.toInt) ∧ fm rxF h h2 ∧ mInv h2) := by
  refine wp_i rfl rfl rfl rfl ?_
  refine wp_i rfl rfl rfl rfl ?_
  show pm_WP PT fr lo 217 (2, [some (.ref 162), some (.ref 171), some (.int (nI g)), some (.int (nI y)), none, none, none, none, none], [.int (nI g), .ref 162], h, 198, sl) _
  refine wp_callM (t := 169) (As := [.int (nI g)]) (rest := []) (mx := 2) rfl rfl rfl rfl (Nat.le_of_ble_eq_true rfl) (Nat.le_of_ble_eq_true rfl) (by omega) (by omega) rfl (mF_obj h3) (wp_mono (hd_isGift (nI g) h4 (by omega) (by omega)) ?_)
  rintro _ rfl
  rw [in_iv hg hn]
  show pm_WP PT fr lo 217 (5, [some (.ref 162), some (.ref 171), some (.int (nI g)), some (.int (nI y)), none, none, none, none, none], [.int 1], h, 198, sl) _
  refine wp_i rfl rfl rfl rfl ?_
  refine wp_i rfl rfl rfl rfl ?_
  refine wp_i rfl rfl rfl rfl ?_
  show pm_WP PT fr lo 217 (10, [some (.ref 162), some (.ref 171), some (.int (nI g)), some (.int (nI y)), none, none, none, none, none], [.int (nI y), .ref 162], h, 198, sl) _
  refine wp_callM (t := 168) (As := [.int (nI y)]) (rest := []) (mx := 2) rfl rfl rfl rfl (Nat.le_of_ble_eq_true rfl) (Nat.le_of_ble_eq_true rfl) (by omega) (by omega) rfl (mF_obj h3) (wp_mono (hd_isCourt (nI y) h3 (by omega) (by omega)) ?_)
  rintro _ rfl
  rw [in_iv hy (by omega)]
  show pm_WP PT fr lo 217 (13, [some (.ref 162), some (.ref 171), some (.int (nI g)), some (.int (nI y)), none, none, none, none, none], [.int 1], h, 198, sl) _
  refine wp_i rfl rfl rfl rfl ?_
  show pm_WP PT fr lo 217 (18, [some (.ref 162), some (.ref 171), some (.int (nI g)), some (.int (nI y)), none, none, none, none, none], [], h, 198, sl) _
  refine wp_mono (rxoS (18, [some (.ref 162), some (.ref 171), some (.int (nI g)), some (.int (nI y)), none, none, none, none, none], [], h, 198, sl) fr lo sl ⟨_, List.mem_singleton_self _, rfl, ⟨rfl, fun i a ha => ?_⟩, trivial, hI.1, rfl, rfl⟩ hI.2 hf hl) ?_
  · match i, ha with
    | 0, ha => cases (Option.some.inj (Option.some.inj ha) : _ = a); exact ⟨_, rfl, rfl, List.mem_singleton_self _⟩
    | 1, ha => cases (Option.some.inj (Option.some.inj ha) : _ = a); exact ⟨_, rfl, rfl, List.mem_singleton_self _⟩
    | 2, ha => cases (Option.some.inj (Option.some.inj ha) : _ = a); exact ⟨_, rfl, av_nI (by omega) (by omega) (by omega)⟩
    | 3, ha => cases (Option.some.inj (Option.some.inj ha) : _ = a); exact ⟨_, rfl, av_nI (by omega) (by omega) (by omega)⟩
    | 4, ha => cases (Option.some.inj ha : none = some a)
    | 5, ha => cases (Option.some.inj ha : none = some a)
    | 6, ha => cases (Option.some.inj ha : none = some a)
    | 7, ha => cases (Option.some.inj ha : none = some a)
    | 8, ha => cases (Option.some.inj ha : none = some a)
    | _ + 9, ha => cases ha
  · rintro ⟨v, h2, s⟩ ⟨⟨a, ha, hv⟩, e, ⟨f1, f2⟩, f3⟩
    cases e
    have ha : a = some (0, -2, -2) ∨ a = some (0, 0, 20) := by simpa [rxrS] using ha
    obtain ⟨v⟩ | v := v
    · rcases ha with rfl | rfl <;> exact hv.elim
    · rcases ha with rfl | rfl
      · obtain ⟨x, rfl, a1, a2⟩ := av_int rfl hv
        have a1 : (-2 : Int) ≤ x.toInt := a1
        have a2 : x.toInt ≤ (-2 : Int) := a2
        exact ⟨x, h2, rfl, Or.inl (by omega), f1, f3, f2⟩
      · obtain ⟨x, rfl, a1, a2⟩ := av_int rfl hv
        exact ⟨x, h2, rfl, Or.inr a1, f1, f3, f2⟩
def c171 (i : Nat) : Bool := Nat.beq i 171
theorem hm_copies (hI : mInv h) : pm_WP PT fr lo 229 (0, pm_l0 [.ref 162] 2, [], h, 198, sl) (fun r => ∃ h2 : pm_H, r = (none, h2, 198, sl) ∧ dD c171 noC h h2 ∧ mInv h2) := by
  have h12 := ty_ref hI.1 (g := 12) (p := 170) rfl
  have h13 := ty_ref hI.1 (g := 13) (p := 171) rfl
  obtain ⟨f, hN, -⟩ := ty_arrE hI.1 (i := 170) (by decide) rfl
  obtain ⟨g, hT, -⟩ := ty_arrE hI.1 (i := 171) (by decide) rfl
  refine wp_mono (hd_copies h13 h12 hN hT) ?_
  rintro _ ⟨g2, rfl, eg⟩
  have d : dD c171 noC h (aset h 171 96 g2) := dD_arr rfl (by decide)
  refine ⟨_, rfl, d, dD_ty hI.1 d (fun i hi _ _ => ?_) (fun k hg b hb => by cases hg), rxQ_dD d rfl rfl rfl rfl rfl rfl hI.2⟩
  have := Nat.eq_of_beq_eq_true hi
  subst this
  show ac_ok (aset h 171 96 g2 171) (bB 170)
  rw [aset_self]
  refine ty_row (fun j hj => ?_)
  rw [eg j hj]
  exact ty_row_of hI.1 hN j hj
/-- the best so far -/
def anB (x3 x4 : Int32) : Prop := (x3 = -2 ∧ x4 = -1) ∨ (∃ k, x3 = nI k ∧ k < 8) ∧ 0 ≤ x4.toInt
/-- between its turns -/
def anI (h0 h : pm_H) : Prop := mInv h ∧ (∀ i, i < 162 → h i = h0 i) ∧ ∀ g v, (g = 3 ∨ g = 4) → mF h0 g v → mF h g v
theorem an_L {h0 : pm_H} {c n a b : Nat} (h3 : mF h0 3 (.int (nI c))) (h4 : mF h0 4 (.int (nI n))) (hn : n ≤ 8) (hc : c ≤ 6) (hb : b < c) (hf : 100 ≤ fr) (hl : 5000 ≤ lo) (kk : ∀ h x3 x4 x5 x7, anI h0 h → pm_WP PT fr lo 232 (117, [some (.ref 162), some (.int (nI a)), some (.int (nI b)), some (.int x3), some (.int x4), some (.int x5), some (.int (nI n)), x7], [], h, 198, sl) Q) : ∀ (m i : Nat) (h : pm_H) (x3 x4 x5 : Int32) (x7 : Option Value), i + m = n → anI h0 h → anB x3 x4 → pm_WP PT fr lo 232 (28, [some (.ref 162), some (.int (nI a)), some (.int (nI b)), some (.int x3), some (.int x4), some (.int x5), some (.int (nI i)), x7], [], h, 198, sl) Q := by
  intro m
  induction m with
  | zero =>
    intro i h x3 x4 x5 x7 hi hA hB
    obtain rfl : i = n := by omega
    have m4 := hA.2.2 4 _ (Or.inr rfl) h4
    refine wp_i rfl rfl rfl rfl ?_
    refine wp_i rfl rfl rfl rfl ?_
    show pm_WP PT fr lo 232 (31, [some (.ref 162), some (.int (nI a)), some (.int (nI b)), some (.int x3), some (.int x4), some (.int x5), some (.int (nI i)), x7], [.ref 162, .int (nI i)], h, 198, sl) _
    refine wp_gfm rfl rfl m4 ?_
    show pm_WP PT fr lo 232 (34, [some (.ref 162), some (.int (nI a)), some (.int (nI b)), some (.int x3), some (.int x4), some (.int x5), some (.int (nI i)), x7], [.int (nI i), .int (nI i)], h, 198, sl) _
    refine wp_icmp (c := .ge) (off := 83) (t := 117) rfl rfl (fun _ => ?_) (fun q => absurd (q.symm.trans ((hI_ge (by omega) (by omega)).trans (decide_eq_true (by omega)))) (by decide))
    show pm_WP PT fr lo 232 (117, [some (.ref 162), some (.int (nI a)), some (.int (nI b)), some (.int x3), some (.int x4), some (.int x5), some (.int (nI i)), x7], [], h, 198, sl) _
    exact kk h _ _ _ _ hA
  | succ m ih =>
    intro i h x3 x4 x5 x7 hi hA hB
    have m4 := hA.2.2 4 _ (Or.inr rfl) h4
    have m12 := ty_ref hA.1.1 (g := 12) (p := 170) rfl
    obtain ⟨fN, hN, -⟩ := ty_arrE hA.1.1 (i := 170) (by decide) rfl
    have hN : h 170 = .inl (0, 96, .inl fN) := hN
    refine wp_i rfl rfl rfl rfl ?_
    refine wp_i rfl rfl rfl rfl ?_
    show pm_WP PT fr lo 232 (31, [some (.ref 162), some (.int (nI a)), some (.int (nI b)), some (.int x3), some (.int x4), some (.int x5), some (.int (nI i)), x7], [.ref 162, .int (nI i)], h, 198, sl) _
    refine wp_gfm rfl rfl m4 ?_
    show pm_WP PT fr lo 232 (34, [some (.ref 162), some (.int (nI a)), some (.int (nI b)), some (.int x3), some (.int x4), some (.int x5), some (.int (nI i)), x7], [.int (nI n), .int (nI i)], h, 198, sl) _
    refine wp_icmp (c := .ge) (off := 83) (t := 117) rfl rfl (fun q => absurd (q.symm.trans ((hI_ge (by omega) (by omega)).trans (decide_eq_false (by omega)))) (by decide)) (fun _ => ?_)
    refine wp_i rfl rfl rfl rfl ?_
    show pm_WP PT fr lo 232 (38, [some (.ref 162), some (.int (nI a)), some (.int (nI b)), some (.int x3), some (.int x4), some (.int x5), some (.int (nI i)), x7], [.ref 162], h, 198, sl) _
    refine wp_gfm rfl rfl m12 ?_
    refine wp_i rfl rfl rfl rfl ?_
    refine wp_i rfl rfl rfl rfl ?_
    refine wp_i rfl rfl rfl rfl ?_
    show pm_WP PT fr lo 232 (46, [some (.ref 162), some (.int (nI a)), some (.int (nI b)), some (.int x3), some (.int x4), some (.int x5), some (.int (nI i)), x7], [.int (78 + (nI i)), .ref 170], h, 198, sl) _
    rw [show (78 : Int32) + nI i = nI (78 + i) from nI_add 78 i]
    show pm_WP PT fr lo 232 (46, [some (.ref 162), some (.int (nI a)), some (.int (nI b)), some (.int x3), some (.int x4), some (.int x5), some (.int (nI i)), x7], [.int (nI (78 + i)), .ref 170], h, 198, sl) _
    refine wp_iam rfl hN (hI_in (by omega) (by omega)) (by decide) ?_
    show pm_WP PT fr lo 232 (47, [some (.ref 162), some (.int (nI a)), some (.int (nI b)), some (.int x3), some (.int x4), some (.int x5), some (.int (nI i)), x7], [.int (fN ((nI (78 + i)) : Int32).toNatClampNeg)], h, 198, sl) _
    refine wp_i rfl rfl rfl rfl ?_
    show pm_WP PT fr lo 232 (48, [some (.ref 162), some (.int (nI a)), some (.int (nI b)), some (.int x3), some (.int x4), some (.int x5), some (.int (nI i)), x7], [.int (nI a), .int (fN ((nI (78 + i)) : Int32).toNatClampNeg)], h, 198, sl) _
    refine wp_icmp (c := .ne) (off := 63) (t := 111) rfl rfl (fun q1 => ?_) (fun q1 => ?_)
    · show pm_WP PT fr lo 232 (111, [some (.ref 162), some (.int (nI a)), some (.int (nI b)), some (.int x3), some (.int x4), some (.int x5), some (.int (nI i)), x7], [], h, 198, sl) _
      refine wp_i rfl rfl rfl rfl ?_
      refine wp_i rfl rfl rfl rfl ?_
      show pm_WP PT fr lo 232 (28, [some (.ref 162), some (.int (nI a)), some (.int (nI b)), some (.int x3), some (.int x4), some (.int x5), some (.int (nI i + 1)), x7], [], h, 198, sl) _
      rw [nI_1 i]
      exact ih (i + 1) _ _ _ _ _ (by omega) hA hB
    · refine wp_i rfl rfl rfl rfl ?_
      show pm_WP PT fr lo 232 (52, [some (.ref 162), some (.int (nI a)), some (.int (nI b)), some (.int x3), some (.int x4), some (.int x5), some (.int (nI i)), x7], [.ref 162], h, 198, sl) _
      refine wp_callM (t := 229) (As := []) (rest := []) (mx := 2) rfl rfl rfl rfl (Nat.le_of_ble_eq_true rfl) (Nat.le_of_ble_eq_true rfl) (by omega) (by omega) rfl (mF_obj m4) (wp_mono (hm_copies hA.1) ?_)
      rintro _ ⟨h2, rfl, d2, hI2⟩
      have m13 := ty_ref hI2.1 (g := 13) (p := 171) rfl
      have k3 : mF h2 3 (.int (nI c)) := dD_mF d2 rfl (hA.2.2 3 _ (Or.inl rfl) h3)
      have k4 : mF h2 4 (.int (nI n)) := dD_mF d2 rfl m4
      refine wp_i rfl rfl rfl rfl ?_
      refine wp_i rfl rfl rfl rfl ?_
      show pm_WP PT fr lo 232 (57, [some (.ref 162), some (.int (nI a)), some (.int (nI b)), some (.int x3), some (.int x4), some (.int x5), some (.int (nI i)), x7], [.ref 162, .ref 162], h2, 198, sl) _
      refine wp_gfm rfl rfl m13 ?_
      refine wp_i rfl rfl rfl rfl ?_
      refine wp_i rfl rfl rfl rfl ?_
      show pm_WP PT fr lo 232 (63, [some (.ref 162), some (.int (nI a)), some (.int (nI b)), some (.int x3), some (.int x4), some (.int x5), some (.int (nI i)), x7], [.int (nI b), .int (nI i), .ref 171, .ref 162], h2, 198, sl) _
      refine wp_callM (t := 217) (As := [.ref 171, .int (nI i), .int (nI b)]) (rest := []) (mx := 9) rfl rfl rfl rfl (Nat.le_of_ble_eq_true rfl) (Nat.le_of_ble_eq_true rfl) (by omega) (by omega) rfl (mF_obj k3) (wp_mono (hd_sends hI2 k4 k3 hn hc (show i < n by omega) hb (by omega) (by omega)) ?_)
      rintro _ ⟨s, h3, rfl, hs, q3, hI3⟩
      have hA3 : anI h0 h3 := ⟨hI3, fun j hj => (fm_lt q3 j hj).trans ((x_lt d2 (fun i hi => nb_ne (by omega)) j hj).trans (hA.2.1 j hj)), fun g v hg q => by
        have q1 : mF h2 g v := dD_mF d2 rfl (hA.2.2 g v hg q)
        rcases hg with rfl | rfl
        · exact fm_mF q3 rfl q1
        · exact fm_mF q3 rfl q1⟩
      obtain ⟨x29, m29, v29⟩ := ty_fld hI3.1 (g := 29) rfl
      obtain ⟨x29, rfl, -⟩ := av_int rfl v29
      have m9 := ty_ref hI3.1 (g := 9) (p := 167) rfl
      obtain ⟨fG, hG, -⟩ := ty_arr hI3.1 (i := 167) (by decide) rfl rfl (by decide)
      refine wp_i rfl rfl rfl rfl ?_
      refine wp_i rfl rfl rfl rfl ?_
      refine wp_i rfl rfl rfl rfl ?_
      show pm_WP PT fr lo 232 (72, [some (.ref 162), some (.int (nI a)), some (.int (nI b)), some (.int x3), some (.int x4), some (.int x5), some (.int (nI i)), some (.int s)], [.int x4, .int s], h3, 198, sl) _
      refine wp_icmp (c := .gt) (off := 26) (t := 98) rfl rfl (fun q2 => ?_) (fun q2 => ?_)
      · have q2 : x4 < s := of_decide_eq_true q2
        have hB2 : anB (nI i) s := by
          refine Or.inr ⟨⟨i, rfl, by omega⟩, ?_⟩
          rw [Int32.lt_iff_toInt_lt] at q2
          rcases hB with ⟨-, rfl⟩ | ⟨-, p⟩
          · have : (-1 : Int32).toInt = -1 := by decide
            omega
          · omega
        refine wp_i rfl rfl rfl rfl ?_
        refine wp_i rfl rfl rfl rfl ?_
        refine wp_i rfl rfl rfl rfl ?_
        refine wp_i rfl rfl rfl rfl ?_
        refine wp_i rfl rfl rfl rfl ?_
        show pm_WP PT fr lo 232 (106, [some (.ref 162), some (.int (nI a)), some (.int (nI b)), some (.int (nI i)), some (.int s), some (.int x5), some (.int (nI i)), some (.int s)], [.ref 162], h3, 198, sl) _
        refine wp_gfm rfl rfl m29 ?_
        refine wp_i rfl rfl rfl rfl ?_
        show pm_WP PT fr lo 232 (111, [some (.ref 162), some (.int (nI a)), some (.int (nI b)), some (.int (nI i)), some (.int s), some (.int x29), some (.int (nI i)), some (.int s)], [], h3, 198, sl) _
        refine wp_i rfl rfl rfl rfl ?_
        refine wp_i rfl rfl rfl rfl ?_
        show pm_WP PT fr lo 232 (28, [some (.ref 162), some (.int (nI a)), some (.int (nI b)), some (.int (nI i)), some (.int s), some (.int x29), some (.int (nI i + 1)), some (.int s)], [], h3, 198, sl) _
        rw [nI_1 i]
        exact ih (i + 1) _ _ _ _ _ (by omega) hA3 hB2
      · refine wp_i rfl rfl rfl rfl ?_
        refine wp_i rfl rfl rfl rfl ?_
        show pm_WP PT fr lo 232 (79, [some (.ref 162), some (.int (nI a)), some (.int (nI b)), some (.int x3), some (.int x4), some (.int x5), some (.int (nI i)), some (.int s)], [.int x4, .int s], h3, 198, sl) _
        refine wp_icmp (c := .ne) (off := 32) (t := 111) rfl rfl (fun q3 => ?_) (fun q3 => ?_)
        · show pm_WP PT fr lo 232 (111, [some (.ref 162), some (.int (nI a)), some (.int (nI b)), some (.int x3), some (.int x4), some (.int x5), some (.int (nI i)), some (.int s)], [], h3, 198, sl) _
          refine wp_i rfl rfl rfl rfl ?_
          refine wp_i rfl rfl rfl rfl ?_
          show pm_WP PT fr lo 232 (28, [some (.ref 162), some (.int (nI a)), some (.int (nI b)), some (.int x3), some (.int x4), some (.int x5), some (.int (nI i + 1)), some (.int s)], [], h3, 198, sl) _
          rw [nI_1 i]
          exact ih (i + 1) _ _ _ _ _ (by omega) hA3 hB
        · have q3 : s = x4 := by simpa [pm_cmp] using q3
          have hB3 : (∃ k, x3 = nI k ∧ k < 8) ∧ 0 ≤ x4.toInt := by
            rcases hB with ⟨-, p⟩ | p
            · have : (-1 : Int32).toInt = -1 := by decide
              rw [q3, p, this] at hs
              omega
            · exact p
          obtain ⟨⟨k, rfl, hk⟩, p0⟩ := hB3
          show pm_WP PT fr lo 232 (82, [some (.ref 162), some (.int (nI a)), some (.int (nI b)), some (.int (nI k)), some (.int x4), some (.int x5), some (.int (nI i)), some (.int s)], [], h3, 198, sl) _
          refine wp_i rfl rfl rfl rfl ?_
          show pm_WP PT fr lo 232 (83, [some (.ref 162), some (.int (nI a)), some (.int (nI b)), some (.int (nI k)), some (.int x4), some (.int x5), some (.int (nI i)), some (.int s)], [.ref 162], h3, 198, sl) _
          refine wp_gfm rfl rfl m9 ?_
          refine wp_i rfl rfl rfl rfl ?_
          show pm_WP PT fr lo 232 (88, [some (.ref 162), some (.int (nI a)), some (.int (nI b)), some (.int (nI k)), some (.int x4), some (.int x5), some (.int (nI i)), some (.int s)], [.int (nI i), .ref 167], h3, 198, sl) _
          refine wp_iam rfl hG (hI_in (by omega) (by omega)) (by decide) ?_
          show pm_WP PT fr lo 232 (89, [some (.ref 162), some (.int (nI a)), some (.int (nI b)), some (.int (nI k)), some (.int x4), some (.int x5), some (.int (nI i)), some (.int s)], [.int (fG ((nI i) : Int32).toNatClampNeg)], h3, 198, sl) _
          refine wp_i rfl rfl rfl rfl ?_
          show pm_WP PT fr lo 232 (90, [some (.ref 162), some (.int (nI a)), some (.int (nI b)), some (.int (nI k)), some (.int x4), some (.int x5), some (.int (nI i)), some (.int s)], [.ref 162, .int (fG ((nI i) : Int32).toNatClampNeg)], h3, 198, sl) _
          refine wp_gfm rfl rfl m9 ?_
          refine wp_i rfl rfl rfl rfl ?_
          show pm_WP PT fr lo 232 (94, [some (.ref 162), some (.int (nI a)), some (.int (nI b)), some (.int (nI k)), some (.int x4), some (.int x5), some (.int (nI i)), some (.int s)], [.int (nI k), .ref 167, .int (fG ((nI i) : Int32).toNatClampNeg)], h3, 198, sl) _
          refine wp_iam rfl hG (hI_in (by omega) (by omega)) (by decide) ?_
          show pm_WP PT fr lo 232 (95, [some (.ref 162), some (.int (nI a)), some (.int (nI b)), some (.int (nI k)), some (.int x4), some (.int x5), some (.int (nI i)), some (.int s)], [.int (fG ((nI k) : Int32).toNatClampNeg), .int (fG ((nI i) : Int32).toNatClampNeg)], h3, 198, sl) _
          show pm_WP PT fr lo 232 (95, [some (.ref 162), some (.int (nI a)), some (.int (nI b)), some (.int (nI k)), some (.int x4), some (.int x5), some (.int (nI i)), some (.int s)], [.int (fG ((nI k) : Int32).toNatClampNeg), .int (fG ((nI i) : Int32).toNatClampNeg)], h3, 198, sl) _
          refine wp_icmp (c := .ge) (off := 16) (t := 111) rfl rfl (fun q5 => ?_) (fun q5 => ?_)
          · show pm_WP PT fr lo 232 (111, [some (.ref 162), some (.int (nI a)), some (.int (nI b)), some (.int (nI k)), some (.int x4), some (.int x5), some (.int (nI i)), some (.int s)], [], h3, 198, sl) _
            refine wp_i rfl rfl rfl rfl ?_
            refine wp_i rfl rfl rfl rfl ?_
            show pm_WP PT fr lo 232 (28, [some (.ref 162), some (.int (nI a)), some (.int (nI b)), some (.int (nI k)), some (.int x4), some (.int x5), some (.int (nI i + 1)), some (.int s)], [], h3, 198, sl) _
            rw [nI_1 i]
            exact ih (i + 1) _ _ _ _ _ (by omega) hA3 (Or.inr ⟨⟨k, rfl, hk⟩, p0⟩)
          · refine wp_i rfl rfl rfl rfl ?_
            refine wp_i rfl rfl rfl rfl ?_
            refine wp_i rfl rfl rfl rfl ?_
            refine wp_i rfl rfl rfl rfl ?_
            refine wp_i rfl rfl rfl rfl ?_
            show pm_WP PT fr lo 232 (106, [some (.ref 162), some (.int (nI a)), some (.int (nI b)), some (.int (nI i)), some (.int s), some (.int x5), some (.int (nI i)), some (.int s)], [.ref 162], h3, 198, sl) _
            refine wp_gfm rfl rfl m29 ?_
            refine wp_i rfl rfl rfl rfl ?_
            show pm_WP PT fr lo 232 (111, [some (.ref 162), some (.int (nI a)), some (.int (nI b)), some (.int (nI i)), some (.int s), some (.int x29), some (.int (nI i)), some (.int s)], [], h3, 198, sl) _
            refine wp_i rfl rfl rfl rfl ?_
            refine wp_i rfl rfl rfl rfl ?_
            show pm_WP PT fr lo 232 (28, [some (.ref 162), some (.int (nI a)), some (.int (nI b)), some (.int (nI i)), some (.int s), some (.int x29), some (.int (nI i + 1)), some (.int s)], [], h3, 198, sl) _
            rw [nI_1 i]
            exact ih (i + 1) _ _ _ _ _ (by omega) hA3 (Or.inr ⟨⟨i, rfl, by omega⟩, by rw [q3]; exact p0⟩)
theorem hm_answer (hI : mInv h) (x y : Int32) (hf : 200 ≤ fr) (hl : 6000 ≤ lo) : pm_WP PT fr lo 232 (0, pm_l0 [.ref 162, .int x, .int y] 8, [], h, 198, sl) (mPost anInt h sl) := by
  obtain ⟨hh, hq⟩ := id hI
  obtain ⟨x0, h0, -⟩ := ty_fld hh (g := 0) rfl
  obtain ⟨c, h3, hc⟩ := ty_nat hh (g := 3) (u := 6) rfl (by decide)
  obtain ⟨n, h4, hn⟩ := ty_nat hh (g := 4) (u := 8) rfl (by decide)
  refine wp_i rfl rfl rfl rfl ?_
  refine wp_i rfl rfl rfl rfl ?_
  show pm_WP PT fr lo 232 (2, [some (.ref 162), some (.int x), some (.int y), none, none, none, none, none], [.int 0, .ref 162], h, 198, sl) _
  refine wp_pfm rfl rfl rfl (by decide) h0 ?_
  refine wp_i rfl rfl rfl rfl ?_
  refine wp_i rfl rfl rfl rfl ?_
  refine wp_i rfl rfl rfl rfl ?_
  show pm_WP PT fr lo 232 (8, [some (.ref 162), some (.int x), some (.int y), none, none, none, none, none], [.int y, .int x, .ref 162], (mset h 0 (.int 0)), 198, sl) _
  refine wp_callM (t := 170) (As := [.int x, .int y]) (rest := []) (mx := 3) rfl rfl rfl rfl (Nat.le_of_ble_eq_true rfl) (Nat.le_of_ble_eq_true rfl) (by omega) (by omega) rfl (mF_obj (mF_self h0)) (wp_mono (hd_arePair hc x y (mF_ne (by decide) h3) (by omega) (by omega)) ?_)
  rintro _ ⟨v, rfl, rfl | ⟨rfl, a, b, rfl, rfl, ha, hb⟩⟩
  · show pm_WP PT fr lo 232 (11, [some (.ref 162), some (.int x), some (.int y), none, none, none, none, none], [.int 0], (mset h 0 (.int 0)), 198, sl) _
    refine wp_i rfl rfl rfl rfl ?_
    refine wp_i rfl rfl rfl rfl ?_
    show pm_WP PT fr lo 232 (15, [some (.ref 162), some (.int x), some (.int y), none, none, none, none, none], [.int (-1)], (mset h 0 (.int 0)), 198, sl) _
    exact wp_iret rfl rfl (post0 hI h0 ⟨_, rfl⟩)
  · show pm_WP PT fr lo 232 (11, [some (.ref 162), some (.int (nI a)), some (.int (nI b)), none, none, none, none, none], [.int 1], (mset h 0 (.int 0)), 198, sl) _
    refine wp_i rfl rfl rfl rfl ?_
    refine wp_i rfl rfl rfl rfl ?_
    refine wp_i rfl rfl rfl rfl ?_
    refine wp_i rfl rfl rfl rfl ?_
    refine wp_i rfl rfl rfl rfl ?_
    refine wp_i rfl rfl rfl rfl ?_
    refine wp_i rfl rfl rfl rfl ?_
    refine wp_i rfl rfl rfl rfl ?_
    refine wp_i rfl rfl rfl rfl ?_
    show pm_WP PT fr lo 232 (28, [some (.ref 162), some (.int (nI a)), some (.int (nI b)), some (.int (-2)), some (.int (-1)), some (.int 0), some (.int 0), none], [], (mset h 0 (.int 0)), 198, sl) _
    have p0 := post0 (sl := sl) hI h0 (A := anInt) (v := some (.int 0)) ⟨_, rfl⟩
    refine an_L (h0 := mset h 0 (.int 0)) (n := n) (mF_ne (by decide) h3) (mF_ne (by decide) h4) hn hc hb (by omega) (by omega) (fun h2 x3 x4 x5 x7 hA => ?_) n 0 _ _ _ _ _ (by omega) ⟨p0.2.2.2, fun _ _ => rfl, fun _ _ _ q => q⟩ (Or.inl ⟨rfl, rfl⟩)
    refine wp_i rfl rfl rfl rfl ?_
    have l2 : ∀ i, i < 162 → h2 i = h i := fun i hi => (hA.2.1 i hi).trans (p0.2.2.1 i hi)
    show pm_WP PT fr lo 232 (118, [some (.ref 162), some (.int (nI a)), some (.int (nI b)), some (.int x3), some (.int x4), some (.int x5), some (.int (nI n)), x7], [.int x3], h2, 198, sl) _
    refine wp_if (c := .lt) (off := 22) (t := 140) rfl rfl (fun q9 => ?_) (fun q9 => ?_)
    · refine wp_i rfl rfl rfl rfl ?_
      show pm_WP PT fr lo 232 (141, [some (.ref 162), some (.int (nI a)), some (.int (nI b)), some (.int x3), some (.int x4), some (.int x5), some (.int (nI n)), x7], [.int x3], h2, 198, sl) _
      exact wp_iret rfl rfl ⟨⟨_, rfl⟩, rfl, l2, hA.1⟩
    · obtain ⟨x1, y1, -⟩ := ty_fld hA.1.1 (g := 1) rfl
      refine wp_i rfl rfl rfl rfl ?_
      refine wp_i rfl rfl rfl rfl ?_
      show pm_WP PT fr lo 232 (123, [some (.ref 162), some (.int (nI a)), some (.int (nI b)), some (.int x3), some (.int x4), some (.int x5), some (.int (nI n)), x7], [.int 0, .ref 162], h2, 198, sl) _
      refine wp_pfm rfl rfl rfl (by decide) y1 ?_
      refine wp_i rfl rfl rfl rfl ?_
      refine wp_i rfl rfl rfl rfl ?_
      refine wp_i rfl rfl rfl rfl ?_
      have hI8 : mInv (mset h2 1 (.int 0)) := mInv_s1 hA.1 (k := 0) (by decide)
      have y8 : mF (mset h2 1 (.int 0)) 1 (.int (nI 0)) := mF_self y1
      have l8 : ∀ i, i < 162 → (mset h2 1 (.int 0)) i = h2 i := fun i hi => mset_ne (by omega)
      generalize mset h2 1 (.int 0) = h8 at hI8 y8 l8 ⊢
      show pm_WP PT fr lo 232 (130, [some (.ref 162), some (.int (nI a)), some (.int (nI b)), some (.int x3), some (.int x4), some (.int x5), some (.int (nI n)), x7], [.long (x4).toInt64, .ref 162], h8, 198, sl) _
      refine wp_callM (t := 167) (As := [.long (x4).toInt64]) (rest := []) (mx := 3) rfl rfl rfl rfl (Nat.le_of_ble_eq_true rfl) (Nat.le_of_ble_eq_true rfl) (by omega) (by omega) rfl (mF_obj y8) (wp_mono (hm_enters hI8 x4.toInt64 y8 (by decide)) ?_)
      rintro _ ⟨h9, rfl, hI9, y9, l9⟩
      refine wp_i rfl rfl rfl rfl ?_
      refine wp_i rfl rfl rfl rfl ?_
      refine wp_i rfl rfl rfl rfl ?_
      show pm_WP PT fr lo 232 (137, [some (.ref 162), some (.int (nI a)), some (.int (nI b)), some (.int x3), some (.int x4), some (.int x5), some (.int (nI n)), x7], [.long (x5).toInt64, .ref 162], h9, 198, sl) _
      refine wp_callM (t := 167) (As := [.long (x5).toInt64]) (rest := []) (mx := 3) rfl rfl rfl rfl (Nat.le_of_ble_eq_true rfl) (Nat.le_of_ble_eq_true rfl) (by omega) (by omega) rfl (mF_obj y9) (wp_mono (hm_enters hI9 x5.toInt64 y9 (by decide)) ?_)
      rintro _ ⟨h10, rfl, hI10, y10, l10⟩
      refine wp_i rfl rfl rfl rfl ?_
      show pm_WP PT fr lo 232 (141, [some (.ref 162), some (.int (nI a)), some (.int (nI b)), some (.int x3), some (.int x4), some (.int x5), some (.int (nI n)), x7], [.int x3], h10, 198, sl) _
      exact wp_iret rfl rfl ⟨⟨_, rfl⟩, rfl, fun i hi => (l10 i hi).trans ((l9 i hi).trans ((l8 i hi).trans (l2 i hi))), hI10⟩
end ANS
