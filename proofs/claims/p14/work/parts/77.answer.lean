section MG77answerx0
/-! answer, by hand -/
section ANS
variable {fr lo sl : Nat} {h : pm_H} {Q : pm_Rs → Prop}
def rxrS : con := (217, [(2, 162, 1), (2, 171, 1), (0, 0, 7), (0, 0, 5)], [], [some (0, (-2), (-2)), some (0, 0, 20)], [], 75, 4200, false)
def rxzS : List ast := [(18, [some (2, 162, 1), some (2, 171, 1), some (0, 0, 7), some (0, 0, 5), none, none, none, none, none], [], [])]
theorem rxsS : seg_chk [] (kn_or (kl bB rxF [rxt7, rxt14, rxt15]) rk) PT bB 198 rxF0 rxJ rxjo rxP 1179 rxrS rxzS = true := fq_seg2 (fq_jn_eq _) rfl (by decide +kernel)
theorem rxoS : seg_ok PT bB 198 rxF rxQ rxrS rxzS := seg_chk_ok rxle rxpp (kn_or_ok (kl_ok (List.forall_mem_cons.mpr ⟨rxo7, List.forall_mem_cons.mpr ⟨rxo14, List.forall_mem_cons.mpr ⟨rxo15, fun _ h => (by cases h)⟩⟩⟩)) rk_ok) seg_nil rxsS
theorem in_iv {j c : Nat} (hj : j < c) (hc : c ≤ 8) : in_b (nI j).toInt64 0 (nI c - 1).toInt64 = true := by
  have : ∀ c : Nat, c ≤ 8 → ∀ j : Nat, j < c → in_b (nI j).toInt64 0 (nI c - 1).toInt64 = true := by decide
  exact this c hc j hj
theorem hd_isGift {c : Nat} (x : Int32) (h4 : mF h 4 (.int (nI c))) (hf : 1 ≤ fr) (hl : 30 ≤ lo) : pm_WP PT fr lo 169 (0, pm_l0 [.ref 162, .int x] 2, [], h, 198, sl) (fun r => r = (some (.int (cond (in_b x.toInt64 0 (nI c - 1).toInt64) 1 0)), h, 198, sl)) := by
  refine wp_i rfl rfl rfl rfl ?_
  refine wp_i rfl rfl rfl rfl ?_
  refine wp_i rfl rfl rfl rfl ?_
  refine wp_i rfl rfl rfl rfl ?_
  show pm_WP PT fr lo 169 (4, [some (.ref 162), some (.int x)], [.ref 162, .long 0, .long (x).toInt64], h, 198, sl) _
  refine wp_gfm rfl rfl h4 ?_
  refine wp_i rfl rfl rfl rfl ?_
  refine wp_i rfl rfl rfl rfl ?_
  refine wp_i rfl rfl rfl rfl ?_
  show pm_WP PT fr lo 169 (10, [some (.ref 162), some (.int x)], [.long (((nI c) - 1)).toInt64, .long 0, .long (x).toInt64], h, 198, sl) _
  refine wp_callS (t := 163) (As := [.long (x).toInt64, .long 0, .long (((nI c) - 1)).toInt64]) (rest := []) (mx := 6) rfl rfl rfl rfl (Nat.le_of_ble_eq_true rfl) (Nat.le_of_ble_eq_true rfl) hf (by omega) (wp_mono (hd_in x.toInt64 0 (nI c - 1).toInt64) ?_)
  rintro _ rfl
  show pm_WP PT fr lo 169 (13, [some (.ref 162), some (.int x)], [.int (cond (in_b x.toInt64 0 (nI c - 1).toInt64) 1 0)], h, 198, sl) _
  exact wp_zret rfl rfl (by cases in_b x.toInt64 0 (nI c - 1).toInt64; exact Or.inl rfl; exact Or.inr rfl) rfl
theorem hd_arePair {c : Nat} (hc : c ≤ 6) (x y : Int32) (h3 : mF h 3 (.int (nI c))) (hf : 2 ≤ fr) (hl : 80 ≤ lo) : pm_WP PT fr lo 170 (0, pm_l0 [.ref 162, .int x, .int y] 3, [], h, 198, sl) (fun r => ∃ v : Int32, r = (some (.int v), h, 198, sl) ∧ (v = 0 ∨ v = 1 ∧ ∃ a b, x = nI a ∧ y = nI b ∧ a < c ∧ b < c)) := by
  refine wp_i rfl rfl rfl rfl ?_
  refine wp_i rfl rfl rfl rfl ?_
  show pm_WP PT fr lo 170 (2, [some (.ref 162), some (.int x), some (.int y)], [.int x, .ref 162], h, 198, sl) _
  refine wp_callM (t := 168) (As := [.int x]) (rest := []) (mx := 2) rfl rfl rfl rfl (Nat.le_of_ble_eq_true rfl) (Nat.le_of_ble_eq_true rfl) (by omega) (by omega) rfl (mF_obj h3) (wp_mono (hd_isCourt (c := c) x h3 (by omega) (by omega)) ?_)
  rintro _ rfl
  cases b1 : in_b x.toInt64 0 (nI c - 1).toInt64 with
  | false =>
    show pm_WP PT fr lo 170 (5, [some (.ref 162), some (.int x), some (.int y)], [.int 0], h, 198, sl) _
    refine wp_i rfl rfl rfl rfl ?_
    refine wp_i rfl rfl rfl rfl ?_
    show pm_WP PT fr lo 170 (26, [some (.ref 162), some (.int x), some (.int y)], [.int 0], h, 198, sl) _
    exact wp_zret rfl rfl (Or.inl rfl) ⟨0, rfl, Or.inl rfl⟩
  | true =>
    show pm_WP PT fr lo 170 (5, [some (.ref 162), some (.int x), some (.int y)], [.int 1], h, 198, sl) _
    refine wp_i rfl rfl rfl rfl ?_
    refine wp_i rfl rfl rfl rfl ?_
    refine wp_i rfl rfl rfl rfl ?_
    show pm_WP PT fr lo 170 (10, [some (.ref 162), some (.int x), some (.int y)], [.int y, .ref 162], h, 198, sl) _
    refine wp_callM (t := 168) (As := [.int y]) (rest := []) (mx := 2) rfl rfl rfl rfl (Nat.le_of_ble_eq_true rfl) (Nat.le_of_ble_eq_true rfl) (by omega) (by omega) rfl (mF_obj h3) (wp_mono (hd_isCourt (c := c) y h3 (by omega) (by omega)) ?_)
    rintro _ rfl
    cases b2 : in_b y.toInt64 0 (nI c - 1).toInt64 with
    | false =>
      show pm_WP PT fr lo 170 (13, [some (.ref 162), some (.int x), some (.int y)], [.int 0], h, 198, sl) _
      refine wp_i rfl rfl rfl rfl ?_
      refine wp_i rfl rfl rfl rfl ?_
      show pm_WP PT fr lo 170 (26, [some (.ref 162), some (.int x), some (.int y)], [.int 0], h, 198, sl) _
      exact wp_zret rfl rfl (Or.inl rfl) ⟨0, rfl, Or.inl rfl⟩
    | true =>
      show pm_WP PT fr lo 170 (13, [some (.ref 162), some (.int x), some (.int y)], [.int 1], h, 198, sl) _
      refine wp_i rfl rfl rfl rfl ?_
      obtain ⟨a, rfl, ha⟩ := isC_iv hc b1
      obtain ⟨b, rfl, hb⟩ := isC_iv hc b2
      show pm_WP PT fr lo 170 (16, [some (.ref 162), some (.int (nI a)), some (.int (nI b))], [], h, 198, sl) _
      refine wp_i rfl rfl rfl rfl ?_
      refine wp_i rfl rfl rfl rfl ?_
      show pm_WP PT fr lo 170 (18, [some (.ref 162), some (.int (nI a)), some (.int (nI b))], [.int (nI b), .int (nI a)], h, 198, sl) _
      refine wp_icmp (c := .eq) (off := 7) (t := 25) rfl rfl (fun q => ?_) (fun q => ?_)
      · refine wp_i rfl rfl rfl rfl ?_
        show pm_WP PT fr lo 170 (26, [some (.ref 162), some (.int (nI a)), some (.int (nI b))], [.int 0], h, 198, sl) _
        exact wp_zret rfl rfl (Or.inl rfl) ⟨0, rfl, Or.inl rfl⟩
      · refine wp_i rfl rfl rfl rfl ?_
        refine wp_i rfl rfl rfl rfl ?_
        show pm_WP PT fr lo 170 (26, [some (.ref 162), some (.int (nI a)), some (.int (nI b))], [.int 1], h, 198, sl) _
        exact wp_zret rfl rfl (Or.inr rfl) ⟨1, rfl, Or.inr ⟨rfl, a, b, rfl, rfl, ha, hb⟩⟩
theorem hd_sends {g y : Nat} {n c : Nat} (hI : mInv h) (h4 : mF h 4 (.int (nI n))) (h3 : mF h 3 (.int (nI c))) (hn : n ≤ 8) (hc : c ≤ 6) (hg : g < n) (hy : y < c) (hf : 75 ≤ fr) (hl : 4200 ≤ lo) : pm_WP PT fr lo 217 (0, pm_l0 [.ref 162, .ref 171, .int (nI g), .int (nI y)] 9, [], h, 198, sl) (fun r => ∃ (s : Int32) (h2 : pm_H), r = (some (.int s), h2, 198, sl) ∧ (s.toInt = -2 ∨ 0 ≤ s.toInt) ∧ fm rxF h h2 ∧ mInv h2) := by
  refine wp_i rfl rfl rfl rfl ?_
  refine wp_i rfl rfl rfl rfl ?_
  show pm_WP PT fr lo 217 (2, [some (.ref 162), some (.ref 171), some (.int (nI g)), some (.int (nI y)), none, none, none, none, none], [.int (nI g), .ref 162], h, 198, sl) _
  refine wp_callM (t := 169) (As := [.int (nI g)]) (rest := []) (mx := 2) rfl rfl rfl rfl (Nat.le_of_ble_eq_true rfl) (Nat.le_of_ble_eq_true rfl) (by omega) (by omega) rfl (mF_obj h3) (wp_mono (hd_isGift (nI g) h4 (by omega) (by omega)) ?_)
  rintro _ rfl
  rw [in_iv hg hn]
  show pm_WP PT fr lo 217 (5, [some (.ref 162), some (.ref 171), some (.int (nI g)), some (.int (nI y)), none, none, none, none, none], [.int 1], h, 198, sl) _
  refine wp_i rfl rfl rfl rfl ?_
  refine wp_i rfl rfl rfl rfl ?_
  refine wp_i rfl rfl rfl rfl ?_
  show pm_WP PT fr lo 217 (10, [some (.ref 162), some (.ref 171), some (.int (nI g)), some (.int (nI y)), none, none, none, none, none], [.int (nI y), .ref 162], h, 198, sl) _
  refine wp_callM (t := 168) (As := [.int (nI y)]) (rest := []) (mx := 2) rfl rfl rfl rfl (Nat.le_of_ble_eq_true rfl) (Nat.le_of_ble_eq_true rfl) (by omega) (by omega) rfl (mF_obj h3) (wp_mono (hd_isCourt (nI y) h3 (by omega) (by omega)) ?_)
  rintro _ rfl
  rw [in_iv hy (by omega)]
  show pm_WP PT fr lo 217 (13, [some (.ref 162), some (.ref 171), some (.int (nI g)), some (.int (nI y)), none, none, none, none, none], [.int 1], h, 198, sl) _
  refine wp_i rfl rfl rfl rfl ?_
  show pm_WP PT fr lo 217 (18, [some (.ref 162), some (.ref 171), some (.int (nI g)), some (.int (nI y)), none, none, none, none, none], [], h, 198, sl) _
  refine wp_mono (rxoS (18, [some (.ref 162), some (.ref 171), some (.int (nI g)), some (.int (nI y)), none, none, none, none, none], [], h, 198, sl) fr lo sl ⟨_, List.mem_singleton_self _, rfl, ⟨rfl, fun i a ha => ?_⟩, trivial, hI.1, rfl, rfl⟩ hI.2 hf hl) ?_
  · match i, ha with
    | 0, ha => cases (Option.some.inj (Option.some.inj ha) : _ = a); exact ⟨_, rfl, rfl, List.mem_singleton_self _⟩
    | 1, ha => cases (Option.some.inj (Option.some.inj ha) : _ = a); exact ⟨_, rfl, rfl, List.mem_singleton_self _⟩
    | 2, ha => cases (Option.some.inj (Option.some.inj ha) : _ = a); exact ⟨_, rfl, av_nI (by omega) (by omega) (by omega)⟩
    | 3, ha => cases (Option.some.inj (Option.some.inj ha) : _ = a); exact ⟨_, rfl, av_nI (by omega) (by omega) (by omega)⟩
    | 4, ha => cases (Option.some.inj ha : none = some a)
    | 5, ha => cases (Option.some.inj ha : none = some a)
    | 6, ha => cases (Option.some.inj ha : none = some a)
    | 7, ha => cases (Option.some.inj ha : none = some a)
    | 8, ha => cases (Option.some.inj ha : none = some a)
    | _ + 9, ha => cases ha
  · rintro ⟨v, h2, s⟩ ⟨⟨a, ha, hv⟩, e, ⟨f1, f2⟩, f3⟩
    cases e
    have ha : a = some (0, -2, -2) ∨ a = some (0, 0, 20) := by simpa [rxrS] using ha
    obtain ⟨v⟩ | v := v
    · rcases ha with rfl | rfl <;> exact hv.elim
    · rcases ha with rfl | rfl
      · obtain ⟨x, rfl, a1, a2⟩ := av_int rfl hv
        have a1 : (-2 : Int) ≤ x.toInt := a1
        have a2 : x.toInt ≤ (-2 : Int) := a2
        exact ⟨x, h2, rfl, Or.inl (by omega), f1, f3, f2⟩
      · obtain ⟨x, rfl, a1, a2⟩ := av_int rfl hv
        exact ⟨x, h2, rfl, Or.inr a1, f1, f3, f2⟩
def c171 (i : Nat) : Bool := Nat.beq i 171
theorem hm_copies (hI : mInv h) : pm_WP PT fr lo 229 (0, pm_l0 [.ref 162] 2, [], h, 198, sl) (fun r => ∃ h2 : pm_H, r = (none, h2, 198, sl) ∧ dD c171 noC h h2 ∧ mInv h2) := by
  have h12 := ty_ref hI.1 (g := 12) (p := 170) rfl
  have h13 := ty_ref hI.1 (g := 13) (p := 171) rfl
  obtain ⟨f, hN, -⟩ := ty_arrE hI.1 (i := 170) (by decide) rfl
  obtain ⟨g, hT, -⟩ := ty_arrE hI.1 (i := 171) (by decide) rfl
  refine wp_mono (hd_copies h13 h12 hN hT) ?_
  rintro _ ⟨g2, rfl, eg⟩
  have d : dD c171 noC h (aset h 171 96 g2) := dD_arr rfl (by decide)
  refine ⟨_, rfl, d, dD_ty hI.1 d (fun i hi _ _ => ?_) (fun k hg b hb => by cases hg), rxQ_dD d rfl rfl rfl rfl rfl rfl hI.2⟩
  have := Nat.eq_of_beq_eq_true hi
  subst this
  show ac_ok (aset h 171 96 g2 171) (bB 170)
  rw [aset_self]
  refine ty_row (fun j hj => ?_)
  rw [eg j hj]
  exact ty_row_of hI.1 hN j hj
/-- the best so far -/
def anB (x3 x4 : Int32) : Prop := (x3 = -2 ∧ x4 = -1) ∨ (∃ k, x3 = nI k ∧ k < 8) ∧ 0 ≤ x4.toInt
/-- between its turns -/
def anI (h0 h : pm_H) : Prop := mInv h ∧ (∀ i, i < 162 → h i = h0 i) ∧ ∀ g v, (g = 3 ∨ g = 4) → mF h0 g v → mF h g v
theorem an_L {h0 : pm_H} {c n a b : Nat} (h3 : mF h0 3 (.int (nI c))) (h4 : mF h0 4 (.int (nI n))) (hn : n ≤ 8) (hc : c ≤ 6) (hb : b < c) (hf : 100 ≤ fr) (hl : 5000 ≤ lo) (kk : ∀ h x3 x4 x5 x7, anI h0 h → pm_WP PT fr lo 232 (117, [some (.ref 162), some (.int (nI a)), some (.int (nI b)), some (.int x3), some (.int x4), some (.int x5), some (.int (nI n)), x7], [], h, 198, sl) Q) : ∀ (m i : Nat) (h : pm_H) (x3 x4 x5 : Int32) (x7 : Option Value), i + m = n → anI h0 h → anB x3 x4 → pm_WP PT fr lo 232 (28, [some (.ref 162), some (.int (nI a)), some (.int (nI b)), some (.int x3), some (.int x4), some (.int x5), some (.int (nI i)), x7], [], h, 198, sl) Q := by
  intro m
  induction m with
  | zero =>
    intro i h x3 x4 x5 x7 hi hA hB
    obtain rfl : i = n := by omega
    have m4 := hA.2.2 4 _ (Or.inr rfl) h4
    refine wp_i rfl rfl rfl rfl ?_
    refine wp_i rfl rfl rfl rfl ?_
    show pm_WP PT fr lo 232 (31, [some (.ref 162), some (.int (nI a)), some (.int (nI b)), some (.int x3), some (.int x4), some (.int x5), some (.int (nI i)), x7], [.ref 162, .int (nI i)], h, 198, sl) _
    refine wp_gfm rfl rfl m4 ?_
    show pm_WP PT fr lo 232 (34, [some (.ref 162), some (.int (nI a)), some (.int (nI b)), some (.int x3), some (.int x4), some (.int x5), some (.int (nI i)), x7], [.int (nI i), .int (nI i)], h, 198, sl) _
    refine wp_icmp (c := .ge) (off := 83) (t := 117) rfl rfl (fun _ => ?_) (fun q => absurd (q.symm.trans ((hI_ge (by omega) (by omega)).trans (decide_eq_true (by omega)))) (by decide))
    show pm_WP PT fr lo 232 (117, [some (.ref 162), some (.int (nI a)), some (.int (nI b)), some (.int x3), some (.int x4), some (.int x5), some (.int (nI i)), x7], [], h, 198, sl) _
    exact kk h _ _ _ _ hA
  | succ m ih =>
    intro i h x3 x4 x5 x7 hi hA hB
    have m4 := hA.2.2 4 _ (Or.inr rfl) h4
    have m12 := ty_ref hA.1.1 (g := 12) (p := 170) rfl
    obtain ⟨fN, hN, -⟩ := ty_arrE hA.1.1 (i := 170) (by decide) rfl
    have hN : h 170 = .inl (0, 96, .inl fN) := hN
    refine wp_i rfl rfl rfl rfl ?_
    refine wp_i rfl rfl rfl rfl ?_
    show pm_WP PT fr lo 232 (31, [some (.ref 162), some (.int (nI a)), some (.int (nI b)), some (.int x3), some (.int x4), some (.int x5), some (.int (nI i)), x7], [.ref 162, .int (nI i)], h, 198, sl) _
    refine wp_gfm rfl rfl m4 ?_
    show pm_WP PT fr lo 232 (34, [some (.ref 162), some (.int (nI a)), some (.int (nI b)), some (.int x3), some (.int x4), some (.int x5), some (.int (nI i)), x7], [.int (nI n), .int (nI i)], h, 198, sl) _
    refine wp_icmp (c := .ge) (off := 83) (t := 117) rfl rfl (fun q => absurd (q.symm.trans ((hI_ge (by omega) (by omega)).trans (decide_eq_false (by omega)))) (by decide)) (fun _ => ?_)
    refine wp_i rfl rfl rfl rfl ?_
    show pm_WP PT fr lo 232 (38, [some (.ref 162), some (.int (nI a)), some (.int (nI b)), some (.int x3), some (.int x4), some (.int x5), some (.int (nI i)), x7], [.ref 162], h, 198, sl) _
    refine wp_gfm rfl rfl m12 ?_
    refine wp_i rfl rfl rfl rfl ?_
    refine wp_i rfl rfl rfl rfl ?_
    refine wp_i rfl rfl rfl rfl ?_
    show pm_WP PT fr lo 232 (46, [some (.ref 162), some (.int (nI a)), some (.int (nI b)), some (.int x3), some (.int x4), some (.int x5), some (.int (nI i)), x7], [.int (78 + (nI i)), .ref 170], h, 198, sl) _
    rw [show (78 : Int32) + nI i = nI (78 + i) from nI_add 78 i]
    show pm_WP PT fr lo 232 (46, [some (.ref 162), some (.int (nI a)), some (.int (nI b)), some (.int x3), some (.int x4), some (.int x5), some (.int (nI i)), x7], [.int (nI (78 + i)), .ref 170], h, 198, sl) _
    refine wp_iam rfl hN (hI_in (by omega) (by omega)) (by decide) ?_
    show pm_WP PT fr lo 232 (47, [some (.ref 162), some (.int (nI a)), some (.int (nI b)), some (.int x3), some (.int x4), some (.int x5), some (.int (nI i)), x7], [.int (fN ((nI (78 + i)) : Int32).toNatClampNeg)], h, 198, sl) _
    refine wp_i rfl rfl rfl rfl ?_
    show pm_WP PT fr lo 232 (48, [some (.ref 162), some (.int (nI a)), some (.int (nI b)), some (.int x3), some (.int x4), some (.int x5), some (.int (nI i)), x7], [.int (nI a), .int (fN ((nI (78 + i)) : Int32).toNatClampNeg)], h, 198, sl) _
    refine wp_icmp (c := .ne) (off := 63) (t := 111) rfl rfl (fun q1 => ?_) (fun q1 => ?_)
    · show pm_WP PT fr lo 232 (111, [some (.ref 162), some (.int (nI a)), some (.int (nI b)), some (.int x3), some (.int x4), some (.int x5), some (.int (nI i)), x7], [], h, 198, sl) _
      refine wp_i rfl rfl rfl rfl ?_
      refine wp_i rfl rfl rfl rfl ?_
      show pm_WP PT fr lo 232 (28, [some (.ref 162), some (.int (nI a)), some (.int (nI b)), some (.int x3), some (.int x4), some (.int x5), some (.int (nI i + 1)), x7], [], h, 198, sl) _
      rw [nI_1 i]
      exact ih (i + 1) _ _ _ _ _ (by omega) hA hB
    · refine wp_i rfl rfl rfl rfl ?_
      show pm_WP PT fr lo 232 (52, [some (.ref 162), some (.int (nI a)), some (.int (nI b)), some (.int x3), some (.int x4), some (.int x5), some (.int (nI i)), x7], [.ref 162], h, 198, sl) _
      refine wp_callM (t := 229) (As := []) (rest := []) (mx := 2) rfl rfl rfl rfl (Nat.le_of_ble_eq_true rfl) (Nat.le_of_ble_eq_true rfl) (by omega) (by omega) rfl (mF_obj m4) (wp_mono (hm_copies hA.1) ?_)
      rintro _ ⟨h2, rfl, d2, hI2⟩
      have m13 := ty_ref hI2.1 (g := 13) (p := 171) rfl
      have k3 : mF h2 3 (.int (nI c)) := dD_mF d2 rfl (hA.2.2 3 _ (Or.inl rfl) h3)
      have k4 : mF h2 4 (.int (nI n)) := dD_mF d2 rfl m4
      refine wp_i rfl rfl rfl rfl ?_
      refine wp_i rfl rfl rfl rfl ?_
      show pm_WP PT fr lo 232 (57, [some (.ref 162), some (.int (nI a)), some (.int (nI b)), some (.int x3), some (.int x4), some (.int x5), some (.int (nI i)), x7], [.ref 162, .ref 162], h2, 198, sl) _
      refine wp_gfm rfl rfl m13 ?_
      refine wp_i rfl rfl rfl rfl ?_
      refine wp_i rfl rfl rfl rfl ?_
      show pm_WP PT fr lo 232 (63, [some (.ref 162), some (.int (nI a)), some (.int (nI b)), some (.int x3), some (.int x4), some (.int x5), some (.int (nI i)), x7], [.int (nI b), .int (nI i), .ref 171, .ref 162], h2, 198, sl) _
      refine wp_callM (t := 217) (As := [.ref 171, .int (nI i), .int (nI b)]) (rest := []) (mx := 9) rfl rfl rfl rfl (Nat.le_of_ble_eq_true rfl) (Nat.le_of_ble_eq_true rfl) (by omega) (by omega) rfl (mF_obj k3) (wp_mono (hd_sends hI2 k4 k3 hn hc (show i < n by omega) hb (by omega) (by omega)) ?_)
      rintro _ ⟨s, h3, rfl, hs, q3, hI3⟩
      have hA3 : anI h0 h3 := ⟨hI3, fun j hj => (fm_lt q3 j hj).trans ((x_lt d2 (fun i hi => nb_ne (by omega)) j hj).trans (hA.2.1 j hj)), fun g v hg q => by
        have q1 : mF h2 g v := dD_mF d2 rfl (hA.2.2 g v hg q)
        rcases hg with rfl | rfl
        · exact fm_mF q3 rfl q1
        · exact fm_mF q3 rfl q1⟩
      obtain ⟨x29, m29, v29⟩ := ty_fld hI3.1 (g := 29) rfl
      obtain ⟨x29, rfl, -⟩ := av_int rfl v29
      have m9 := ty_ref hI3.1 (g := 9) (p := 167) rfl
      obtain ⟨fG, hG, -⟩ := ty_arr hI3.1 (i := 167) (by decide) rfl rfl (by decide)
      refine wp_i rfl rfl rfl rfl ?_
      refine wp_i rfl rfl rfl rfl ?_
      refine wp_i rfl rfl rfl rfl ?_
      show pm_WP PT fr lo 232 (72, [some (.ref 162), some (.int (nI a)), some (.int (nI b)), some (.int x3), some (.int x4), some (.int x5), some (.int (nI i)), some (.int s)], [.int x4, .int s], h3, 198, sl) _
      refine wp_icmp (c := .gt) (off := 26) (t := 98) rfl rfl (fun q2 => ?_) (fun q2 => ?_)
      · have q2 : x4 < s := of_decide_eq_true q2
        have hB2 : anB (nI i) s := by
          refine Or.inr ⟨⟨i, rfl, by omega⟩, ?_⟩
          rw [Int32.lt_iff_toInt_lt] at q2
          rcases hB with ⟨-, rfl⟩ | ⟨-, p⟩
          · have : (-1 : Int32).toInt = -1 := by decide
            omega
          · omega
        refine wp_i rfl rfl rfl rfl ?_
        refine wp_i rfl rfl rfl rfl ?_
        refine wp_i rfl rfl rfl rfl ?_
        refine wp_i rfl rfl rfl rfl ?_
        refine wp_i rfl rfl rfl rfl ?_
        show pm_WP PT fr lo 232 (106, [some (.ref 162), some (.int (nI a)), some (.int (nI b)), some (.int (nI i)), some (.int s), some (.int x5), some (.int (nI i)), some (.int s)], [.ref 162], h3, 198, sl) _
        refine wp_gfm rfl rfl m29 ?_
        refine wp_i rfl rfl rfl rfl ?_
        show pm_WP PT fr lo 232 (111, [some (.ref 162), some (.int (nI a)), some (.int (nI b)), some (.int (nI i)), some (.int s), some (.int x29), some (.int (nI i)), some (.int s)], [], h3, 198, sl) _
        refine wp_i rfl rfl rfl rfl ?_
        refine wp_i rfl rfl rfl rfl ?_
        show pm_WP PT fr lo 232 (28, [some (.ref 162), some (.int (nI a)), some (.int (nI b)), some (.int (nI i)), some (.int s), some (.int x29), some (.int (nI i + 1)), some (.int s)], [], h3, 198, sl) _
        rw [nI_1 i]
        exact ih (i + 1) _ _ _ _ _ (by omega) hA3 hB2
      · refine wp_i rfl rfl rfl rfl ?_
        refine wp_i rfl rfl rfl rfl ?_
        show pm_WP PT fr lo 232 (79, [some (.ref 162), some (.int (nI a)), some (.int (nI b)), some (.int x3), some (.int x4), some (.int x5), some (.int (nI i)), some (.int s)], [.int x4, .int s], h3, 198, sl) _
        refine wp_icmp (c := .ne) (off := 32) (t := 111) rfl rfl (fun q3 => ?_) (fun q3 => ?_)
        · show pm_WP PT fr lo 232 (111, [some (.ref 162), some (.int (nI a)), some (.int (nI b)), some (.int x3), some (.int x4), some (.int x5), some (.int (nI i)), some (.int s)], [], h3, 198, sl) _
          refine wp_i rfl rfl rfl rfl ?_
          refine wp_i rfl rfl rfl rfl ?_
          show pm_WP PT fr lo 232 (28, [some (.ref 162), some (.int (nI a)), some (.int (nI b)), some (.int x3), some (.int x4), some (.int x5), some (.int (nI i + 1)), some (.int s)], [], h3, 198, sl) _
          rw [nI_1 i]
          exact ih (i + 1) _ _ _ _ _ (by omega) hA3 hB
        · have q3 : s = x4 := by simpa [pm_cmp] using q3
          have hB3 : (∃ k, x3 = nI k ∧ k < 8) ∧ 0 ≤ x4.toInt := by
            rcases hB with ⟨-, p⟩ | p
            · have : (-1 : Int32).toInt = -1 := by decide
              rw [q3, p, this] at hs
              omega
            · exact p
          obtain ⟨⟨k, rfl, hk⟩, p0⟩ := hB3
          show pm_WP PT fr lo 232 (82, [some (.ref 162), some (.int (nI a)), some (.int (nI b)), some (.int (nI k)), some (.int x4), some (.int x5), some (.int (nI i)), some (.int s)], [], h3, 198, sl) _
          refine wp_i rfl rfl rfl rfl ?_
          show pm_WP PT fr lo 232 (83, [some (.ref 162), some (.int (nI a)), some (.int (nI b)), some (.int (nI k)), some (.int x4), some (.int x5), some (.int (nI i)), some (.int s)], [.ref 162], h3, 198, sl) _
          refine wp_gfm rfl rfl m9 ?_
          refine wp_i rfl rfl rfl rfl ?_
          show pm_WP PT fr lo 232 (88, [some (.ref 162), some (.int (nI a)), some (.int (nI b)), some (.int (nI k)), some (.int x4), some (.int x5), some (.int (nI i)), some (.int s)], [.int (nI i), .ref 167], h3, 198, sl) _
          refine wp_iam rfl hG (hI_in (by omega) (by omega)) (by decide) ?_
          show pm_WP PT fr lo 232 (89, [some (.ref 162), some (.int (nI a)), some (.int (nI b)), some (.int (nI k)), some (.int x4), some (.int x5), some (.int (nI i)), some (.int s)], [.int (fG ((nI i) : Int32).toNatClampNeg)], h3, 198, sl) _
          refine wp_i rfl rfl rfl rfl ?_
          show pm_WP PT fr lo 232 (90, [some (.ref 162), some (.int (nI a)), some (.int (nI b)), some (.int (nI k)), some (.int x4), some (.int x5), some (.int (nI i)), some (.int s)], [.ref 162, .int (fG ((nI i) : Int32).toNatClampNeg)], h3, 198, sl) _
          refine wp_gfm rfl rfl m9 ?_
          refine wp_i rfl rfl rfl rfl ?_
          show pm_WP PT fr lo 232 (94, [some (.ref 162), some (.int (nI a)), some (.int (nI b)), some (.int (nI k)), some (.int x4), some (.int x5), some (.int (nI i)), some (.int s)], [.int (nI k), .ref 167, .int (fG ((nI i) : Int32).toNatClampNeg)], h3, 198, sl) _
          refine wp_iam rfl hG (hI_in (by omega) (by omega)) (by decide) ?_
          show pm_WP PT fr lo 232 (95, [some (.ref 162), some (.int (nI a)), some (.int (nI b)), some (.int (nI k)), some (.int x4), some (.int x5), some (.int (nI i)), some (.int s)], [.int (fG ((nI k) : Int32).toNatClampNeg), .int (fG ((nI i) : Int32).toNatClampNeg)], h3, 198, sl) _
          show pm_WP PT fr lo 232 (95, [some (.ref 162), some (.int (nI a)), some (.int (nI b)), some (.int (nI k)), some (.int x4), some (.int x5), some (.int (nI i)), some (.int s)], [.int (fG ((nI k) : Int32).toNatClampNeg), .int (fG ((nI i) : Int32).toNatClampNeg)], h3, 198, sl) _
          refine wp_icmp (c := .ge) (off := 16) (t := 111) rfl rfl (fun q5 => ?_) (fun q5 => ?_)
          · show pm_WP PT fr lo 232 (111, [some (.ref 162), some (.int (nI a)), some (.int (nI b)), some (.int (nI k)), some (.int x4), some (.int x5), some (.int (nI i)), some (.int s)], [], h3, 198, sl) _
            refine wp_i rfl rfl rfl rfl ?_
            refine wp_i rfl rfl rfl rfl ?_
            show pm_WP PT fr lo 232 (28, [some (.ref 162), some (.int (nI a)), some (.int (nI b)), some (.int (nI k)), some (.int x4), some (.int x5), some (.int (nI i + 1)), some (.int s)], [], h3, 198, sl) _
            rw [nI_1 i]
            exact ih (i + 1) _ _ _ _ _ (by omega) hA3 (Or.inr ⟨⟨k, rfl, hk⟩, p0⟩)
          · refine wp_i rfl rfl rfl rfl ?_
            refine wp_i rfl rfl rfl rfl ?_
            refine wp_i rfl rfl rfl rfl ?_
            refine wp_i rfl rfl rfl rfl ?_
            refine wp_i rfl rfl rfl rfl ?_
            show pm_WP PT fr lo 232 (106, [some (.ref 162), some (.int (nI a)), some (.int (nI b)), some (.int (nI i)), some (.int s), some (.int x5), some (.int (nI i)), some (.int s)], [.ref 162], h3, 198, sl) _
            refine wp_gfm rfl rfl m29 ?_
            refine wp_i rfl rfl rfl rfl ?_
            show pm_WP PT fr lo 232 (111, [some (.ref 162), some (.int (nI a)), some (.int (nI b)), some (.int (nI i)), some (.int s), some (.int x29), some (.int (nI i)), some (.int s)], [], h3, 198, sl) _
            refine wp_i rfl rfl rfl rfl ?_
            refine wp_i rfl rfl rfl rfl ?_
            show pm_WP PT fr lo 232 (28, [some (.ref 162), some (.int (nI a)), some (.int (nI b)), some (.int (nI i)), some (.int s), some (.int x29), some (.int (nI i + 1)), some (.int s)], [], h3, 198, sl) _
            rw [nI_1 i]
            exact ih (i + 1) _ _ _ _ _ (by omega) hA3 (Or.inr ⟨⟨i, rfl, by omega⟩, by rw [q3]; exact p0⟩)
theorem hm_answer (hI : mInv h) (x y : Int32) (hf : 200 ≤ fr) (hl : 6000 ≤ lo) : pm_WP PT fr lo 232 (0, pm_l0 [.ref 162, .int x, .int y] 8, [], h, 198, sl) (mPost anInt h sl) := by
  obtain ⟨hh, hq⟩ := id hI
  obtain ⟨x0, h0, -⟩ := ty_fld hh (g := 0) rfl
  obtain ⟨c, h3, hc⟩ := ty_nat hh (g := 3) (u := 6) rfl (by decide)
  obtain ⟨n, h4, hn⟩ := ty_nat hh (g := 4) (u := 8) rfl (by decide)
  refine wp_i rfl rfl rfl rfl ?_
  refine wp_i rfl rfl rfl rfl ?_
  show pm_WP PT fr lo 232 (2, [some (.ref 162), some (.int x), some (.int y), none, none, none, none, none], [.int 0, .ref 162], h, 198, sl) _
  refine wp_pfm rfl rfl rfl (by decide) h0 ?_
  refine wp_i rfl rfl rfl rfl ?_
  refine wp_i rfl rfl rfl rfl ?_
  refine wp_i rfl rfl rfl rfl ?_
  show pm_WP PT fr lo 232 (8, [some (.ref 162), some (.int x), some (.int y), none, none, none, none, none], [.int y, .int x, .ref 162], (mset h 0 (.int 0)), 198, sl) _
  refine wp_callM (t := 170) (As := [.int x, .int y]) (rest := []) (mx := 3) rfl rfl rfl rfl (Nat.le_of_ble_eq_true rfl) (Nat.le_of_ble_eq_true rfl) (by omega) (by omega) rfl (mF_obj (mF_self h0)) (wp_mono (hd_arePair hc x y (mF_ne (by decide) h3) (by omega) (by omega)) ?_)
  rintro _ ⟨v, rfl, rfl | ⟨rfl, a, b, rfl, rfl, ha, hb⟩⟩
  · show pm_WP PT fr lo 232 (11, [some (.ref 162), some (.int x), some (.int y), none, none, none, none, none], [.int 0], (mset h 0 (.int 0)), 198, sl) _
    refine wp_i rfl rfl rfl rfl ?_
    refine wp_i rfl rfl rfl rfl ?_
    show pm_WP PT fr lo 232 (15, [some (.ref 162), some (.int x), some (.int y), none, none, none, none, none], [.int (-1)], (mset h 0 (.int 0)), 198, sl) _
    exact wp_iret rfl rfl (post0 hI h0 ⟨_, rfl⟩)
  · show pm_WP PT fr lo 232 (11, [some (.ref 162), some (.int (nI a)), some (.int (nI b)), none, none, none, none, none], [.int 1], (mset h 0 (.int 0)), 198, sl) _
    refine wp_i rfl rfl rfl rfl ?_
    refine wp_i rfl rfl rfl rfl ?_
    refine wp_i rfl rfl rfl rfl ?_
    refine wp_i rfl rfl rfl rfl ?_
    refine wp_i rfl rfl rfl rfl ?_
    refine wp_i rfl rfl rfl rfl ?_
    refine wp_i rfl rfl rfl rfl ?_
    refine wp_i rfl rfl rfl rfl ?_
    refine wp_i rfl rfl rfl rfl ?_
    show pm_WP PT fr lo 232 (28, [some (.ref 162), some (.int (nI a)), some (.int (nI b)), some (.int (-2)), some (.int (-1)), some (.int 0), some (.int 0), none], [], (mset h 0 (.int 0)), 198, sl) _
    have p0 := post0 (sl := sl) hI h0 (A := anInt) (v := some (.int 0)) ⟨_, rfl⟩
    refine an_L (h0 := mset h 0 (.int 0)) (n := n) (mF_ne (by decide) h3) (mF_ne (by decide) h4) hn hc hb (by omega) (by omega) (fun h2 x3 x4 x5 x7 hA => ?_) n 0 _ _ _ _ _ (by omega) ⟨p0.2.2.2, fun _ _ => rfl, fun _ _ _ q => q⟩ (Or.inl ⟨rfl, rfl⟩)
    refine wp_i rfl rfl rfl rfl ?_
    have l2 : ∀ i, i < 162 → h2 i = h i := fun i hi => (hA.2.1 i hi).trans (p0.2.2.1 i hi)
    show pm_WP PT fr lo 232 (118, [some (.ref 162), some (.int (nI a)), some (.int (nI b)), some (.int x3), some (.int x4), some (.int x5), some (.int (nI n)), x7], [.int x3], h2, 198, sl) _
    refine wp_if (c := .lt) (off := 22) (t := 140) rfl rfl (fun q9 => ?_) (fun q9 => ?_)
    · refine wp_i rfl rfl rfl rfl ?_
      show pm_WP PT fr lo 232 (141, [some (.ref 162), some (.int (nI a)), some (.int (nI b)), some (.int x3), some (.int x4), some (.int x5), some (.int (nI n)), x7], [.int x3], h2, 198, sl) _
      exact wp_iret rfl rfl ⟨⟨_, rfl⟩, rfl, l2, hA.1⟩
    · obtain ⟨x1, y1, -⟩ := ty_fld hA.1.1 (g := 1) rfl
      refine wp_i rfl rfl rfl rfl ?_
      refine wp_i rfl rfl rfl rfl ?_
      show pm_WP PT fr lo 232 (123, [some (.ref 162), some (.int (nI a)), some (.int (nI b)), some (.int x3), some (.int x4), some (.int x5), some (.int (nI n)), x7], [.int 0, .ref 162], h2, 198, sl) _
      refine wp_pfm rfl rfl rfl (by decide) y1 ?_
      refine wp_i rfl rfl rfl rfl ?_
      refine wp_i rfl rfl rfl rfl ?_
      refine wp_i rfl rfl rfl rfl ?_
      have hI8 : mInv (mset h2 1 (.int 0)) := mInv_s1 hA.1 (k := 0) (by decide)
      have y8 : mF (mset h2 1 (.int 0)) 1 (.int (nI 0)) := mF_self y1
      have l8 : ∀ i, i < 162 → (mset h2 1 (.int 0)) i = h2 i := fun i hi => mset_ne (by omega)
      generalize mset h2 1 (.int 0) = h8 at hI8 y8 l8 ⊢
      show pm_WP PT fr lo 232 (130, [some (.ref 162), some (.int (nI a)), some (.int (nI b)), some (.int x3), some (.int x4), some (.int x5), some (.int (nI n)), x7], [.long (x4).toInt64, .ref 162], h8, 198, sl) _
      refine wp_callM (t := 167) (As := [.long (x4).toInt64]) (rest := []) (mx := 3) rfl rfl rfl rfl (Nat.le_of_ble_eq_true rfl) (Nat.le_of_ble_eq_true rfl) (by omega) (by omega) rfl (mF_obj y8) (wp_mono (hm_enters hI8 x4.toInt64 y8 (by decide)) ?_)
      rintro _ ⟨h9, rfl, hI9, y9, l9⟩
      refine wp_i rfl rfl rfl rfl ?_
      refine wp_i rfl rfl rfl rfl ?_
      refine wp_i rfl rfl rfl rfl ?_
      show pm_WP PT fr lo 232 (137, [some (.ref 162), some (.int (nI a)), some (.int (nI b)), some (.int x3), some (.int x4), some (.int x5), some (.int (nI n)), x7], [.long (x5).toInt64, .ref 162], h9, 198, sl) _
      refine wp_callM (t := 167) (As := [.long (x5).toInt64]) (rest := []) (mx := 3) rfl rfl rfl rfl (Nat.le_of_ble_eq_true rfl) (Nat.le_of_ble_eq_true rfl) (by omega) (by omega) rfl (mF_obj y9) (wp_mono (hm_enters hI9 x5.toInt64 y9 (by decide)) ?_)
      rintro _ ⟨h10, rfl, hI10, y10, l10⟩
      refine wp_i rfl rfl rfl rfl ?_
      show pm_WP PT fr lo 232 (141, [some (.ref 162), some (.int (nI a)), some (.int (nI b)), some (.int x3), some (.int x4), some (.int x5), some (.int (nI n)), x7], [.int x3], h10, 198, sl) _
      exact wp_iret rfl rfl ⟨⟨_, rfl⟩, rfl, fun i hi => (l10 i hi).trans ((l9 i hi).trans ((l8 i hi).trans (l2 i hi))), hI10⟩
end ANS
end MG77answerx0
section MG77answerx1
/-! every call of the reference keeps what must be kept -/
section MPW
variable {fr lo sl : Nat} {h : pm_H}
def aLong (v : Option Value) : Prop := ∃ x : Int64, v = some (.long x)
theorem ao_i {v : Option Value} {l u : Int} (q : ao_ok v (some (0, l, u))) : ∃ x : Int32, v = some (.int x) ∧ l ≤ x.toInt ∧ x.toInt ≤ u := by
  cases v with
  | none => exact q.elim
  | some v =>
    obtain ⟨x, rfl, h1, h2⟩ := av_int rfl q
    exact ⟨x, rfl, h1, h2⟩
theorem ao_l {v : Option Value} {l u : Int} (q : ao_ok v (some (1, l, u))) : aLong v := by
  cases v with
  | none => exact q.elim
  | some v =>
    cases v with
    | long x => exact ⟨x, rfl⟩
    | int x => exact absurd (show (1 : Nat) = 0 from q.1) (by decide)
    | ref p => exact absurd (show (1 : Nat) = 2 from q.1) (by decide)
    | null => exact absurd (show (1 : Nat) = 3 from q) (by decide)
    | retAddr i => exact absurd (show (1 : Nat) = 4 from q.1) (by decide)
    | _ => exact q.elim
theorem ao_I {v : Option Value} {l u : Int} (q : ∃ a, a ∈ [some ((0, l, u) : av)] ∧ ao_ok v a) : anInt v := by
  obtain ⟨a, ha, q⟩ := q
  cases List.mem_singleton.mp ha
  obtain ⟨x, rfl, -⟩ := ao_i q
  exact ⟨x, rfl⟩
theorem ao_L {v : Option Value} {l u : Int} (q : ∃ a, a ∈ [some ((1, l, u) : av)] ∧ ao_ok v a) : aLong v := by
  obtain ⟨a, ha, q⟩ := q
  cases List.mem_singleton.mp ha
  exact ao_l q
theorem ao_B {v : Option Value} (q : ∃ a, a ∈ [some ((0, 0, 1) : av)] ∧ ao_ok v a) : aBool v := by
  obtain ⟨a, ha, q⟩ := q
  cases List.mem_singleton.mp ha
  obtain ⟨x, rfl, h1, h2⟩ := ao_i q
  obtain ⟨n, rfl, -, e⟩ := hI_of h1
  have : n = 0 ∨ n = 1 := by omega
  rcases this with rfl | rfl
  · exact Or.inl rfl
  · exact Or.inr rfl
theorem post_c {x : pm_Rs} {A B : Option Value → Prop} (hB : ∀ v, B v → A v) (q : B x.1 ∧ x.2.2 = (198, sl) ∧ (fm rxF h x.2.1 ∧ rxQ x.2.1) ∧ ah_ok bB 198 [] x.2.1) : mPost A h sl x := ⟨hB _ q.1, q.2.1, fm_lt q.2.2.1.1, q.2.2.2, q.2.2.1.2⟩
/-- what is known of fields 3 and 4 put into the typing -/
theorem ov_in {as : List av} {o : ah} (hb : ah_get bB o 162 = .inr (11, as)) (hh : ah_ok bB 198 o h) {g : Nat} {v : Value} {a : av} (m : mF h g v) (hv : av_ok v a) : ah_ok bB 198 (ah_put o 162 (.inr (11, as.set g a))) h := by
  refine ah_put_ok hh ?_
  have h0 := hh 162 (by decide)
  rw [hb] at h0
  obtain ⟨fs, e, e1⟩ := m
  rw [e] at h0 ⊢
  obtain ⟨p1, p2, p3⟩ := h0
  refine ⟨p1, by rw [List.length_set]; exact p2, fun i w b hw hb2 => ?_⟩
  by_cases z : i = g
  · subst z
    rw [e1] at hw
    cases hw
    have hl : i < as.length := by
      have := (List.getElem?_eq_some_iff.mp hb2).1
      rwa [List.length_set] at this
    rw [List.getElem?_set_self hl] at hb2
    cases hb2
    exact hv
  · rw [List.getElem?_set_ne (Ne.symm z)] at hb2
    exact p3 i w b hw hb2
theorem hm_sign (hI : mInv h) (x1 : Int32) (hf : 500 ≤ fr) (hl : 12000 ≤ lo) : pm_WP PT fr lo 178 (0, pm_l0 [.ref 162, .int x1] 3, [], h, 198, sl) (mPost anInt h sl) := wp_mono (rxw_sign [.ref 162, .int x1] h fr lo sl ⟨⟨rfl, List.mem_singleton_self _⟩, ai_top_ok _, trivial⟩ hI.1 hI.2 (Nat.le_trans (by decide) hf) (Nat.le_trans (by decide) hl)) (fun x q => post_c (fun _ => ao_I) q)
theorem hm_end (hI : mInv h) (x1 : Int32) (hf : 500 ≤ fr) (hl : 12000 ≤ lo) : pm_WP PT fr lo 179 (0, pm_l0 [.ref 162, .int x1] 2, [], h, 198, sl) (mPost aBool h sl) := wp_mono (rxw_end [.ref 162, .int x1] h fr lo sl ⟨⟨rfl, List.mem_singleton_self _⟩, ai_top_ok _, trivial⟩ hI.1 hI.2 (Nat.le_trans (by decide) hf) (Nat.le_trans (by decide) hl)) (fun x q => post_c (fun _ => ao_B) q)
theorem hm_court (hI : mInv h) (x1 x2 : Int32) (hf : 500 ≤ fr) (hl : 12000 ≤ lo) : pm_WP PT fr lo 206 (0, pm_l0 [.ref 162, .int x1, .int x2] 3, [], h, 198, sl) (mPost anInt h sl) := wp_mono (rxw_court [.ref 162, .int x1, .int x2] h fr lo sl ⟨⟨rfl, List.mem_singleton_self _⟩, ai_top_ok _, ai_top_ok _, trivial⟩ hI.1 hI.2 (Nat.le_trans (by decide) hf) (Nat.le_trans (by decide) hl)) (fun x q => post_c (fun _ => ao_I) q)
theorem hm_between (hI : mInv h) (x1 x2 x3 : Int32) (hf : 500 ≤ fr) (hl : 12000 ≤ lo) : pm_WP PT fr lo 207 (0, pm_l0 [.ref 162, .int x1, .int x2, .int x3] 5, [], h, 198, sl) (mPost anInt h sl) := wp_mono (rxw_between [.ref 162, .int x1, .int x2, .int x3] h fr lo sl ⟨⟨rfl, List.mem_singleton_self _⟩, ai_top_ok _, ai_top_ok _, ai_top_ok _, trivial⟩ hI.1 hI.2 (Nat.le_trans (by decide) hf) (Nat.le_trans (by decide) hl)) (fun x q => post_c (fun _ => ao_I) q)
theorem hm_gift (hI : mInv h) (x1 x2 : Int32) (hf : 500 ≤ fr) (hl : 12000 ≤ lo) : pm_WP PT fr lo 208 (0, pm_l0 [.ref 162, .int x1, .int x2] 3, [], h, 198, sl) (mPost anInt h sl) := wp_mono (rxw_gift [.ref 162, .int x1, .int x2] h fr lo sl ⟨⟨rfl, List.mem_singleton_self _⟩, ai_top_ok _, ai_top_ok _, trivial⟩ hI.1 hI.2 (Nat.le_trans (by decide) hf) (Nat.le_trans (by decide) hl)) (fun x q => post_c (fun _ => ao_I) q)
theorem hm_road (hI : mInv h) (x1 x2 x3 : Int32) (hf : 500 ≤ fr) (hl : 12000 ≤ lo) : pm_WP PT fr lo 209 (0, pm_l0 [.ref 162, .int x1, .int x2, .int x3] 5, [], h, 198, sl) (mPost anInt h sl) := wp_mono (rxw_road [.ref 162, .int x1, .int x2, .int x3] h fr lo sl ⟨⟨rfl, List.mem_singleton_self _⟩, ai_top_ok _, ai_top_ok _, ai_top_ok _, trivial⟩ hI.1 hI.2 (Nat.le_trans (by decide) hf) (Nat.le_trans (by decide) hl)) (fun x q => post_c (fun _ => ao_I) q)
theorem hm_sheet (hI : mInv h) (x1 x2 x3 x4 : Int32) (hf : 500 ≤ fr) (hl : 12000 ≤ lo) : pm_WP PT fr lo 210 (0, pm_l0 [.ref 162, .int x1, .int x2, .int x3, .int x4] 8, [], h, 198, sl) (mPost anInt h sl) := wp_mono (rxw_sheet [.ref 162, .int x1, .int x2, .int x3, .int x4] h fr lo sl ⟨⟨rfl, List.mem_singleton_self _⟩, ai_top_ok _, ai_top_ok _, ai_top_ok _, ai_top_ok _, trivial⟩ hI.1 hI.2 (Nat.le_trans (by decide) hf) (Nat.le_trans (by decide) hl)) (fun x q => post_c (fun _ => ao_I) q)
theorem hm_send (hI : mInv h) (x1 x2 : Int32) (hf : 500 ≤ fr) (hl : 12000 ≤ lo) : pm_WP PT fr lo 222 (0, pm_l0 [.ref 162, .int x1, .int x2] 4, [], h, 198, sl) (mPost anInt h sl) := wp_mono (rxw_send [.ref 162, .int x1, .int x2] h fr lo sl ⟨⟨rfl, List.mem_singleton_self _⟩, ai_top_ok _, ai_top_ok _, trivial⟩ hI.1 hI.2 (Nat.le_trans (by decide) hf) (Nat.le_trans (by decide) hl)) (fun x q => post_c (fun _ => ao_I) q)
theorem hm_months (hI : mInv h) (x1 : Int32) (hf : 500 ≤ fr) (hl : 12000 ≤ lo) : pm_WP PT fr lo 223 (0, pm_l0 [.ref 162, .int x1] 4, [], h, 198, sl) (mPost anInt h sl) := wp_mono (rxw_months [.ref 162, .int x1] h fr lo sl ⟨⟨rfl, List.mem_singleton_self _⟩, ai_top_ok _, trivial⟩ hI.1 hI.2 (Nat.le_trans (by decide) hf) (Nat.le_trans (by decide) hl)) (fun x q => post_c (fun _ => ao_I) q)
theorem hm_envoy (hI : mInv h) (x1 x2 x3 : Int32) (hf : 500 ≤ fr) (hl : 12000 ≤ lo) : pm_WP PT fr lo 224 (0, pm_l0 [.ref 162, .int x1, .int x2, .int x3] 4, [], h, 198, sl) (mPost anInt h sl) := wp_mono (rxw_envoy [.ref 162, .int x1, .int x2, .int x3] h fr lo sl ⟨⟨rfl, List.mem_singleton_self _⟩, ai_top_ok _, ai_top_ok _, ai_top_ok _, trivial⟩ hI.1 hI.2 (Nat.le_trans (by decide) hf) (Nat.le_trans (by decide) hl)) (fun x q => post_c (fun _ => ao_I) q)
theorem hm_forgive (hI : mInv h) (x1 x2 : Int32) (hf : 500 ≤ fr) (hl : 12000 ≤ lo) : pm_WP PT fr lo 225 (0, pm_l0 [.ref 162, .int x1, .int x2] 3, [], h, 198, sl) (mPost anInt h sl) := wp_mono (rxw_forgive [.ref 162, .int x1, .int x2] h fr lo sl ⟨⟨rfl, List.mem_singleton_self _⟩, ai_top_ok _, ai_top_ok _, trivial⟩ hI.1 hI.2 (Nat.le_trans (by decide) hf) (Nat.le_trans (by decide) hl)) (fun x q => post_c (fun _ => ao_I) q)
theorem hm_value (hI : mInv h) (x1 x2 : Int32) (hf : 500 ≤ fr) (hl : 12000 ≤ lo) : pm_WP PT fr lo 230 (0, pm_l0 [.ref 162, .int x1, .int x2] 3, [], h, 198, sl) (mPost anInt h sl) := wp_mono (rxw_value [.ref 162, .int x1, .int x2] h fr lo sl ⟨⟨rfl, List.mem_singleton_self _⟩, ai_top_ok _, ai_top_ok _, trivial⟩ hI.1 hI.2 (Nat.le_trans (by decide) hf) (Nat.le_trans (by decide) hl)) (fun x q => post_c (fun _ => ao_I) q)
theorem hm_where (hI : mInv h) (x1 : Int32) (hf : 500 ≤ fr) (hl : 12000 ≤ lo) : pm_WP PT fr lo 231 (0, pm_l0 [.ref 162, .int x1] 7, [], h, 198, sl) (mPost anInt h sl) := wp_mono (rxw_where [.ref 162, .int x1] h fr lo sl ⟨⟨rfl, List.mem_singleton_self _⟩, ai_top_ok _, trivial⟩ hI.1 hI.2 (Nat.le_trans (by decide) hf) (Nat.le_trans (by decide) hl)) (fun x q => post_c (fun _ => ao_I) q)
theorem hm_wins (hI : mInv h) (x1 x2 : Int32) (hf : 500 ≤ fr) (hl : 12000 ≤ lo) : pm_WP PT fr lo 234 (0, pm_l0 [.ref 162, .int x1, .int x2] 5, [], h, 198, sl) (mPost anInt h sl) := wp_mono (rxw_wins [.ref 162, .int x1, .int x2] h fr lo sl ⟨⟨rfl, List.mem_singleton_self _⟩, ai_top_ok _, ai_top_ok _, trivial⟩ hI.1 hI.2 (Nat.le_trans (by decide) hf) (Nat.le_trans (by decide) hl)) (fun x q => post_c (fun _ => ao_I) q)
theorem hm_unseen (hI : mInv h) (x1 : Int32) (hf : 500 ≤ fr) (hl : 12000 ≤ lo) : pm_WP PT fr lo 235 (0, pm_l0 [.ref 162, .int x1] 6, [], h, 198, sl) (mPost anInt h sl) := wp_mono (rxw_unseen [.ref 162, .int x1] h fr lo sl ⟨⟨rfl, List.mem_singleton_self _⟩, ai_top_ok _, trivial⟩ hI.1 hI.2 (Nat.le_trans (by decide) hf) (Nat.le_trans (by decide) hl)) (fun x q => post_c (fun _ => ao_I) q)
theorem hm_swaps (hI : mInv h) (hf : 500 ≤ fr) (hl : 12000 ≤ lo) : pm_WP PT fr lo 236 (0, pm_l0 [.ref 162] 11, [], h, 198, sl) (mPost anInt h sl) := wp_mono (rxw_swaps [.ref 162] h fr lo sl ⟨⟨rfl, List.mem_singleton_self _⟩, trivial⟩ hI.1 hI.2 (Nat.le_trans (by decide) hf) (Nat.le_trans (by decide) hl)) (fun x q => post_c (fun _ => ao_I) q)
theorem hm_feeds (hI : mInv h) (x1 : Int32) (hf : 500 ≤ fr) (hl : 12000 ≤ lo) : pm_WP PT fr lo 242 (0, pm_l0 [.ref 162, .int x1] 3, [], h, 198, sl) (mPost anInt h sl) := wp_mono (rxw_feeds [.ref 162, .int x1] h fr lo sl ⟨⟨rfl, List.mem_singleton_self _⟩, ai_top_ok _, trivial⟩ hI.1 hI.2 (Nat.le_trans (by decide) hf) (Nat.le_trans (by decide) hl)) (fun x q => post_c (fun _ => ao_I) q)
theorem hm_starves (hI : mInv h) (x1 x2 : Int32) (hf : 500 ≤ fr) (hl : 12000 ≤ lo) : pm_WP PT fr lo 243 (0, pm_l0 [.ref 162, .int x1, .int x2] 7, [], h, 198, sl) (mPost anInt h sl) := wp_mono (rxw_starves [.ref 162, .int x1, .int x2] h fr lo sl ⟨⟨rfl, List.mem_singleton_self _⟩, ai_top_ok _, ai_top_ok _, trivial⟩ hI.1 hI.2 (Nat.le_trans (by decide) hf) (Nat.le_trans (by decide) hl)) (fun x q => post_c (fun _ => ao_I) q)
theorem hm_net (hI : mInv h) (x1 : Int32) (hf : 500 ≤ fr) (hl : 12000 ≤ lo) : pm_WP PT fr lo 244 (0, pm_l0 [.ref 162, .int x1] 2, [], h, 198, sl) (mPost anInt h sl) := wp_mono (rxw_net [.ref 162, .int x1] h fr lo sl ⟨⟨rfl, List.mem_singleton_self _⟩, ai_top_ok _, trivial⟩ hI.1 hI.2 (Nat.le_trans (by decide) hf) (Nat.le_trans (by decide) hl)) (fun x q => post_c (fun _ => ao_I) q)
theorem hm_ring (hI : mInv h) (hf : 500 ≤ fr) (hl : 12000 ≤ lo) : pm_WP PT fr lo 247 (0, pm_l0 [.ref 162] 3, [], h, 198, sl) (mPost anInt h sl) := wp_mono (rxw_ring [.ref 162] h fr lo sl ⟨⟨rfl, List.mem_singleton_self _⟩, trivial⟩ hI.1 hI.2 (Nat.le_trans (by decide) hf) (Nat.le_trans (by decide) hl)) (fun x q => post_c (fun _ => ao_I) q)
theorem hm_ranks (hI : mInv h) (hf : 500 ≤ fr) (hl : 12000 ≤ lo) : pm_WP PT fr lo 249 (0, pm_l0 [.ref 162] 6, [], h, 198, sl) (mPost anInt h sl) := wp_mono (rxw_ranks [.ref 162] h fr lo sl ⟨⟨rfl, List.mem_singleton_self _⟩, trivial⟩ hI.1 hI.2 (Nat.le_trans (by decide) hf) (Nat.le_trans (by decide) hl)) (fun x q => post_c (fun _ => ao_I) q)
theorem hm_heard (hI : mInv h) (x1 x2 : Int32) (hf : 500 ≤ fr) (hl : 12000 ≤ lo) : pm_WP PT fr lo 251 (0, pm_l0 [.ref 162, .int x1, .int x2] 4, [], h, 198, sl) (mPost anInt h sl) := wp_mono (rxw_heard [.ref 162, .int x1, .int x2] h fr lo sl ⟨⟨rfl, List.mem_singleton_self _⟩, ai_top_ok _, ai_top_ok _, trivial⟩ hI.1 hI.2 (Nat.le_trans (by decide) hf) (Nat.le_trans (by decide) hl)) (fun x q => post_c (fun _ => ao_I) q)
theorem hm_forget (hI : mInv h) (hf : 500 ≤ fr) (hl : 12000 ≤ lo) : pm_WP PT fr lo 252 (0, pm_l0 [.ref 162] 2, [], h, 198, sl) (mPost anInt h sl) := wp_mono (rxw_forget [.ref 162] h fr lo sl ⟨⟨rfl, List.mem_singleton_self _⟩, trivial⟩ hI.1 hI.2 (Nat.le_trans (by decide) hf) (Nat.le_trans (by decide) hl)) (fun x q => post_c (fun _ => ao_I) q)
theorem hm_fits (hI : mInv h) (hf : 500 ≤ fr) (hl : 12000 ≤ lo) : pm_WP PT fr lo 255 (0, pm_l0 [.ref 162] 4, [], h, 198, sl) (mPost anInt h sl) := wp_mono (rxw_fits [.ref 162] h fr lo sl ⟨⟨rfl, List.mem_singleton_self _⟩, trivial⟩ hI.1 hI.2 (Nat.le_trans (by decide) hf) (Nat.le_trans (by decide) hl)) (fun x q => post_c (fun _ => ao_I) q)
theorem hm_ask (hI : mInv h) (hf : 500 ≤ fr) (hl : 12000 ≤ lo) : pm_WP PT fr lo 256 (0, pm_l0 [.ref 162] 7, [], h, 198, sl) (mPost anInt h sl) := wp_mono (rxw_ask [.ref 162] h fr lo sl ⟨⟨rfl, List.mem_singleton_self _⟩, trivial⟩ hI.1 hI.2 (Nat.le_trans (by decide) hf) (Nat.le_trans (by decide) hl)) (fun x q => post_c (fun _ => ao_I) q)
theorem hm_rests (hI : mInv h) (x1 : Int32) (hf : 500 ≤ fr) (hl : 12000 ≤ lo) : pm_WP PT fr lo 261 (0, pm_l0 [.ref 162, .int x1] 5, [], h, 198, sl) (mPost anInt h sl) := wp_mono (rxw_rests [.ref 162, .int x1] h fr lo sl ⟨⟨rfl, List.mem_singleton_self _⟩, ai_top_ok _, trivial⟩ hI.1 hI.2 (Nat.le_trans (by decide) hf) (Nat.le_trans (by decide) hl)) (fun x q => post_c (fun _ => ao_I) q)
theorem hm_count (hI : mInv h) (x1 : Int32) (hf : 500 ≤ fr) (hl : 12000 ≤ lo) : pm_WP PT fr lo 267 (0, pm_l0 [.ref 162, .int x1] 4, [], h, 198, sl) (mPost anInt h sl) := wp_mono (rxw_count [.ref 162, .int x1] h fr lo sl ⟨⟨rfl, List.mem_singleton_self _⟩, ai_top_ok _, trivial⟩ hI.1 hI.2 (Nat.le_trans (by decide) hf) (Nat.le_trans (by decide) hl)) (fun x q => post_c (fun _ => ao_I) q)
theorem hm_row (hI : mInv h) (x1 : Int32) (hf : 500 ≤ fr) (hl : 12000 ≤ lo) : pm_WP PT fr lo 268 (0, pm_l0 [.ref 162, .int x1] 2, [], h, 198, sl) (mPost aLong h sl) := wp_mono (rxw_row [.ref 162, .int x1] h fr lo sl ⟨⟨rfl, List.mem_singleton_self _⟩, ai_top_ok _, trivial⟩ hI.1 hI.2 (Nat.le_trans (by decide) hf) (Nat.le_trans (by decide) hl)) (fun x q => post_c (fun _ => ao_L) q)
theorem hm_year (hI : mInv h) (hf : 500 ≤ fr) (hl : 12000 ≤ lo) : pm_WP PT fr lo 228 (0, pm_l0 [.ref 162] 5, [], h, 198, sl) (mPost anInt h sl) := wp_mono (rxw_year [.ref 162] h fr lo sl ⟨⟨rfl, List.mem_singleton_self _⟩, trivial⟩ hI.1 hI.2 (Nat.le_trans (by decide) hf) (Nat.le_trans (by decide) hl)) (fun x q => post_c (fun _ => ao_I) q)
theorem hm_settle (hI : mInv h) (hf : 500 ≤ fr) (hl : 12000 ≤ lo) : pm_WP PT fr lo 245 (0, pm_l0 [.ref 162] 4, [], h, 198, sl) (mPost anInt h sl) := wp_mono (rxw_settle [.ref 162] h fr lo sl ⟨⟨rfl, List.mem_singleton_self _⟩, trivial⟩ hI.1 hI.2 (Nat.le_trans (by decide) hf) (Nat.le_trans (by decide) hl)) (fun x q => post_c (fun _ => ao_I) q)
theorem hm_league (hI : mInv h) (hf : 500 ≤ fr) (hl : 12000 ≤ lo) : pm_WP PT fr lo 250 (0, pm_l0 [.ref 162] 5, [], h, 198, sl) (mPost anInt h sl) := wp_mono (rxw_league [.ref 162] h fr lo sl ⟨⟨rfl, List.mem_singleton_self _⟩, trivial⟩ hI.1 hI.2 (Nat.le_trans (by decide) hf) (Nat.le_trans (by decide) hl)) (fun x q => post_c (fun _ => ao_I) q)
theorem ov_3 (hh : ah_ok bB 198 [] h) {c l u : Nat} (h3 : mF h 3 (.int (nI c))) (h1 : l ≤ c) (h2 : c ≤ u) (hu : u ≤ 6) {o : ah} (e : ∃ as, bB 162 = .inr (11, as) ∧ o = ah_put [] 162 (.inr (11, as.set 3 (0, (l : Int), (u : Int))))) : ah_ok bB 198 o h := by
  obtain ⟨as, e1, rfl⟩ := e
  exact ov_in (o := []) e1 hh h3 (av_nI (by omega) (by omega) (by omega))
theorem ov_34 (hh : ah_ok bB 198 [] h) {c l u g p q : Nat} (h3 : mF h 3 (.int (nI c))) (h1 : l ≤ c) (h2 : c ≤ u) (hu : u ≤ 6) (h4 : mF h 4 (.int (nI g))) (h5 : p ≤ g) (h6 : g ≤ q) (hq : q ≤ 8) {o : ah} (e : ∃ as, bB 162 = .inr (11, as) ∧ o = ah_put [] 162 (.inr (11, (as.set 3 (0, (l : Int), (u : Int))).set 4 (0, (p : Int), (q : Int))))) : ah_ok bB 198 o h := by
  obtain ⟨as, e1, rfl⟩ := e
  have a1 := ov_in (o := []) e1 hh h3 (a := (0, (l : Int), (u : Int))) (av_nI (by omega) (by omega) (by omega))
  exact ov_in (o := ah_put [] 162 (.inr (11, as.set 3 (0, (l : Int), (u : Int))))) rfl a1 h4 (a := (0, (p : Int), (q : Int))) (av_nI (by omega) (by omega) (by omega))
/-- fields 3 and 4 told back -/
theorem ov_nat {o : ah} {as : List av} (hh : ah_ok bB 198 o h) (e : ah_get bB o 162 = .inr (11, as)) {g l u : Nat} (ha : as[g]? = some (0, (l : Int), (u : Int))) (hu : u ≤ 100) : ∃ n : Nat, mF h g (.int (nI n)) ∧ l ≤ n ∧ n ≤ u := by
  obtain ⟨n, m, h1, h2⟩ := ob_nat hh e ha (by omega) (by omega)
  exact ⟨n, m, by omega, by omega⟩
theorem ov_out {o : ah} (hh : ah_ok bB 198 o h) (hl : ah_le bB o [] = true) : ah_ok bB 198 [] h := ah_le_ok hl hh
theorem hm_years (hI : mInv h) (x1 x2 : Int32) (hf : 500 ≤ fr) (hl : 12000 ≤ lo) : pm_WP PT fr lo 263 (0, pm_l0 [.ref 162, .int x1, .int x2] 7, [], h, 198, sl) (mPost anInt h sl) := by
  obtain ⟨q1, ⟨c, g, h3, h4, hc, hg, hcg⟩, q3⟩ := id hI.2
  by_cases z : c = 0
  · subst z
    obtain rfl : g = 0 := by omega
    exact wp_mono (rxw_years0 [.ref 162, .int x1, .int x2] h fr lo sl ⟨⟨rfl, List.mem_singleton_self _⟩, ai_top_ok _, ai_top_ok _, trivial⟩ (ov_34 (l := 0) (u := 0) (p := 0) (q := 0) hI.1 h3 (by omega) (by omega) (by omega) h4 (by omega) (by omega) (by omega) ⟨_, rfl, rfl⟩) hI.2 (Nat.le_trans (by decide) hf) (Nat.le_trans (by decide) hl)) (fun x q => post_c (fun _ => ao_I) q)
  · exact wp_mono (rxw_years1 [.ref 162, .int x1, .int x2] h fr lo sl ⟨⟨rfl, List.mem_singleton_self _⟩, ai_top_ok _, ai_top_ok _, trivial⟩ (ov_3 (l := 1) (u := 6) hI.1 h3 (by omega) (by omega) (by omega) ⟨_, rfl, rfl⟩) hI.2 (Nat.le_trans (by decide) hf) (Nat.le_trans (by decide) hl)) (fun x q => post_c (fun _ => ao_I) q)
theorem fmc_lt {F : fr_F} (hF : F.1 = rxC) {h h' : pm_H} (q : fm F h h') : ∀ i, i < 162 → h' i = h i := fun i hi => q.1 i (by
  rw [hF]
  unfold rxC
  have : Nat.blt i 162 = true := Nat.ble_eq_true_of_le hi
  rw [this]
  rfl)
theorem post_courts {n : Nat} {o : ah} {x : pm_Rs} (hI : mInv h) (h3 : mF h 3 (.int (nI n))) (e : ∃ as, ah_get bB o 162 = .inr (11, as) ∧ as[3]? = some (0, (n : Int), ((6 : Nat) : Int))) (hlo : ah_le bB o [] = true) (q : (∃ a, a ∈ [some ((0, (-2147483648), 2147483647) : av)] ∧ ao_ok x.1 a) ∧ x.2.2 = (198, sl) ∧ (fm rxFc h x.2.1 ∧ rxQ1 x.2.1) ∧ ah_ok bB 198 o x.2.1) : mPost anInt h sl x := by
  obtain ⟨a1, a2, ⟨a3, ⟨b1, b2, b3⟩⟩, a4⟩ := q
  obtain ⟨as, e1, e2⟩ := e
  obtain ⟨c, m3, l1, l2⟩ := ov_nat a4 e1 e2 (by decide)
  obtain ⟨-, ⟨c0, g0, k3, k4, hc6, hg, hcg⟩, -⟩ := hI.2
  have hc0 : c0 = n := by
    obtain ⟨fs, p1, p2⟩ := k3
    obtain ⟨fs', p1', p2'⟩ := h3
    rw [p1] at p1'
    cases p1'
    rw [p2] at p2'
    have e5 : nI c0 = nI n := by
      have := Option.some.inj p2'
      exact (Value.int.inj this)
    have e6 : n ≤ 6 := by omega
    have := congrArg Int32.toInt e5
    rw [nI_toInt (by omega), nI_toInt (by omega)] at this
    omega
  exact ⟨ao_I a1, a2, fmc_lt rfl a3, ov_out a4 hlo, b1, ⟨c, g0, m3, fm_mF a3 rfl k4, l2, hg, fun z => by have := hcg z; omega⟩, b2, b3⟩
theorem hm_courts (hI : mInv h) (hf : 500 ≤ fr) (hl : 12000 ≤ lo) : pm_WP PT fr lo 188 (0, pm_l0 [.ref 162] 7, [], h, 198, sl) (mPost anInt h sl) := by
  obtain ⟨q1, ⟨c, g, h3, h4, hc, hg, hcg⟩, q3⟩ := id hI.2
  have hQ : rxQ1 h := ⟨q1, q3⟩
  have : c = 0 ∨ c = 1 ∨ c = 2 ∨ c = 3 ∨ c = 4 ∨ c = 5 ∨ c = 6 := by omega
  rcases this with rfl | rfl | rfl | rfl | rfl | rfl | rfl
  · exact wp_mono (rxw_courts0 [.ref 162] h fr lo sl ⟨⟨rfl, List.mem_singleton_self _⟩, trivial⟩ (ov_3 (l := 0) (u := 0) hI.1 h3 (by omega) (by omega) (by omega) ⟨_, rfl, rfl⟩) hQ (Nat.le_trans (by decide) hf) (Nat.le_trans (by decide) hl)) (fun x q => post_courts (n := 0) hI h3 ⟨_, rfl, rfl⟩ (by decide +kernel) q)
  · exact wp_mono (rxw_courts1 [.ref 162] h fr lo sl ⟨⟨rfl, List.mem_singleton_self _⟩, trivial⟩ (ov_3 (l := 1) (u := 1) hI.1 h3 (by omega) (by omega) (by omega) ⟨_, rfl, rfl⟩) hQ (Nat.le_trans (by decide) hf) (Nat.le_trans (by decide) hl)) (fun x q => post_courts (n := 1) hI h3 ⟨_, rfl, rfl⟩ (by decide +kernel) q)
  · exact wp_mono (rxw_courts2 [.ref 162] h fr lo sl ⟨⟨rfl, List.mem_singleton_self _⟩, trivial⟩ (ov_3 (l := 2) (u := 2) hI.1 h3 (by omega) (by omega) (by omega) ⟨_, rfl, rfl⟩) hQ (Nat.le_trans (by decide) hf) (Nat.le_trans (by decide) hl)) (fun x q => post_courts (n := 2) hI h3 ⟨_, rfl, rfl⟩ (by decide +kernel) q)
  · exact wp_mono (rxw_courts3 [.ref 162] h fr lo sl ⟨⟨rfl, List.mem_singleton_self _⟩, trivial⟩ (ov_3 (l := 3) (u := 3) hI.1 h3 (by omega) (by omega) (by omega) ⟨_, rfl, rfl⟩) hQ (Nat.le_trans (by decide) hf) (Nat.le_trans (by decide) hl)) (fun x q => post_courts (n := 3) hI h3 ⟨_, rfl, rfl⟩ (by decide +kernel) q)
  · exact wp_mono (rxw_courts4 [.ref 162] h fr lo sl ⟨⟨rfl, List.mem_singleton_self _⟩, trivial⟩ (ov_3 (l := 4) (u := 4) hI.1 h3 (by omega) (by omega) (by omega) ⟨_, rfl, rfl⟩) hQ (Nat.le_trans (by decide) hf) (Nat.le_trans (by decide) hl)) (fun x q => post_courts (n := 4) hI h3 ⟨_, rfl, rfl⟩ (by decide +kernel) q)
  · exact wp_mono (rxw_courts5 [.ref 162] h fr lo sl ⟨⟨rfl, List.mem_singleton_self _⟩, trivial⟩ (ov_3 (l := 5) (u := 5) hI.1 h3 (by omega) (by omega) (by omega) ⟨_, rfl, rfl⟩) hQ (Nat.le_trans (by decide) hf) (Nat.le_trans (by decide) hl)) (fun x q => post_courts (n := 5) hI h3 ⟨_, rfl, rfl⟩ (by decide +kernel) q)
  · exact wp_mono (rxw_courts6 [.ref 162] h fr lo sl ⟨⟨rfl, List.mem_singleton_self _⟩, trivial⟩ (ov_3 (l := 6) (u := 6) hI.1 h3 (by omega) (by omega) (by omega) ⟨_, rfl, rfl⟩) hQ (Nat.le_trans (by decide) hf) (Nat.le_trans (by decide) hl)) (fun x q => post_courts (n := 6) hI h3 ⟨_, rfl, rfl⟩ (by decide +kernel) q)
theorem post_gifts {c : Nat} {x : pm_Rs} (hI : mInv h) (h3 : mF h 3 (.int (nI c))) (hc : 0 < c) (hc6 : c ≤ 6) (q : (∃ a, a ∈ [some ((0, (-2147483648), 2147483647) : av)] ∧ ao_ok x.1 a) ∧ x.2.2 = (198, sl) ∧ (fm rxFg h x.2.1 ∧ rxQ1 x.2.1) ∧ ah_ok bB 198 [] x.2.1) : mPost anInt h sl x := by
  obtain ⟨a1, a2, ⟨a3, ⟨b1, b2, b3⟩⟩, a4⟩ := q
  obtain ⟨g, m4, l1⟩ := ty_nat a4 (g := 4) (u := 8) rfl (by decide)
  exact ⟨ao_I a1, a2, fmc_lt rfl a3, a4, b1, ⟨c, g, fm_mF a3 rfl h3, m4, hc6, l1, fun _ => hc⟩, b2, b3⟩
theorem post_giftsn {x : pm_Rs} {o : ah} (hI : mInv h) (h3 : mF h 3 (.int (nI 0))) (e : ∃ as, ah_get bB o 162 = .inr (11, as) ∧ as[4]? = some (0, ((0 : Nat) : Int), ((0 : Nat) : Int))) (hlo : ah_le bB o [] = true) (q : (∃ a, a ∈ [some ((0, (-2147483648), 2147483647) : av)] ∧ ao_ok x.1 a) ∧ x.2.2 = (198, sl) ∧ (fm rxFg h x.2.1 ∧ rxQ1 x.2.1) ∧ ah_ok bB 198 o x.2.1) : mPost anInt h sl x := by
  obtain ⟨a1, a2, ⟨a3, ⟨b1, b2, b3⟩⟩, a4⟩ := q
  obtain ⟨as, e1, e2⟩ := e
  obtain ⟨g, m4, l1, l2⟩ := ov_nat a4 e1 e2 (by decide)
  exact ⟨ao_I a1, a2, fmc_lt rfl a3, ov_out a4 hlo, b1, ⟨0, g, fm_mF a3 rfl h3, m4, by omega, by omega, fun z => by omega⟩, b2, b3⟩
theorem hm_gifts (hI : mInv h) (hf : 500 ≤ fr) (hl : 12000 ≤ lo) : pm_WP PT fr lo 192 (0, pm_l0 [.ref 162] 6, [], h, 198, sl) (mPost anInt h sl) := by
  obtain ⟨q1, ⟨c, g, h3, h4, hc, hg, hcg⟩, q3⟩ := id hI.2
  have hQ : rxQ1 h := ⟨q1, q3⟩
  by_cases z : c = 0
  · subst z
    obtain rfl : g = 0 := by omega
    exact wp_mono (rxw_giftsn [.ref 162] h fr lo sl ⟨⟨rfl, List.mem_singleton_self _⟩, trivial⟩ (ov_34 (l := 0) (u := 0) (p := 0) (q := 0) hI.1 h3 (by omega) (by omega) (by omega) h4 (by omega) (by omega) (by omega) ⟨_, rfl, rfl⟩) hQ (Nat.le_trans (by decide) hf) (Nat.le_trans (by decide) hl)) (fun x q => post_giftsn hI h3 ⟨_, rfl, rfl⟩ (by decide +kernel) q)
  have : g = 0 ∨ g = 1 ∨ g = 2 ∨ g = 3 ∨ g = 4 ∨ g = 5 ∨ g = 6 ∨ g = 7 ∨ g = 8 := by omega
  rcases this with rfl | rfl | rfl | rfl | rfl | rfl | rfl | rfl | rfl
  · exact wp_mono (rxw_gifts0 [.ref 162] h fr lo sl ⟨⟨rfl, List.mem_singleton_self _⟩, trivial⟩ (ov_34 (l := 1) (u := 6) (p := 0) (q := 0) hI.1 h3 (by omega) (by omega) (by omega) h4 (by omega) (by omega) (by omega) ⟨_, rfl, rfl⟩) hQ (Nat.le_trans (by decide) hf) (Nat.le_trans (by decide) hl)) (fun x q => post_gifts (c := c) hI h3 (by omega) hc q)
  · exact wp_mono (rxw_gifts1 [.ref 162] h fr lo sl ⟨⟨rfl, List.mem_singleton_self _⟩, trivial⟩ (ov_34 (l := 1) (u := 6) (p := 1) (q := 1) hI.1 h3 (by omega) (by omega) (by omega) h4 (by omega) (by omega) (by omega) ⟨_, rfl, rfl⟩) hQ (Nat.le_trans (by decide) hf) (Nat.le_trans (by decide) hl)) (fun x q => post_gifts (c := c) hI h3 (by omega) hc q)
  · exact wp_mono (rxw_gifts2 [.ref 162] h fr lo sl ⟨⟨rfl, List.mem_singleton_self _⟩, trivial⟩ (ov_34 (l := 1) (u := 6) (p := 2) (q := 2) hI.1 h3 (by omega) (by omega) (by omega) h4 (by omega) (by omega) (by omega) ⟨_, rfl, rfl⟩) hQ (Nat.le_trans (by decide) hf) (Nat.le_trans (by decide) hl)) (fun x q => post_gifts (c := c) hI h3 (by omega) hc q)
  · exact wp_mono (rxw_gifts3 [.ref 162] h fr lo sl ⟨⟨rfl, List.mem_singleton_self _⟩, trivial⟩ (ov_34 (l := 1) (u := 6) (p := 3) (q := 3) hI.1 h3 (by omega) (by omega) (by omega) h4 (by omega) (by omega) (by omega) ⟨_, rfl, rfl⟩) hQ (Nat.le_trans (by decide) hf) (Nat.le_trans (by decide) hl)) (fun x q => post_gifts (c := c) hI h3 (by omega) hc q)
  · exact wp_mono (rxw_gifts4 [.ref 162] h fr lo sl ⟨⟨rfl, List.mem_singleton_self _⟩, trivial⟩ (ov_34 (l := 1) (u := 6) (p := 4) (q := 4) hI.1 h3 (by omega) (by omega) (by omega) h4 (by omega) (by omega) (by omega) ⟨_, rfl, rfl⟩) hQ (Nat.le_trans (by decide) hf) (Nat.le_trans (by decide) hl)) (fun x q => post_gifts (c := c) hI h3 (by omega) hc q)
  · exact wp_mono (rxw_gifts5 [.ref 162] h fr lo sl ⟨⟨rfl, List.mem_singleton_self _⟩, trivial⟩ (ov_34 (l := 1) (u := 6) (p := 5) (q := 5) hI.1 h3 (by omega) (by omega) (by omega) h4 (by omega) (by omega) (by omega) ⟨_, rfl, rfl⟩) hQ (Nat.le_trans (by decide) hf) (Nat.le_trans (by decide) hl)) (fun x q => post_gifts (c := c) hI h3 (by omega) hc q)
  · exact wp_mono (rxw_gifts6 [.ref 162] h fr lo sl ⟨⟨rfl, List.mem_singleton_self _⟩, trivial⟩ (ov_34 (l := 1) (u := 6) (p := 6) (q := 6) hI.1 h3 (by omega) (by omega) (by omega) h4 (by omega) (by omega) (by omega) ⟨_, rfl, rfl⟩) hQ (Nat.le_trans (by decide) hf) (Nat.le_trans (by decide) hl)) (fun x q => post_gifts (c := c) hI h3 (by omega) hc q)
  · exact wp_mono (rxw_gifts7 [.ref 162] h fr lo sl ⟨⟨rfl, List.mem_singleton_self _⟩, trivial⟩ (ov_34 (l := 1) (u := 6) (p := 7) (q := 7) hI.1 h3 (by omega) (by omega) (by omega) h4 (by omega) (by omega) (by omega) ⟨_, rfl, rfl⟩) hQ (Nat.le_trans (by decide) hf) (Nat.le_trans (by decide) hl)) (fun x q => post_gifts (c := c) hI h3 (by omega) hc q)
  · exact wp_mono (rxw_gifts8 [.ref 162] h fr lo sl ⟨⟨rfl, List.mem_singleton_self _⟩, trivial⟩ (ov_34 (l := 1) (u := 6) (p := 8) (q := 8) hI.1 h3 (by omega) (by omega) (by omega) h4 (by omega) (by omega) (by omega) ⟨_, rfl, rfl⟩) hQ (Nat.le_trans (by decide) hf) (Nat.le_trans (by decide) hl)) (fun x q => post_gifts (c := c) hI h3 (by omega) hc q)
end MPW
end MG77answerx1
section MG77answerx2
/-! fields that a set of methods never writes: by their code alone -/
section SFF
variable {fr lo k pc sz sl : Nat} {L : pm_L} {S : List Value} {h : pm_H} {st' : pm_St} {P : Nat → Nat → Bool}
def sfF (P : Nat → Nat → Bool) : fr_F := (fun _ => false, P)
def sf_i (P : Nat → Nat → Bool) (k : Nat) (i : Instr) : Bool := match i with
  | .putfield j => (match pm_fld PT (pm_o PT k) j with
    | some (ci, f, _) => !(P ci f)
    | none => false)
  | .aastore | .newarray _ | .anewarray _ | .new _ => false
  | .invokespecial j => (match pm_mlk PT (pm_o PT k) j with
    | some (9, _) => false
    | _ => true)
  | _ => true
theorem sf_simple {i : Instr} (hw : sf_i P k i = true) (hh : pm_simple PT fr lo k i pc L S h sz sl = some st') : fm (sfF P) h st'.2.2.2.1 := by
  have none9 : ∀ j, (i = .invokestatic j ∨ i = .invokespecial j) → (∀ w x, pm_mlk PT (pm_o PT k) j = some (w, x) → w ≠ 9) → fm (sfF P) h st'.2.2.2.1 := by
    intro j hj hm
    have e := pm_simple_nw (T := PT) (k := k) (i := i) (by rcases hj with rfl | rfl <;> rfl) (fun j' w x hj' e => by
      have : j' = j := by
        rcases hj with rfl | rfl <;> rcases hj' with q | q <;> cases q <;> rfl
      subst this
      exact hm w x e) hh
    rw [e]
    exact fm_rf h
  cases i
  case putfield j =>
    dsimp only [pm_simple] at hh
    unfold pm_pf at hh
    split at hh
    · rename_i v a r
      split at hh
      · rename_i ci fs cj f t e1 e2
        split at hh
        · rename_i hc
          cases hh
          dsimp only [sf_i] at hw
          rw [e2] at hw
          dsimp only at hw
          have hci := hc.1
          subst hci
          exact fm_fld rfl (pm_obj_inv e1).2 (show P _ f = false by simpa using hw)
        · cases hh
      · cases hh
    · cases hh
  case iastore => exact pm_iS_fm (ty := .int) (nr := fun x => x) hh (fun x i p r e => rfl)
  case castore => exact pm_iS_fm (ty := .char) (nr := fun x => vp_nar .char x) hh (fun x i p r e => rfl)
  case bastore => exact pm_iS_fm (ty := .boolean) (nr := fun x => vp_nar .boolean x) hh (fun x i p r e => rfl)
  case lastore => exact pm_lS_fm hh (fun x i p r e => rfl)
  case invokespecial j =>
    refine none9 j (Or.inr rfl) (fun w x e q => ?_)
    subst q
    dsimp only [sf_i] at hw
    rw [e] at hw
    cases hw
  case invokestatic j =>
    cases em : pm_mlk PT (pm_o PT k) j with
    | none => exact none9 j (Or.inl rfl) (fun w x e => by rw [em] at e; cases e)
    | some wx =>
      obtain ⟨w, x⟩ := wx
      by_cases h9 : w = 9
      · subst h9
        have hh : pm_libW PT false fr lo k j pc L S h sz sl = some st' := hh
        unfold pm_libW at hh
        rw [em] at hh
        dsimp only at hh
        split at hh
        · unfold pm_lib at hh
          split at hh
          · exfalso; first | omega | (simp at *; done)
          · exfalso; first | omega | (simp at *; done)
          · exfalso; first | omega | (simp at *; done)
          · rename_i n dp a sp a0 r _
            split at hh
            · rename_i e1 e2
              split at hh
              · cases hh
                exact fm_arr rfl ⟨_, (pm_iar_inv e2).2.1⟩
              · cases hh
            · cases hh
          · cases hh
        · cases hh
      · exact none9 j (Or.inl rfl) (fun w' x' e => by rw [em] at e; cases e; exact h9)
  all_goals first
    | (cases hw; done)
    | (have e := pm_simple_nw (T := PT) (k := k) rfl (fun j w x hj _ => by rcases hj with q | q <;> cases q) hh
       rw [e]
       exact fm_rf h)
/-- K is closed, and nothing in it writes a field of P -/
def sf_ok (P : Nat → Nat → Bool) (K : Nat → Bool) : Prop := ∀ k pc i len, K k = true → pm_ins PT k pc = some (i, len) → sf_i P k i = true ∧ ∀ w t, pm_callee PT k i = some (w, t) → K t = true
theorem sf_run {K : Nat → Bool} (hK : sf_ok P K) : ∀ (n fr lo k : Nat) (st : pm_St) (r : pm_Rs), K k = true → pm_run PT n fr lo k st = some r → fm (sfF P) st.2.2.2.1 r.2.1
  | 0, _, _, _, _, _, _, h => by cases h
  | n + 1, fr, lo, k, st, r, hk, h => by
    unfold pm_run at h
    split at h
    · rename_i r' e1
      cases h
      unfold pm_end at e1
      split at e1
      · cases e1
      · split at e1
        · split at e1
          · cases e1; exact fm_rf _
          · cases e1
        · cases e1
    · split at h
      · rename_i st' e2
        have ih := sf_run hK n fr lo k st' r hk h
        refine fm_tr ?_ ih
        unfold pm_step at e2
        split at e2
        · cases e2
        · rename_i i len ei
          obtain ⟨n1, n2⟩ := hK k _ i len hk ei
          split at e2
          · split at e2
            · rename_i w t ec
              split at e2
              · split at e2
                · rename_i rv h1 sz1 sl1 e3
                  cases e2
                  exact sf_run hK n _ _ t (0, pm_l0 (st.2.2.1.take (pm_na PT t)).reverse (pm_max PT t), [], st.2.2.2.1, st.2.2.2.2.1, st.2.2.2.2.2) (rv, h1, sz1, sl1) (n2 w t ec) e3
                · cases e2
              · cases e2
            · exact sf_simple n1 e2
          · cases e2
      · cases h
theorem sf_wp {K : Nat → Bool} (hK : sf_ok P K) {st : pm_St} {Q : pm_Rs → Prop} (hk : K k = true) (q : pm_WP PT fr lo k st Q) : pm_WP PT fr lo k st (fun x => Q x ∧ fm (sfF P) st.2.2.2.1 x.2.1) := by
  obtain ⟨n, r, h1, h2⟩ := q
  exact ⟨n, r, h1, h2, sf_run hK n fr lo k st r hk h1⟩
def sf_c (P : Nat → Nat → Bool) (K : Nat → Bool) (k : Nat) (i : Instr) : Bool := sf_i P k i && (match pm_callee PT k i with
  | some (_, t) => K t
  | none => true)
def sf_b (P : Nat → Nat → Bool) (K : Nat → Bool) (k : Nat) : Bool := match pd_a2 k with
  | some e => e.2.all (fun c => c.all (fun x => sf_c P K k x.2.1))
  | none => true
theorem sf_of {K : Nat → Bool} {N : List Nat} (hN : ∀ k, K k = true → k ∈ N) (hb : N.all (sf_b P K) = true) : sf_ok P K := by
  intro k pc i len hk hi
  have hb := List.all_eq_true.mp hb k (hN k hk)
  have hi : pd_ins k pc = some (i, len) := hi
  unfold pd_ins at hi
  unfold sf_b at hb
  split at hi
  · rename_i e ee
    rw [ee] at hb
    dsimp only at hb
    unfold pm_ch at hi
    split at hi
    · rename_i c ec
      have h1 := List.all_eq_true.mp (List.all_eq_true.mp hb c (pm_nth_mem ec)) _ (pm_fd_mem hi)
      unfold sf_c at h1
      rw [Bool.and_eq_true] at h1
      obtain ⟨a1, a2⟩ := h1
      dsimp only at a1 a2
      refine ⟨a1, fun w t ht => ?_⟩
      rw [ht] at a2
      exact a2
    · cases hi
  · cases hi
/-- all but some: those are never called -/
def sf_X (X : List Nat) (k : Nat) : Bool := Nat.blt k 271 && !(X.any (fun x => Nat.beq x k))
theorem sf_X_in {X : List Nat} (k : Nat) (h : sf_X X k = true) : k ∈ (List.range 271).filter (fun k => !(X.any (fun x => Nat.beq x k))) := by
  unfold sf_X at h
  rw [Bool.and_eq_true] at h
  exact List.mem_filter.mpr ⟨List.mem_range.mpr (by have := Nat.le_of_ble_eq_true h.1; omega), h.2⟩
end SFF
end MG77answerx2
