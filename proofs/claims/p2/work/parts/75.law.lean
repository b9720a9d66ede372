/-! law, by hand -/
section LAW
variable {fr lo sl : Nat} {h : pm_H} {Q : pm_Rs → Prop}
theorem hm_va (hI : mInv h) (hf : 75 ≤ fr) (hl : 4000 ≤ lo) : pm_WP PT fr lo 257 (0, pm_l0 [.ref 162] 3, [], h, 198, sl) (fun x => ∃ (v : Int32) (h' : pm_H), x = (some (.int v), h', 198, sl) ∧ fm rxF h h' ∧ mInv h') := by
  have key := rxoVA [.ref 162] h fr lo sl ⟨⟨rfl, List.mem_singleton_self _⟩, trivial⟩ hI.1 hI.2 hf hl
  refine wp_mono key ?_
  rintro ⟨v, h', s⟩ ⟨⟨a, ha, hv⟩, e, ⟨f1, f2⟩, f3⟩
  cases List.mem_singleton.mp ha
  cases e
  obtain ⟨v⟩ | v := v
  · exact hv.elim
  · obtain ⟨x, rfl, -⟩ := av_int (a := (0, (-2147483648), 2147483647)) rfl hv
    exact ⟨x, h', rfl, f1, f3, f2⟩
def o1G (g : Nat) : Bool := Nat.beq g 1
def o3C (i : Nat) : Bool := Nat.beq i 163
theorem mInv_1 {k : Nat} {h' : pm_H} (hI : mInv h) (d : dD o3C o1G h h') (h1 : mF h' 1 (.int (nI k))) (hk : k ≤ 100) (hL : ∃ R : Nat → Int64, h' 163 = .inl (2, 128, .inr (.inl R))) : mInv h' := by
  refine ⟨dD_ty hI.1 d (fun i hi _ _ => ?_) (fun g hg b hb => ?_), rxQ_dD d rfl rfl rfl rfl rfl rfl hI.2⟩
  · have := Nat.eq_of_beq_eq_true hi
    subst this
    obtain ⟨R, e⟩ := hL
    show ac_ok (h' 163) _
    rw [e]
    exact ⟨rfl, rfl, fun j _ => al_top_ok _⟩
  · have := Nat.eq_of_beq_eq_true hg
    subst this
    cases (Option.some.inj hb : _ = b)
    exact ⟨_, h1, av_nI (by omega) (by omega) (by omega)⟩
theorem mInv_s1 (hI : mInv h) {k : Nat} (hk : k ≤ 100) : mInv (mset h 1 (.int (nI k))) := by
  obtain ⟨x1, h1, -⟩ := ty_fld hI.1 (g := 1) rfl
  obtain ⟨R, hL⟩ := ty_lar hI.1
  exact mInv_1 hI (dD_set rfl) (mF_self h1) hk ⟨R, by rw [mset_ne (by decide)]; exact hL⟩
theorem hm_enters {k : Nat} (hI : mInv h) (v : Int64) (h1 : mF h 1 (.int (nI k))) (hk : k < 100) : pm_WP PT fr lo 167 (0, pm_l0 [.ref 162, .long v] 3, [], h, 198, sl) (fun x => ∃ h' : pm_H, x = (none, h', 198, sl) ∧ mInv h' ∧ mF h' 1 (.int (nI (k + 1))) ∧ ∀ i, i < 162 → h' i = h i) := by
  obtain ⟨R, hL⟩ := ty_lar hI.1
  refine wp_mono (hd_enters v h1 (by omega) (ty_ref hI.1 (g := 2) (p := 163) rfl) hL) ?_
  rintro _ rfl
  have d : dD o3C o1G h (mset (lset h 163 128 (vp_updL R k v)) 1 (.int (nI (k + 1)))) := dD_tr (dD_lset rfl (by decide)) (dD_set rfl)
  have m1 : mF (mset (lset h 163 128 (vp_updL R k v)) 1 (.int (nI (k + 1)))) 1 (.int (nI (k + 1))) := mF_self (mF_ls (by decide) h1)
  exact ⟨_, rfl, mInv_1 hI d m1 (by omega) ⟨_, by rw [mset_ne (by decide), lset_self]⟩, m1, x_lt d (fun i hi => nb_ne (by omega))⟩
def lwC (i : Nat) : Bool := Nat.beq i 193 || Nat.beq i 174
def lwG (g : Nat) : Bool := Nat.beq g 23
/-- other code laid -/
theorem mInv_code {n dn : Nat} {h' : pm_H} {g s : Nat → Int32} (hI : mInv h) (d : dD lwC lwG h h') (h23 : mF h' 23 (.int (nI n))) (hC : h' 174 = .inl (0, 80, .inl g)) (hS : h' 193 = .inl (0, 80, .inl s)) (hn : n ≤ 80) (hd : n = 0 ∨ (dep g n = some dn ∧ 1 ≤ dn)) : mInv h' := by
  refine ⟨dD_ty hI.1 d (fun i hi _ _ => ?_) (fun k hg b hb => ?_), ?_⟩
  · unfold lwC at hi
    rw [Bool.or_eq_true] at hi
    rcases hi with hi | hi
    · have := Nat.eq_of_beq_eq_true hi
      subst this
      show ac_ok (h' 193) _
      rw [hS]
      exact ⟨rfl, rfl, fun j _ => ai_top_ok _⟩
    · have := Nat.eq_of_beq_eq_true hi
      subst this
      show ac_ok (h' 174) _
      rw [hC]
      exact ⟨rfl, rfl, fun j _ => ai_top_ok _⟩
  · have := Nat.eq_of_beq_eq_true hg
    subst this
    cases (Option.some.inj hb : _ = b)
    exact ⟨_, h23, av_nI (by omega) (by omega) (by omega)⟩
  · obtain ⟨-, ⟨c, gg, b1, b2, b3⟩, ⟨f1, r1, r2⟩, f2, r3, r4⟩ := hI.2
    exact ⟨⟨n, dn, g, h23, hC, hn, hd⟩, ⟨c, gg, dD_mF d rfl b1, dD_mF d rfl b2, b3⟩, ⟨f1, (d.1 178 (by decide) rfl).trans r1, r2⟩, f2, (d.1 196 (by decide) rfl).trans r3, r4⟩
theorem fm_lt {h h' : pm_H} (q : fm rxF h h') : ∀ i, i < 162 → h' i = h i := fun i hi => q.1 i (by
  show rxC i = true
  unfold rxC
  have : Nat.blt i 162 = true := Nat.ble_eq_true_of_le hi
  rw [this]
  rfl)
theorem lw_L {n : Nat} {f v : Int32} {cd : Nat → Int32} (h23 : mF h 23 (.int (nI n))) (h50 : mF h 50 (.ref 193)) (h21 : mF h 21 (.ref 174)) (hC : h 174 = .inl (0, 80, .inl cd)) (hn : n ≤ 80) (kk : ∀ g : Nat → Int32, (∀ j, j < n → g j = cd j) → pm_WP PT fr lo 258 (64, [some (.ref 162), some (.int f), some (.int v), some (.int (nI n)), some (.int (nI n))], [], aset h 193 80 g, 198, sl) Q) : ∀ (m k : Nat) (g : Nat → Int32), k + m = n → (∀ j, j < k → g j = cd j) → pm_WP PT fr lo 258 (35, [some (.ref 162), some (.int f), some (.int v), some (.int (nI n)), some (.int (nI k))], [], aset h 193 80 g, 198, sl) Q := by
  intro m
  induction m with
  | zero =>
    intro k g hk e1
    obtain rfl : k = n := by omega
    refine wp_i rfl rfl rfl rfl ?_
    refine wp_i rfl rfl rfl rfl ?_
    show pm_WP PT fr lo 258 (38, [some (.ref 162), some (.int f), some (.int v), some (.int (nI k)), some (.int (nI k))], [.ref 162, .int (nI k)], (aset h 193 80 g), 198, sl) _
    refine wp_gfm rfl rfl (mF_as (by decide) h23) ?_
    show pm_WP PT fr lo 258 (41, [some (.ref 162), some (.int f), some (.int v), some (.int (nI k)), some (.int (nI k))], [.int (nI k), .int (nI k)], (aset h 193 80 g), 198, sl) _
    refine wp_icmp (c := .ge) (off := 23) (t := 64) rfl rfl (fun _ => ?_) (fun q => absurd (q.symm.trans ((hI_ge (by omega) (by omega)).trans (decide_eq_true (by omega)))) (by decide))
    show pm_WP PT fr lo 258 (64, [some (.ref 162), some (.int f), some (.int v), some (.int (nI k)), some (.int (nI k))], [], (aset h 193 80 g), 198, sl) _
    exact kk g e1
  | succ m ih =>
    intro k g hk e1
    refine wp_i rfl rfl rfl rfl ?_
    refine wp_i rfl rfl rfl rfl ?_
    show pm_WP PT fr lo 258 (38, [some (.ref 162), some (.int f), some (.int v), some (.int (nI n)), some (.int (nI k))], [.ref 162, .int (nI k)], (aset h 193 80 g), 198, sl) _
    refine wp_gfm rfl rfl (mF_as (by decide) h23) ?_
    show pm_WP PT fr lo 258 (41, [some (.ref 162), some (.int f), some (.int v), some (.int (nI n)), some (.int (nI k))], [.int (nI n), .int (nI k)], (aset h 193 80 g), 198, sl) _
    refine wp_icmp (c := .ge) (off := 23) (t := 64) rfl rfl (fun q => absurd (q.symm.trans ((hI_ge (by omega) (by omega)).trans (decide_eq_false (by omega)))) (by decide)) (fun _ => ?_)
    refine wp_i rfl rfl rfl rfl ?_
    show pm_WP PT fr lo 258 (45, [some (.ref 162), some (.int f), some (.int v), some (.int (nI n)), some (.int (nI k))], [.ref 162], (aset h 193 80 g), 198, sl) _
    refine wp_gfm rfl rfl (mF_as (by decide) h50) ?_
    refine wp_i rfl rfl rfl rfl ?_
    refine wp_i rfl rfl rfl rfl ?_
    show pm_WP PT fr lo 258 (51, [some (.ref 162), some (.int f), some (.int v), some (.int (nI n)), some (.int (nI k))], [.ref 162, .int (nI k), .ref 193], (aset h 193 80 g), 198, sl) _
    refine wp_gfm rfl rfl (mF_as (by decide) h21) ?_
    refine wp_i rfl rfl rfl rfl ?_
    show pm_WP PT fr lo 258 (56, [some (.ref 162), some (.int f), some (.int v), some (.int (nI n)), some (.int (nI k))], [.int (nI k), .ref 174, .int (nI k), .ref 193], (aset h 193 80 g), 198, sl) _
    refine wp_iam rfl (aset_ne (by decide) hC) (hI_in (by omega) (by omega)) (by decide) ?_
    rw [nI_clamp (by omega)]
    show pm_WP PT fr lo 258 (57, [some (.ref 162), some (.int f), some (.int v), some (.int (nI n)), some (.int (nI k))], [.int (cd k), .int (nI k), .ref 193], (aset h 193 80 g), 198, sl) _
    show pm_WP PT fr lo 258 (57, [some (.ref 162), some (.int f), some (.int v), some (.int (nI n)), some (.int (nI k))], [.int (cd k), .int (nI k), .ref 193], (aset h 193 80 g), 198, sl) _
    refine wp_ism rfl (aset_self _ _ _ _) (hI_in (by omega) (by omega)) (by decide) ?_
    rw [nI_clamp (by omega)]
    refine wp_i rfl rfl rfl rfl ?_
    refine wp_i rfl rfl rfl rfl ?_
    show pm_WP PT fr lo 258 (35, [some (.ref 162), some (.int f), some (.int v), some (.int (nI n)), some (.int (nI k + 1))], [], (aset (aset h 193 80 g) 193 80 (upd g k (cd k))), 198, sl) _
    rw [nI_1 k, aset_aset]
    refine ih (k + 1) _ (by omega) (fun j hj => ?_)
    by_cases e : j = k
    · subst e
      simp only [upd, if_true]
    · simp only [upd, if_neg e]
      exact e1 j (by omega)
theorem hm_law (hI : mInv h) (hf : 500 ≤ fr) (hl : 12000 ≤ lo) : pm_WP PT fr lo 258 (0, pm_l0 [.ref 162] 5, [], h, 198, sl) (mPost anInt h sl) := by
  obtain ⟨hh, hq⟩ := id hI
  obtain ⟨x0, h0, -⟩ := ty_fld hh (g := 0) rfl
  obtain ⟨n0, h15, hn0⟩ := ty_nat hh (g := 15) (u := 80) rfl (by decide)
  obtain ⟨x16, h16, -⟩ := ty_fld hh (g := 16) rfl
  obtain ⟨x17, h17, -⟩ := ty_fld hh (g := 17) rfl
  obtain ⟨x18, h18, -⟩ := ty_fld hh (g := 18) rfl
  obtain ⟨x24, h24, -⟩ := ty_fld hh (g := 24) rfl
  have h14 := ty_ref hh (g := 14) (p := 172) rfl
  have h22 := ty_ref hh (g := 22) (p := 175) rfl
  obtain ⟨tp, hA, -⟩ := ty_arr hh (i := 172) (by decide) rfl rfl (by decide)
  obtain ⟨rc, hR, -⟩ := ty_arr hh (i := 175) (by decide) rfl rfl (by decide)
  obtain ⟨cd0, hC0, -⟩ := ty_arr hh (i := 174) (by decide) rfl rfl (by decide)
  refine wp_i rfl rfl rfl rfl ?_
  refine wp_i rfl rfl rfl rfl ?_
  show pm_WP PT fr lo 258 (2, [some (.ref 162), none, none, none, none], [.int 0, .ref 162], h, 198, sl) _
  refine wp_pfm rfl rfl rfl (by decide) h0 ?_
  refine wp_i rfl rfl rfl rfl ?_
  show pm_WP PT fr lo 258 (6, [some (.ref 162), none, none, none, none], [.ref 162], (mset h 0 (.int 0)), 198, sl) _
  refine wp_callM (t := 196) (As := []) (rest := []) (mx := 3) rfl rfl rfl rfl (Nat.le_of_ble_eq_true rfl) (Nat.le_of_ble_eq_true rfl) (by omega) (by omega) rfl (mF_obj (mF_self h0)) (wp_mono (hd_readsRule (n := n0) (mF_ne (by decide) h15) (mF_ne (by decide) h16) (mF_ne (by decide) h17) (mF_ne (by decide) h18) (mF_ne (by decide) h24) (mF_ne (by decide) h14) (mset_arr (by decide) hA) (mF_ne (by decide) h22) (mset_arr (by decide) hR) hn0 (by omega) (by omega)) ?_)
  rintro _ ⟨f, h2, a, t, nn, c, rc2, tp2, rfl, d2, s2, m15, ha, ht, hnn, hc, f1, f2, f3⟩
  obtain ⟨p1, p2, p3, p4, p5, p6, p7, p8⟩ := s2
  have d0 : dD ruC ruG h h2 := dD_tr (dD_set rfl) (dD_mono d2 (fun i q => by unfold ruC at q; rw [Bool.or_eq_false_iff] at q; exact q.1) (fun g q => by unfold ruG at q; rw [Bool.or_eq_false_iff, Bool.or_eq_false_iff] at q; exact q.2.2))
  have m0 : mF h2 0 (.int 0) := dD_mF d2 rfl (mF_self h0)
  obtain ⟨x23, h23, v23⟩ := ty_fld hh (g := 23) rfl
  have m23 : mF h2 23 x23 := dD_mF d2 rfl (mF_ne (by decide) h23)
  have mC : h2 174 = .inl (0, 80, .inl cd0) := (d2.1 174 (by decide) rfl).trans (mset_arr (by decide) hC0)
  have dq : dD rDC (fun g => Nat.beq g 0 || rDG g) h h2 := dD_tr (dD_set rfl) (dD_mono d2 (fun _ q => q) (fun g q => by rw [Bool.or_eq_false_iff] at q; exact q.2))
  have hI2 : mInv h2 := ⟨dD_ty hh d0 (fun i hi _ _ => ru_cell hi p8 mC) (fun g hg b hb => ru_fld hg hb m0 m15 p1 p2 p5 p6 m23 v23 ha ht hnn hc), rxQ_dD dq rfl rfl rfl rfl rfl rfl hq⟩
  have l2 : ∀ i, i < 162 → h2 i = h i := x_lt d0 (fun i hi => ruC_lt hi)
  refine wp_i rfl rfl rfl rfl ?_
  refine wp_i rfl rfl rfl rfl ?_
  show pm_WP PT fr lo 258 (11, [some (.ref 162), some (.int f), none, none, none], [.int f], h2, 198, sl) _
  refine wp_if (c := .ge) (off := 11) (t := 22) rfl rfl (fun q => ?_) (fun q => ?_)
  · have q : 0 ≤ f.toInt := by
      have : (0 : Int32) ≤ f := of_decide_eq_true q
      rw [Int32.le_iff_toInt_le] at this
      exact this
    have e0 : f = 0 := by
      obtain ⟨j, rfl, -, e⟩ := hI_of q
      obtain rfl : j = 0 := by omega
      rfl
    refine wp_i rfl rfl rfl rfl ?_
    show pm_WP PT fr lo 258 (23, [some (.ref 162), some (.int f), none, none, none], [.ref 162], h2, 198, sl) _
    refine wp_callM (t := 257) (As := []) (rest := []) (mx := 3) rfl rfl rfl rfl (Nat.le_of_ble_eq_true rfl) (Nat.le_of_ble_eq_true rfl) (by omega) (by omega) rfl (mF_obj m0) (wp_mono (hm_va hI2 (by omega) (by omega)) ?_)
    rintro _ ⟨v, h3, rfl, q3, hI3⟩
    obtain ⟨n, dn, cd, m23, hC, hn, hdn⟩ := id hI3.2.1
    have m21 := ty_ref hI3.1 (g := 21) (p := 174) rfl
    have m22 := ty_ref hI3.1 (g := 22) (p := 175) rfl
    have m50 := ty_ref hI3.1 (g := 50) (p := 193) rfl
    have m24 : mF h3 24 (.int (nI c)) := fm_mF q3 rfl p6
    have m175 : h3 175 = .inl (0, 80, .inl rc2) := (q3.1 175 rfl).trans p8
    obtain ⟨g0, hS0, -⟩ := ty_arr hI3.1 (i := 193) (by decide) rfl rfl (by decide)
    refine wp_i rfl rfl rfl rfl ?_
    refine wp_i rfl rfl rfl rfl ?_
    show pm_WP PT fr lo 258 (28, [some (.ref 162), some (.int f), some (.int v), none, none], [.ref 162], h3, 198, sl) _
    refine wp_gfm rfl rfl m23 ?_
    refine wp_i rfl rfl rfl rfl ?_
    refine wp_i rfl rfl rfl rfl ?_
    refine wp_i rfl rfl rfl rfl ?_
    show pm_WP PT fr lo 258 (35, [some (.ref 162), some (.int f), some (.int v), some (.int (nI n)), some (.int 0)], [], h3, 198, sl) _
    rw [← aset_same hS0]
    refine lw_L m23 m50 m21 hC hn (fun g eg => ?_) n 0 g0 (by omega) (fun j hj => by omega)
    refine wp_i rfl rfl rfl rfl ?_
    refine wp_i rfl rfl rfl rfl ?_
    show pm_WP PT fr lo 258 (66, [some (.ref 162), some (.int f), some (.int v), some (.int (nI n)), some (.int (nI n))], [.ref 162, .ref 162], (aset h3 193 80 g), 198, sl) _
    refine wp_gfm rfl rfl (mF_as (by decide) m22) ?_
    refine wp_i rfl rfl rfl rfl ?_
    show pm_WP PT fr lo 258 (70, [some (.ref 162), some (.int f), some (.int v), some (.int (nI n)), some (.int (nI n))], [.ref 162, .ref 175, .ref 162], (aset h3 193 80 g), 198, sl) _
    refine wp_gfm rfl rfl (mF_as (by decide) m24) ?_
    show pm_WP PT fr lo 258 (73, [some (.ref 162), some (.int f), some (.int v), some (.int (nI n)), some (.int (nI n))], [.int (nI c), .ref 175, .ref 162], (aset h3 193 80 g), 198, sl) _
    refine wp_callM (t := 197) (As := [.ref 175, .int (nI c)]) (rest := []) (mx := 4) rfl rfl rfl rfl (Nat.le_of_ble_eq_true rfl) (Nat.le_of_ble_eq_true rfl) (by omega) (by omega) rfl (mF_obj (mF_as (by decide) m22)) (wp_mono (hd_lays175 (f := rc2) (g := cd) (n := c) (by omega) (mF_as (by decide) m23) (mF_as (by decide) m21) (aset_ne (by decide) m175) (aset_ne (by decide) hC)) ?_)
    rintro _ ⟨g2, rfl, eg2⟩
    have d5 : dD lwC lwG h3 (aset (mset (aset h3 193 80 g) 23 (.int (nI c))) 174 80 g2) := dD_tr (dD_tr (dD_arr rfl (by decide)) (dD_set rfl)) (dD_arr rfl (by decide))
    have s5 : (aset (mset (aset h3 193 80 g) 23 (.int (nI c))) 174 80 g2) 193 = .inl (0, 80, .inl g) := aset_ne (by decide) (mset_arr (by decide) (aset_self _ _ _ _))
    have hI5 : mInv (aset (mset (aset h3 193 80 g) 23 (.int (nI c))) 174 80 g2) := mInv_code (dn := 1) hI3 d5 (mF_as (by decide) (mF_self (mF_as (by decide) m23))) (aset_self _ _ _ _) s5 (by omega) ((f3 e0).imp id (fun e => ⟨by rw [dep_cong eg2]; exact e, Nat.le_refl _⟩))
    have l5 : ∀ i, i < 162 → (aset (mset (aset h3 193 80 g) 23 (.int (nI c))) 174 80 g2) i = h3 i := x_lt d5 (fun i hi => by unfold lwC; rw [nb_ne (by omega), nb_ne (by omega)]; rfl)
    show pm_WP PT fr lo 258 (76, [some (.ref 162), some (.int f), some (.int v), some (.int (nI n)), some (.int (nI n))], [], (aset (mset (aset h3 193 80 g) 23 (.int (nI c))) 174 80 g2), 198, sl) _
    generalize aset (mset (aset h3 193 80 g) 23 (.int (nI c))) 174 80 g2 = h5 at hI5 s5 l5 ⊢
    obtain ⟨y0, y0m, -⟩ := ty_fld hI5.1 (g := 0) rfl
    refine wp_i rfl rfl rfl rfl ?_
    show pm_WP PT fr lo 258 (77, [some (.ref 162), some (.int f), some (.int v), some (.int (nI n)), some (.int (nI n))], [.ref 162], h5, 198, sl) _
    refine wp_callM (t := 257) (As := []) (rest := []) (mx := 3) rfl rfl rfl rfl (Nat.le_of_ble_eq_true rfl) (Nat.le_of_ble_eq_true rfl) (by omega) (by omega) rfl (mF_obj y0m) (wp_mono (hm_va hI5 (by omega) (by omega)) ?_)
    rintro _ ⟨u, h6, rfl, q6, hI6⟩
    obtain ⟨n6, dn6, cd6, k23, kC, -⟩ := id hI6.2.1
    have k21 := ty_ref hI6.1 (g := 21) (p := 174) rfl
    have k50 := ty_ref hI6.1 (g := 50) (p := 193) rfl
    have k193 : h6 193 = .inl (0, 80, .inl g) := (q6.1 193 rfl).trans s5
    refine wp_i rfl rfl rfl rfl ?_
    refine wp_i rfl rfl rfl rfl ?_
    refine wp_i rfl rfl rfl rfl ?_
    show pm_WP PT fr lo 258 (84, [some (.ref 162), some (.int f), some (.int v), some (.int (nI n)), some (.int u)], [.ref 162, .ref 162], h6, 198, sl) _
    refine wp_gfm rfl rfl k50 ?_
    refine wp_i rfl rfl rfl rfl ?_
    show pm_WP PT fr lo 258 (88, [some (.ref 162), some (.int f), some (.int v), some (.int (nI n)), some (.int u)], [.int (nI n), .ref 193, .ref 162], h6, 198, sl) _
    refine wp_callM (t := 197) (As := [.ref 193, .int (nI n)]) (rest := []) (mx := 4) rfl rfl rfl rfl (Nat.le_of_ble_eq_true rfl) (Nat.le_of_ble_eq_true rfl) (by omega) (by omega) rfl (mF_obj k23) (wp_mono (hd_lays193 (f := g) (g := cd6) (n := n) hn k23 k21 k193 kC) ?_)
    rintro _ ⟨g7, rfl, eg7⟩
    have d7 : dD lwC lwG h6 (aset (mset h6 23 (.int (nI n))) 174 80 g7) := dD_tr (dD_set rfl) (dD_arr rfl (by decide))
    have hI7 : mInv (aset (mset h6 23 (.int (nI n))) 174 80 g7) := mInv_code (dn := dn) hI6 d7 (mF_as (by decide) (mF_self k23)) (aset_self _ _ _ _) (aset_ne (by decide) (mset_arr (by decide) k193)) hn (hdn.imp id (fun e => ⟨by rw [dep_cong (fun j hj => (eg7 j hj).trans (eg j hj))]; exact e.1, e.2⟩))
    have l7 : ∀ i, i < 162 → (aset (mset h6 23 (.int (nI n))) 174 80 g7) i = h6 i := x_lt d7 (fun i hi => by unfold lwC; rw [nb_ne (by omega), nb_ne (by omega)]; rfl)
    show pm_WP PT fr lo 258 (91, [some (.ref 162), some (.int f), some (.int v), some (.int (nI n)), some (.int u)], [], (aset (mset h6 23 (.int (nI n))) 174 80 g7), 198, sl) _
    generalize aset (mset h6 23 (.int (nI n))) 174 80 g7 = h7 at hI7 l7 ⊢
    obtain ⟨x1, y1, -⟩ := ty_fld hI7.1 (g := 1) rfl
    refine wp_i rfl rfl rfl rfl ?_
    refine wp_i rfl rfl rfl rfl ?_
    show pm_WP PT fr lo 258 (93, [some (.ref 162), some (.int f), some (.int v), some (.int (nI n)), some (.int u)], [.int 0, .ref 162], h7, 198, sl) _
    refine wp_pfm rfl rfl rfl (by decide) y1 ?_
    refine wp_i rfl rfl rfl rfl ?_
    refine wp_i rfl rfl rfl rfl ?_
    refine wp_i rfl rfl rfl rfl ?_
    have hI8 : mInv (mset h7 1 (.int 0)) := mInv_s1 hI7 (k := 0) (by decide)
    have y8 : mF (mset h7 1 (.int 0)) 1 (.int (nI 0)) := mF_self y1
    have l8 : ∀ i, i < 162 → (mset h7 1 (.int 0)) i = h7 i := fun i hi => mset_ne (by omega)
    generalize mset h7 1 (.int 0) = h8 at hI8 y8 l8 ⊢
    show pm_WP PT fr lo 258 (100, [some (.ref 162), some (.int f), some (.int v), some (.int (nI n)), some (.int u)], [.long (u).toInt64, .ref 162], h8, 198, sl) _
    refine wp_callM (t := 167) (As := [.long (u).toInt64]) (rest := []) (mx := 3) rfl rfl rfl rfl (Nat.le_of_ble_eq_true rfl) (Nat.le_of_ble_eq_true rfl) (by omega) (by omega) rfl (mF_obj y8) (wp_mono (hm_enters hI8 u.toInt64 y8 (by decide)) ?_)
    rintro _ ⟨h9, rfl, hI9, y9, l9⟩
    refine wp_i rfl rfl rfl rfl ?_
    refine wp_i rfl rfl rfl rfl ?_
    refine wp_i rfl rfl rfl rfl ?_
    show pm_WP PT fr lo 258 (106, [some (.ref 162), some (.int f), some (.int v), some (.int (nI n)), some (.int u)], [.long (v).toInt64, .ref 162], h9, 198, sl) _
    refine wp_callM (t := 167) (As := [.long (v).toInt64]) (rest := []) (mx := 3) rfl rfl rfl rfl (Nat.le_of_ble_eq_true rfl) (Nat.le_of_ble_eq_true rfl) (by omega) (by omega) rfl (mF_obj y9) (wp_mono (hm_enters hI9 v.toInt64 y9 (by decide)) ?_)
    rintro _ ⟨h10, rfl, hI10, y10, l10⟩
    refine wp_i rfl rfl rfl rfl ?_
    refine wp_i rfl rfl rfl rfl ?_
    refine wp_i rfl rfl rfl rfl ?_
    show pm_WP PT fr lo 258 (113, [some (.ref 162), some (.int f), some (.int v), some (.int (nI n)), some (.int u)], [.int (u - v)], h10, 198, sl) _
    exact wp_iret rfl rfl ⟨⟨_, rfl⟩, rfl, fun i hi => (l10 i hi).trans ((l9 i hi).trans ((l8 i hi).trans ((l7 i hi).trans ((fm_lt q6 i hi).trans ((l5 i hi).trans ((fm_lt q3 i hi).trans (l2 i hi)))))))  , hI10⟩
  · refine wp_i rfl rfl rfl rfl ?_
    refine wp_i rfl rfl rfl rfl ?_
    refine wp_i rfl rfl rfl rfl ?_
    refine wp_i rfl rfl rfl rfl ?_
    refine wp_i rfl rfl rfl rfl ?_
    show pm_WP PT fr lo 258 (21, [some (.ref 162), some (.int f), none, none, none], [.int ((f + 1) - 10000)], h2, 198, sl) _
    exact wp_iret rfl rfl ⟨⟨_, rfl⟩, rfl, l2, hI2⟩
end LAW
