/-! enters, isCourt, rule; by hand -/
section RLE
variable {fr lo sl : Nat} {h : pm_H} {Q : pm_Rs → Prop}
def lset (h : pm_H) (a n : Nat) (f : Nat → Int64) : pm_H := va_up h a (.inl (2, n, .inr (.inl f)))
theorem lset_nei {a b n : Nat} {f : Nat → Int64} (hn : b ≠ a) : lset h a n f b = h b := by simp [lset, va_up, hn]
theorem lset_self (h : pm_H) (a n : Nat) (f : Nat → Int64) : lset h a n f a = .inl (2, n, .inr (.inl f)) := by simp [lset, va_up]
theorem mF_ls {a n g : Nat} {f : Nat → Int64} {w : Value} (hn : 162 ≠ a) (q : mF h g w) : mF (lset h a n f) g w := by
  obtain ⟨fs, e, e1⟩ := q
  exact ⟨fs, by rw [lset_nei hn]; exact e, e1⟩
theorem wp_lsm {k pc : Nat} {L : pm_L} {r : List Value} {a n : Nat} {i : Int32} {x : Int64} {f : Nat → Int64} (hi : pm_ins PT k pc = some (.lastore, 1)) (ha : h a = .inl (2, n, .inr (.inl f))) (hin : pm_in i n = true) (hl : a < 198) (kk : pm_WP PT fr lo k (pc + 1, L, r, lset h a n (vp_updL f i.toNatClampNeg x), 198, sl) Q) : pm_WP PT fr lo k (pc, L, .long x :: .int i :: .ref a :: r, h, 198, sl) Q := by
  refine wp_i hi rfl rfl ?_ kk
  show pm_lS PT pc L (.long x :: .int i :: .ref a :: r) h 198 sl = _
  unfold pm_lS
  dsimp only
  have e : pm_lar PT h 198 a = some (2, n, f) := by
    unfold pm_lar
    rw [if_pos hl, ha]
    exact if_pos rfl
  rw [e]
  dsimp only
  rw [if_pos hin]
  rfl
theorem dD_lset {C G : Nat → Bool} {a n : Nat} {f : Nat → Int64} (ha : C a = true) (ha2 : 162 ≠ a) : dD C G h (lset h a n f) := by
  refine ⟨fun i _ b => lset_nei (fun q => by rw [q, ha] at b; cases b), fun fs e => ⟨fs, ?_, rfl, fun _ _ => rfl⟩⟩
  rw [lset_nei ha2]
  exact e
theorem hd_enters {k : Nat} {f : Nat → Int64} (v : Int64) (h1 : mF h 1 (.int (nI k))) (hk : k < 128) (h2 : mF h 2 (.ref 163)) (hR : h 163 = .inl (2, 128, .inr (.inl f))) : pm_WP PT fr lo 167 (0, pm_l0 [.ref 162, .long v] 3, [], h, 198, sl) (fun r => r = (none, mset (lset h 163 128 (vp_updL f k v)) 1 (.int (nI (k + 1))), 198, sl)) := by
  refine wp_i rfl rfl rfl rfl ?_
  show pm_WP PT fr lo 167 (1, [some (.ref 162), some (.long v), none], [.ref 162], h, 198, sl) _
  refine wp_gfm rfl rfl h2 ?_
  refine wp_i rfl rfl rfl rfl ?_
  show pm_WP PT fr lo 167 (5, [some (.ref 162), some (.long v), none], [.ref 162, .ref 163], h, 198, sl) _
  refine wp_gfm rfl rfl h1 ?_
  refine wp_i rfl rfl rfl rfl ?_
  show pm_WP PT fr lo 167 (9, [some (.ref 162), some (.long v), none], [.long v, .int (nI k), .ref 163], h, 198, sl) _
  refine wp_lsm rfl hR (hI_in hk (by decide)) (by decide) ?_
  rw [nI_clamp (by omega)]
  have z1 : mF (lset h 163 128 (vp_updL f k v)) 1 (.int (nI k)) := mF_ls (by decide) h1
  generalize lset h 163 128 (vp_updL f k v) = hh at z1 ⊢
  refine wp_i rfl rfl rfl rfl ?_
  refine wp_i rfl rfl rfl rfl ?_
  show pm_WP PT fr lo 167 (12, [some (.ref 162), some (.long v), none], [.ref 162, .ref 162], hh, 198, sl) _
  refine wp_gfm rfl rfl z1 ?_
  refine wp_i rfl rfl rfl rfl ?_
  refine wp_i rfl rfl rfl rfl ?_
  show pm_WP PT fr lo 167 (17, [some (.ref 162), some (.long v), none], [.int (nI k + 1), .ref 162], hh, 198, sl) _
  rw [nI_1 k]
  show pm_WP PT fr lo 167 (17, [some (.ref 162), some (.long v), none], [.int (nI (k + 1)), .ref 162], hh, 198, sl) _
  refine wp_pfm rfl rfl rfl (by decide) z1 ?_
  show pm_WP PT fr lo 167 (20, [some (.ref 162), some (.long v), none], [], (mset hh 1 (.int (nI (k + 1)))), 198, sl) _
  exact wp_vret rfl rfl rfl
theorem hd_isCourt {c : Nat} (x : Int32) (h3 : mF h 3 (.int (nI c))) (hf : 1 ≤ fr) (hl : 30 ≤ lo) : pm_WP PT fr lo 168 (0, pm_l0 [.ref 162, .int x] 2, [], h, 198, sl) (fun r => r = (some (.int (cond (in_b x.toInt64 0 (nI c - 1).toInt64) 1 0)), h, 198, sl)) := by
  refine wp_i rfl rfl rfl rfl ?_
  refine wp_i rfl rfl rfl rfl ?_
  refine wp_i rfl rfl rfl rfl ?_
  refine wp_i rfl rfl rfl rfl ?_
  show pm_WP PT fr lo 168 (4, [some (.ref 162), some (.int x)], [.ref 162, .long 0, .long (x).toInt64], h, 198, sl) _
  refine wp_gfm rfl rfl h3 ?_
  refine wp_i rfl rfl rfl rfl ?_
  refine wp_i rfl rfl rfl rfl ?_
  refine wp_i rfl rfl rfl rfl ?_
  show pm_WP PT fr lo 168 (10, [some (.ref 162), some (.int x)], [.long (((nI c) - 1)).toInt64, .long 0, .long (x).toInt64], h, 198, sl) _
  refine wp_callS (t := 163) (As := [.long (x).toInt64, .long 0, .long (((nI c) - 1)).toInt64]) (rest := []) (mx := 6) rfl rfl rfl rfl (Nat.le_of_ble_eq_true rfl) (Nat.le_of_ble_eq_true rfl) hf (by omega) (wp_mono (hd_in x.toInt64 0 (nI c - 1).toInt64) ?_)
  rintro _ rfl
  show pm_WP PT fr lo 168 (13, [some (.ref 162), some (.int x)], [.int (cond (in_b x.toInt64 0 (nI c - 1).toInt64) 1 0)], h, 198, sl) _
  exact wp_zret rfl rfl (by cases in_b x.toInt64 0 (nI c - 1).toInt64; exact Or.inl rfl; exact Or.inr rfl) rfl
theorem isC_iv {x : Int32} {c : Nat} (hc : c ≤ 6) (q : in_b x.toInt64 0 (nI c - 1).toInt64 = true) : ∃ j, x = nI j ∧ j < c := by
  unfold in_b at q
  rw [Bool.and_eq_true] at q
  have e1 : ¬ x.toInt64 < 0 := by simpa using q.1
  have e2 : ¬ (nI c - 1).toInt64 < x.toInt64 := by simpa using q.2
  rw [Int64.lt_iff_toInt_lt, Int32.toInt_toInt64] at e1
  rw [Int64.lt_iff_toInt_lt, Int32.toInt_toInt64, Int32.toInt_toInt64] at e2
  have n1 : (0 : Int64).toInt = 0 := by decide
  have n2 : ∀ c : Nat, c ≤ 6 → (nI c - 1).toInt = (c : Int) - 1 := by decide
  rw [n1] at e1
  rw [n2 c hc] at e2
  obtain ⟨j, rfl, hj, ej⟩ := hI_of (show 0 ≤ x.toInt by omega)
  exact ⟨j, rfl, by omega⟩
/-- what holds between calls -/
def mInv (h : pm_H) : Prop := ah_ok bB 198 [] h ∧ rxQ h
/-- a call of the reference, of any answer v that A allows -/
def mPost (A : Option Value → Prop) (h : pm_H) (sl : Nat) (x : pm_Rs) : Prop := A x.1 ∧ x.2.2 = (198, sl) ∧ (∀ i, i < 162 → x.2.1 i = h i) ∧ mInv x.2.1
def anInt (v : Option Value) : Prop := ∃ x : Int32, v = some (.int x)
theorem rxQ_dD {C G : Nat → Bool} {h h' : pm_H} (p : dD C G h h') (c1 : C 174 = false) (c2 : C 178 = false) (c3 : C 196 = false) (g1 : G 3 = false) (g2 : G 4 = false) (g3 : G 23 = false) (q : rxQ h) : rxQ h' := by
  obtain ⟨⟨n, dn, f, a1, a2, a3⟩, ⟨c, g, b1, b2, b3⟩, ⟨f1, r1, r2⟩, f2, r3, r4⟩ := q
  exact ⟨⟨n, dn, f, dD_mF p g3 a1, (p.1 174 (by decide) c1).trans a2, a3⟩, ⟨c, g, dD_mF p g1 b1, dD_mF p g2 b2, b3⟩, ⟨f1, (p.1 178 (by decide) c2).trans r1, r2⟩, f2, (p.1 196 (by decide) c3).trans r3, r4⟩
def ruC (i : Nat) : Bool := Nat.beq i 175 || Nat.beq i 174
def ruG (g : Nat) : Bool := Nat.beq g 0 || (Nat.beq g 23 || rDG g)
theorem av_nI {n : Nat} {l u : Int} (h1 : l ≤ (n : Int)) (h2 : (n : Int) ≤ u) (hn : n < 1000000) : av_ok (.int (nI n)) (0, l, u) := ⟨rfl, by rw [nI_toInt (by omega)]; exact h1, by rw [nI_toInt (by omega)]; exact h2⟩
theorem nb_ne {i k : Nat} (h : i ≠ k) : Nat.beq i k = false := by
  cases hb : Nat.beq i k with
  | false => rfl
  | true => exact absurd (Nat.eq_of_beq_eq_true hb) h
theorem ruC_lt {i : Nat} (hi : i < 162) : ruC i = false := by
  unfold ruC
  rw [nb_ne (by omega), nb_ne (by omega)]
  rfl
theorem ru_cell {h : pm_H} {f g : Nat → Int32} {i : Nat} (hi : ruC i = true) (h1 : h 175 = .inl (0, 80, .inl f)) (h2 : h 174 = .inl (0, 80, .inl g)) : ac_ok (h i) (bB i) := by
  unfold ruC at hi
  rw [Bool.or_eq_true] at hi
  rcases hi with hi | hi
  · have := Nat.eq_of_beq_eq_true hi
    subst this
    rw [h1]
    exact ⟨rfl, rfl, fun j _ => ai_top_ok _⟩
  · have := Nat.eq_of_beq_eq_true hi
    subst this
    rw [h2]
    exact ⟨rfl, rfl, fun j _ => ai_top_ok _⟩
theorem ru_fld {h : pm_H} {g a t nn c : Nat} {b : av} {x23 : Value} (hg : ruG g = true) (hb : sp_fld bB [] 162 g = some b) (m0 : mF h 0 (.int 0)) (m15 : mF h 15 (.int 0)) (m16 : mF h 16 (.int (nI a))) (m17 : mF h 17 (.int (nI t))) (m18 : mF h 18 (.int (nI nn))) (m24 : mF h 24 (.int (nI c))) (m23 : mF h 23 x23) (v23 : av_ok x23 (0, 0, 80)) (ha : a ≤ 40) (ht : t ≤ 40) (hn : nn ≤ 4) (hc : c ≤ 40) : ∃ v, mF h g v ∧ av_ok v b := by
  have hg2 : g = 0 ∨ g = 23 ∨ g = 15 ∨ g = 16 ∨ g = 17 ∨ g = 18 ∨ g = 24 := by
    unfold ruG rDG at hg
    simp only [Bool.or_eq_true, Nat.beq_eq] at hg
    omega
  rcases hg2 with rfl | rfl | rfl | rfl | rfl | rfl | rfl
  · cases (Option.some.inj hb : _ = b); exact ⟨_, m0, ⟨rfl, by decide, by decide⟩⟩
  · cases (Option.some.inj hb : _ = b); exact ⟨_, m23, v23⟩
  · cases (Option.some.inj hb : _ = b); exact ⟨_, m15, ⟨rfl, by decide, by decide⟩⟩
  · cases (Option.some.inj hb : _ = b); exact ⟨_, m16, av_nI (by omega) (by omega) (by omega)⟩
  · cases (Option.some.inj hb : _ = b); exact ⟨_, m17, av_nI (by omega) (by omega) (by omega)⟩
  · cases (Option.some.inj hb : _ = b); exact ⟨_, m18, av_nI (by omega) (by omega) (by omega)⟩
  · cases (Option.some.inj hb : _ = b); exact ⟨_, m24, av_nI (by omega) (by omega) (by omega)⟩
theorem hd_rule (hI : mInv h) (hf : 500 ≤ fr) (hl : 12000 ≤ lo) : pm_WP PT fr lo 198 (0, pm_l0 [.ref 162] 2, [], h, 198, sl) (mPost anInt h sl) := by
  obtain ⟨hh, hq⟩ := hI
  obtain ⟨x0, h0, -⟩ := ty_fld hh (g := 0) rfl
  obtain ⟨n, h15, hn⟩ := ty_nat hh (g := 15) (u := 80) rfl (by decide)
  obtain ⟨x16, h16, -⟩ := ty_fld hh (g := 16) rfl
  obtain ⟨x17, h17, -⟩ := ty_fld hh (g := 17) rfl
  obtain ⟨x18, h18, -⟩ := ty_fld hh (g := 18) rfl
  obtain ⟨x24, h24, -⟩ := ty_fld hh (g := 24) rfl
  have h14 := ty_ref hh (g := 14) (p := 172) rfl
  have h22 := ty_ref hh (g := 22) (p := 175) rfl
  have h21 := ty_ref hh (g := 21) (p := 174) rfl
  obtain ⟨tp, hA, -⟩ := ty_arr hh (i := 172) (by decide) rfl rfl (by decide)
  obtain ⟨rc, hR, -⟩ := ty_arr hh (i := 175) (by decide) rfl rfl (by decide)
  obtain ⟨cd, hC, -⟩ := ty_arr hh (i := 174) (by decide) rfl rfl (by decide)
  refine wp_i rfl rfl rfl rfl ?_
  refine wp_i rfl rfl rfl rfl ?_
  show pm_WP PT fr lo 198 (2, [some (.ref 162), none], [.int 0, .ref 162], h, 198, sl) _
  refine wp_pfm rfl rfl rfl (by decide) h0 ?_
  refine wp_i rfl rfl rfl rfl ?_
  show pm_WP PT fr lo 198 (6, [some (.ref 162), none], [.ref 162], (mset h 0 (.int 0)), 198, sl) _
  refine wp_callM (t := 196) (As := []) (rest := []) (mx := 3) rfl rfl rfl rfl (Nat.le_of_ble_eq_true rfl) (Nat.le_of_ble_eq_true rfl) (by omega) (by omega) rfl (mF_obj (mF_self h0)) (wp_mono (hd_readsRule (n := n) (mF_ne (by decide) h15) (mF_ne (by decide) h16) (mF_ne (by decide) h17) (mF_ne (by decide) h18) (mF_ne (by decide) h24) (mF_ne (by decide) h14) (mset_arr (by decide) hA) (mF_ne (by decide) h22) (mset_arr (by decide) hR) hn (by omega) (by omega)) ?_)
  rintro _ ⟨f, h2, a, t, nn, c, rc2, tp2, rfl, d2, s2, m15, ha, ht, hnn, hc, f1, f2, f3⟩
  obtain ⟨p1, p2, p3, p4, p5, p6, p7, p8⟩ := s2
  have d0 : dD ruC ruG h h2 := dD_tr (dD_set rfl) (dD_mono d2 (fun i q => by unfold ruC at q; rw [Bool.or_eq_false_iff] at q; exact q.1) (fun g q => by unfold ruG at q; rw [Bool.or_eq_false_iff, Bool.or_eq_false_iff] at q; exact q.2.2))
  have m0 : mF h2 0 (.int 0) := dD_mF d2 rfl (mF_self h0)
  have m21 : mF h2 21 (.ref 174) := dD_mF d2 rfl (mF_ne (by decide) h21)
  obtain ⟨x23, h23, v23⟩ := ty_fld hh (g := 23) rfl
  have m23 : mF h2 23 x23 := dD_mF d2 rfl (mF_ne (by decide) h23)
  have mC : h2 174 = .inl (0, 80, .inl cd) := (d2.1 174 (by decide) rfl).trans (mset_arr (by decide) hC)
  refine wp_i rfl rfl rfl rfl ?_
  refine wp_i rfl rfl rfl rfl ?_
  show pm_WP PT fr lo 198 (11, [some (.ref 162), some (.int f)], [.int f], h2, 198, sl) _
  refine wp_if (c := .ne) (off := 15) (t := 26) rfl rfl (fun q => ?_) (fun q => ?_)
  · have q : ¬ f = 0 := (rs_t (P := ¬ f = 0) rfl).1 q
    refine wp_i rfl rfl rfl rfl ?_
    show pm_WP PT fr lo 198 (27, [some (.ref 162), some (.int f)], [.int f], h2, 198, sl) _
    refine wp_iret rfl rfl ?_
    have dq : dD rDC (fun g => Nat.beq g 0 || rDG g) h h2 := dD_tr (dD_set rfl) (dD_mono d2 (fun _ q => q) (fun g q => by rw [Bool.or_eq_false_iff] at q; exact q.2))
    refine ⟨⟨f, rfl⟩, rfl, fun i hi => (d0).1 i (by omega) (ruC_lt hi), dD_ty hh d0 (fun i hi _ _ => ?_) (fun g hg b hb => ?_), rxQ_dD dq rfl rfl rfl rfl rfl rfl hq⟩
    · exact ru_cell hi p8 mC
    · exact ru_fld hg hb m0 m15 p1 p2 p5 p6 m23 v23 ha ht hnn hc
  · have q : f = 0 := Decidable.not_not.mp ((rs_t (P := ¬ f = 0) rfl).2 q)
    refine wp_i rfl rfl rfl rfl ?_
    refine wp_i rfl rfl rfl rfl ?_
    show pm_WP PT fr lo 198 (16, [some (.ref 162), some (.int f)], [.ref 162, .ref 162], h2, 198, sl) _
    refine wp_gfm rfl rfl p7 ?_
    refine wp_i rfl rfl rfl rfl ?_
    show pm_WP PT fr lo 198 (20, [some (.ref 162), some (.int f)], [.ref 162, .ref 175, .ref 162], h2, 198, sl) _
    refine wp_gfm rfl rfl p6 ?_
    show pm_WP PT fr lo 198 (23, [some (.ref 162), some (.int f)], [.int (nI c), .ref 175, .ref 162], h2, 198, sl) _
    refine wp_callM (t := 197) (As := [.ref 175, .int (nI c)]) (rest := []) (mx := 4) rfl rfl rfl rfl (Nat.le_of_ble_eq_true rfl) (Nat.le_of_ble_eq_true rfl) (by omega) (by omega) rfl (mF_obj m21) (wp_mono (hd_lays175 (f := rc2) (g := cd) (n := c) (by omega) m23 m21 p8 mC) ?_)
    rintro _ ⟨g2, rfl, hg2⟩
    refine wp_i rfl rfl rfl rfl ?_
    show pm_WP PT fr lo 198 (27, [some (.ref 162), some (.int f)], [.int f], (aset (mset h2 23 (.int (nI c))) 174 80 g2), 198, sl) _
    refine wp_iret rfl rfl ?_
    have d3 : dD ruC ruG h (aset (mset h2 23 (.int (nI c))) 174 80 g2) := dD_tr (dD_tr d0 (dD_set rfl)) (dD_arr rfl (by decide))
    obtain ⟨q1, ⟨qc, qg, qb1, qb2, qb3⟩, ⟨qf, qr1, qr2⟩, qf2, qr3, qr4⟩ := hq
    have hq2 : rxQ (aset (mset h2 23 (.int (nI c))) 174 80 g2) := ⟨⟨c, 1, g2, mF_as (by decide) (mF_self m23), aset_self _ _ _ _, by omega, (f3 q).imp id (fun e => ⟨by rw [dep_cong hg2]; exact e, Nat.le_refl _⟩)⟩, ⟨qc, qg, dD_mF d3 rfl qb1, dD_mF d3 rfl qb2, qb3⟩, ⟨qf, (d3.1 178 (by decide) rfl).trans qr1, qr2⟩, qf2, (d3.1 196 (by decide) rfl).trans qr3, qr4⟩
    refine ⟨⟨f, rfl⟩, rfl, fun i hi => (d3).1 i (by omega) (ruC_lt hi), dD_ty hh d3 (fun i hi _ _ => ?_) (fun g hg b hb => ?_), hq2⟩
    · exact ru_cell (h := aset (mset h2 23 (.int (nI c))) 174 80 g2) hi (aset_ne (by decide) (mset_arr (by decide) p8)) (aset_self _ _ _ _)
    · exact ru_fld hg hb (mF_as (by decide) (mF_ne (by decide) m0)) (mF_as (by decide) (mF_ne (by decide) m15)) (mF_as (by decide) (mF_ne (by decide) p1)) (mF_as (by decide) (mF_ne (by decide) p2)) (mF_as (by decide) (mF_ne (by decide) p5)) (mF_as (by decide) (mF_ne (by decide) p6)) (mF_as (by decide) (mF_self m23)) (av_nI (l := 0) (u := 80) (by omega) (by omega) (by omega)) ha ht hnn hc
end RLE
