/-! way, by hand -/
section WAY
variable {fr lo sl : Nat} {h : pm_H} {Q : pm_Rs → Prop} {c t a : Nat} {w : Nat → Nat → Nat} {rd f f0 : Nat → Int32}
theorem ty_lar (hh : ah_ok bB 198 [] h) : ∃ R : Nat → Int64, h 163 = .inl (2, 128, .inr (.inl R)) := by
  have h0 : ac_ok (h 163) (bB 163) := hh 163 (by decide)
  have hb : bB 163 = .inl (2, 128, al_top) := rfl
  rw [hb] at h0
  cases e : h 163 with
  | inr q => rw [e] at h0; obtain ⟨ci, fs⟩ := q; exact h0.elim
  | inl q =>
    rw [e] at h0
    obtain ⟨kd, m, f | f | f | f | f⟩ := q
    · have := (h0.2.2 0 (by rw [h0.2.1]; decide)).1
      cases this
    · obtain ⟨rfl, rfl, q⟩ := h0
      exact ⟨f, rfl⟩
    · exact h0.elim
    · exact h0.elim
    · have q := h0.2.2 0 (by rw [h0.2.1]; decide)
      cases e3 : f 0 with
      | none => rw [e3] at q; cases q
      | some p => rw [e3] at q; cases q.1
theorem ty_rd (hh : ah_ok bB 198 [] h) : ∃ (rd : Nat → Int32) (w : Nat → Nat → Nat), h 169 = .inl (0, 36, .inl rd) ∧ rdOk rd w := by
  obtain ⟨rd, e, q⟩ := ty_arr hh (i := 169) (by decide) rfl rfl (by decide)
  refine ⟨rd, fun a b => (rd (6 * a + b)).toInt.toNat, e, fun a b ha hb => ?_⟩
  have hq := q (6 * a + b) (by omega)
  obtain ⟨n, e1, e2, e3⟩ := hI_of (x := rd (6 * a + b)) hq.1
  have h9 : (rd (6 * a + b)).toInt ≤ 9 := hq.2
  refine ⟨?_, by show (rd (6 * a + b)).toInt.toNat ≤ 9; omega⟩
  show rd (6 * a + b) = nI (rd (6 * a + b)).toInt.toNat
  rw [e3, Int.toNat_natCast]
  exact e1
theorem ty_far (hh : ah_ok bB 198 [] h) : ∃ f : Nat → Int32, h 185 = .inl (0, 6, .inl f) ∧ ∀ j, j < 6 → av_ok (.int (f j)) (0, 0, 1000000) := by
  have hb : ∃ cs, bB 185 = .inr (1000, cs) ∧ cs = [(0, 0, 1000000), (0, 0, 1000000), (0, 0, 1000000), (0, 0, 1000000), (0, 0, 1000000), (0, 0, 1000000)] := ⟨_, rfl, rfl⟩
  obtain ⟨cs, eb, rfl⟩ := hb
  obtain ⟨f, e, q⟩ := ty_arrE hh (i := 185) (by decide) eb
  refine ⟨f, e, fun j hj => q j _ ?_⟩
  have : j = 0 ∨ j = 1 ∨ j = 2 ∨ j = 3 ∨ j = 4 ∨ j = 5 := by omega
  rcases this with rfl | rfl | rfl | rfl | rfl | rfl <;> rfl
theorem ty_farI {f : Nat → Int32} (q : ∀ j, j < 6 → av_ok (.int (f j)) (0, 0, 1000000)) : ac_ok (.inl (0, 6, .inl f)) (bB 185) := by
  have hb : ∃ cs, bB 185 = .inr (1000, cs) ∧ cs = [(0, 0, 1000000), (0, 0, 1000000), (0, 0, 1000000), (0, 0, 1000000), (0, 0, 1000000), (0, 0, 1000000)] := ⟨_, rfl, rfl⟩
  obtain ⟨cs, eb, rfl⟩ := hb
  rw [eb]
  refine ⟨rfl, rfl, fun j b hb => ?_⟩
  have hj : j < 6 := (List.getElem?_eq_some_iff.mp hb).1
  have hbe : b = (0, 0, 1000000) := by
    have : j = 0 ∨ j = 1 ∨ j = 2 ∨ j = 3 ∨ j = 4 ∨ j = 5 := by omega
    rcases this with rfl | rfl | rfl | rfl | rfl | rfl <;> exact (Option.some.inj hb).symm
  rw [hbe]
  exact q j hj
theorem far_ty {F : Nat → Nat} (q : ∀ j, j < 6 → av_ok (.int (f0 j)) (0, 0, 1000000)) (hf : frOk c f0 f F) : ∀ j, j < 6 → av_ok (.int (f j)) (0, 0, 1000000) := by
  intro j hj
  by_cases z : j < c
  · obtain ⟨e, hl⟩ := hf.1 j z
    rw [e]
    have := INF_lt
    exact ⟨rfl, by rw [nI_toInt (by omega)]; show (0 : Int) ≤ _; omega, by rw [nI_toInt (by omega)]; show _ ≤ (1000000 : Int); omega⟩
  · rw [hf.2 j (by omega)]
    exact q j hj
def wyC (i : Nat) : Bool := Nat.beq i 185 || Nat.beq i 163
def wyG (g : Nat) : Bool := Nat.beq g 0 || Nat.beq g 1
/-- on the way: what is the same, what is told -/
def wyI (h0 h : pm_H) (f : Nat → Int32) (k : Nat) : Prop := dD wyC wyG h0 h ∧ mF h 0 (.int 0) ∧ mF h 1 (.int (nI k)) ∧ (∃ R : Nat → Int64, h 163 = .inl (2, 128, .inr (.inl R))) ∧ h 185 = .inl (0, 6, .inl f)
theorem lset_arr {a b n m : Nat} {R : Nat → Int64} {g : Nat → Int32} (hn : b ≠ a) (q : h b = .inl (0, m, .inl g)) : lset h a n R b = .inl (0, m, .inl g) := by
  rw [lset_nei hn]
  exact q
theorem wyI_en {h0 : pm_H} {k : Nat} {R R2 : Nat → Int64} (q : wyI h0 h f k) : wyI h0 (mset (lset h 163 128 R2) 1 (.int (nI (k + 1)))) f (k + 1) := by
  obtain ⟨d, m0, m1, -, m4⟩ := q
  refine ⟨dD_tr d (dD_tr (dD_lset rfl (by decide)) (dD_set rfl)), mF_ne (by decide) (mF_ls (by decide) m0), mF_self (mF_ls (by decide) m1), ⟨R2, ?_⟩, mset_arr (by decide) (lset_arr (by decide) m4)⟩
  rw [mset_ne (by decide), lset_self]
theorem wyP {k : Nat} {hk : pm_H} (hI : mInv h) (q : wyI h hk f k) (hk2 : k ≤ 100) (tf : ∀ j, j < 6 → av_ok (.int (f j)) (0, 0, 1000000)) {A : Option Value → Prop} {v : Option Value} (hA : A v) : mPost A h sl (v, hk, 198, sl) := by
  obtain ⟨d, m0, m1, ⟨R, m3⟩, m4⟩ := q
  refine ⟨hA, rfl, x_lt d (fun i hi => by unfold wyC; rw [nb_ne (by omega), nb_ne (by omega)]; rfl), dD_ty hI.1 d (fun i hi _ _ => ?_) (fun g hg b hb => ?_), rxQ_dD d rfl rfl rfl rfl rfl rfl hI.2⟩
  · unfold wyC at hi
    rw [Bool.or_eq_true] at hi
    rcases hi with hi | hi
    · have := Nat.eq_of_beq_eq_true hi
      subst this
      show ac_ok (hk 185) _
      rw [m4]
      exact ty_farI tf
    · have := Nat.eq_of_beq_eq_true hi
      subst this
      show ac_ok (hk 163) _
      rw [m3]
      exact ⟨rfl, rfl, fun j _ => al_top_ok _⟩
  · unfold wyG at hg
    rw [Bool.or_eq_true] at hg
    rcases hg with hg | hg
    · have := Nat.eq_of_beq_eq_true hg
      subst this
      cases (Option.some.inj hb : _ = b)
      exact ⟨_, m0, ⟨rfl, by decide, by decide⟩⟩
    · have := Nat.eq_of_beq_eq_true hg
      subst this
      cases (Option.some.inj hb : _ = b)
      exact ⟨_, m1, av_nI (by omega) (by omega) (by omega)⟩
theorem wy_S (h3 : mF h 3 (.int (nI c))) (hc : c ≤ 6) (h39 : mF h 39 (.ref 185)) (h11 : mF h 11 (.ref 169)) (hR : h 169 = .inl (0, 36, .inl rd)) (hw : rdOk rd w) (hF : h 185 = .inl (0, 6, .inl f)) (hf : frOk c f0 f (lD w c t c)) {s : Nat} (hs : s < c) (kk : ∀ b y5 y6, b < c → 0 < w s b → lD w c t c b + w s b = lD w c t c s → pm_WP PT fr lo 238 (134, [some (.ref 162), some (.int (nI a)), some (.int (nI t)), some (.int (nI s)), some (.int (nI b)), y5, y6], [], h, 198, sl) Q) : ∀ (m b : Nat) (x6 : Option Value), b + m = c → (∃ b2, b ≤ b2 ∧ b2 < c ∧ 0 < w s b2 ∧ lD w c t c b2 + w s b2 = lD w c t c s) → pm_WP PT fr lo 238 (67, [some (.ref 162), some (.int (nI a)), some (.int (nI t)), some (.int (nI s)), some (.int (-1)), some (.int (nI b)), x6], [], h, 198, sl) Q := by
  intro m
  induction m with
  | zero =>
    intro b x6 hb e1
    obtain ⟨b2, q1, q2, -⟩ := e1
    omega
  | succ m ih =>
    intro b x6 hb e1
    have hbc : b < c := by omega
    obtain ⟨ew, hw9⟩ := hw s b (by omega) (by omega)
    obtain ⟨es, ls⟩ := hf.1 s hs
    obtain ⟨eb, lb⟩ := hf.1 b hbc
    have hI0 := INF_lt
    refine wp_i rfl rfl rfl rfl ?_
    refine wp_i rfl rfl rfl rfl ?_
    show pm_WP PT fr lo 238 (70, [some (.ref 162), some (.int (nI a)), some (.int (nI t)), some (.int (nI s)), some (.int (-1)), some (.int (nI b)), x6], [.ref 162, .int (nI b)], h, 198, sl) _
    refine wp_gfm rfl rfl h3 ?_
    show pm_WP PT fr lo 238 (73, [some (.ref 162), some (.int (nI a)), some (.int (nI t)), some (.int (nI s)), some (.int (-1)), some (.int (nI b)), x6], [.int (nI c), .int (nI b)], h, 198, sl) _
    refine wp_icmp (c := .ge) (off := 61) (t := 134) rfl rfl (fun q => absurd (q.symm.trans ((hI_ge (by omega) (by omega)).trans (decide_eq_false (by omega)))) (by decide)) (fun _ => ?_)
    refine wp_i rfl rfl rfl rfl ?_
    refine wp_i rfl rfl rfl rfl ?_
    refine wp_i rfl rfl rfl rfl ?_
    show pm_WP PT fr lo 238 (82, [some (.ref 162), some (.int (nI a)), some (.int (nI t)), some (.int (nI s)), some (.int (-1)), some (.int (nI b)), x6], [.ref 162], h, 198, sl) _
    refine wp_gfm rfl rfl h11 ?_
    refine wp_i rfl rfl rfl rfl ?_
    refine wp_i rfl rfl rfl rfl ?_
    refine wp_i rfl rfl rfl rfl ?_
    refine wp_i rfl rfl rfl rfl ?_
    refine wp_i rfl rfl rfl rfl ?_
    show pm_WP PT fr lo 238 (92, [some (.ref 162), some (.int (nI a)), some (.int (nI t)), some (.int (nI s)), some (.int (-1)), some (.int (nI b)), x6], [.int ((6 * (nI s)) + (nI b)), .ref 169], h, 198, sl) _
    rw [ix6 s b]
    show pm_WP PT fr lo 238 (92, [some (.ref 162), some (.int (nI a)), some (.int (nI t)), some (.int (nI s)), some (.int (-1)), some (.int (nI b)), x6], [.int (nI (6 * s + b)), .ref 169], h, 198, sl) _
    refine wp_iam rfl hR (hI_in (by omega) (by omega)) (by decide) ?_
    rw [nI_clamp (by omega), ew]
    show pm_WP PT fr lo 238 (93, [some (.ref 162), some (.int (nI a)), some (.int (nI t)), some (.int (nI s)), some (.int (-1)), some (.int (nI b)), x6], [.int (nI (w s b))], h, 198, sl) _
    refine wp_i rfl rfl rfl rfl ?_
    refine wp_i rfl rfl rfl rfl ?_
    show pm_WP PT fr lo 238 (97, [some (.ref 162), some (.int (nI a)), some (.int (nI t)), some (.int (nI s)), some (.int (-1)), some (.int (nI b)), some (.int (nI (w s b)))], [.int (nI (w s b))], h, 198, sl) _
    refine wp_if (c := .le) (off := 27) (t := 124) rfl rfl (fun q => ?_) (fun q => ?_)
    · have q : ¬ 0 < w s b := Nat.not_lt.mpr (of_decide_eq_true ((hI_le (b := 0) (by omega) (by omega)).symm.trans q))
      show pm_WP PT fr lo 238 (124, [some (.ref 162), some (.int (nI a)), some (.int (nI t)), some (.int (nI s)), some (.int (-1)), some (.int (nI b)), some (.int (nI (w s b)))], [], h, 198, sl) _
      refine wp_i rfl rfl rfl rfl ?_
      refine wp_i rfl rfl rfl rfl ?_
      refine wp_i rfl rfl rfl rfl ?_
      refine wp_i rfl rfl rfl rfl ?_
      show pm_WP PT fr lo 238 (67, [some (.ref 162), some (.int (nI a)), some (.int (nI t)), some (.int (nI s)), some (.int (-1)), some (.int (nI b + 1)), some (.int (nI (w s b)))], [], h, 198, sl) _
      rw [nI_1 b]
      refine ih (b + 1) _ (by omega) ?_
      obtain ⟨b2, r1, r2, r3, r4⟩ := e1
      refine ⟨b2, ?_, r2, r3, r4⟩
      have : b ≠ b2 := fun z => by subst z; exact q r3
      omega
    · have q : 0 < w s b := Nat.lt_of_not_le (of_decide_eq_false ((hI_le (b := 0) (by omega) (by omega)).symm.trans q))
      refine wp_i rfl rfl rfl rfl ?_
      show pm_WP PT fr lo 238 (101, [some (.ref 162), some (.int (nI a)), some (.int (nI t)), some (.int (nI s)), some (.int (-1)), some (.int (nI b)), some (.int (nI (w s b)))], [.ref 162], h, 198, sl) _
      refine wp_gfm rfl rfl h39 ?_
      refine wp_i rfl rfl rfl rfl ?_
      show pm_WP PT fr lo 238 (106, [some (.ref 162), some (.int (nI a)), some (.int (nI t)), some (.int (nI s)), some (.int (-1)), some (.int (nI b)), some (.int (nI (w s b)))], [.int (nI b), .ref 185], h, 198, sl) _
      refine wp_iam rfl hF (hI_in (by omega) (by omega)) (by decide) ?_
      rw [nI_clamp (by omega), eb]
      show pm_WP PT fr lo 238 (107, [some (.ref 162), some (.int (nI a)), some (.int (nI t)), some (.int (nI s)), some (.int (-1)), some (.int (nI b)), some (.int (nI (w s b)))], [.int (nI (lD w c t c b))], h, 198, sl) _
      refine wp_i rfl rfl rfl rfl ?_
      refine wp_i rfl rfl rfl rfl ?_
      refine wp_i rfl rfl rfl rfl ?_
      show pm_WP PT fr lo 238 (111, [some (.ref 162), some (.int (nI a)), some (.int (nI t)), some (.int (nI s)), some (.int (-1)), some (.int (nI b)), some (.int (nI (w s b)))], [.ref 162, .int ((nI (lD w c t c b)) + (nI (w s b)))], h, 198, sl) _
      refine wp_gfm rfl rfl h39 ?_
      refine wp_i rfl rfl rfl rfl ?_
      show pm_WP PT fr lo 238 (115, [some (.ref 162), some (.int (nI a)), some (.int (nI t)), some (.int (nI s)), some (.int (-1)), some (.int (nI b)), some (.int (nI (w s b)))], [.int (nI s), .ref 185, .int ((nI (lD w c t c b)) + (nI (w s b)))], h, 198, sl) _
      refine wp_iam rfl hF (hI_in (by omega) (by omega)) (by decide) ?_
      rw [nI_clamp (by omega), es, nI_add]
      show pm_WP PT fr lo 238 (116, [some (.ref 162), some (.int (nI a)), some (.int (nI t)), some (.int (nI s)), some (.int (-1)), some (.int (nI b)), some (.int (nI (w s b)))], [.int (nI (lD w c t c s)), .int (nI (lD w c t c b + w s b))], h, 198, sl) _
      show pm_WP PT fr lo 238 (116, [some (.ref 162), some (.int (nI a)), some (.int (nI t)), some (.int (nI s)), some (.int (-1)), some (.int (nI b)), some (.int (nI (w s b)))], [.int (nI (lD w c t c s)), .int (nI (lD w c t c b + w s b))], h, 198, sl) _
      refine wp_icmp (c := .ne) (off := 8) (t := 124) rfl rfl (fun q2 => ?_) (fun q2 => ?_)
      · have q2 : ¬ lD w c t c b + w s b = lD w c t c s := of_decide_eq_true ((hI_ne (by omega) (by omega)).symm.trans q2)
        show pm_WP PT fr lo 238 (124, [some (.ref 162), some (.int (nI a)), some (.int (nI t)), some (.int (nI s)), some (.int (-1)), some (.int (nI b)), some (.int (nI (w s b)))], [], h, 198, sl) _
        refine wp_i rfl rfl rfl rfl ?_
        refine wp_i rfl rfl rfl rfl ?_
        refine wp_i rfl rfl rfl rfl ?_
        refine wp_i rfl rfl rfl rfl ?_
        show pm_WP PT fr lo 238 (67, [some (.ref 162), some (.int (nI a)), some (.int (nI t)), some (.int (nI s)), some (.int (-1)), some (.int (nI b + 1)), some (.int (nI (w s b)))], [], h, 198, sl) _
        rw [nI_1 b]
        refine ih (b + 1) _ (by omega) ?_
        obtain ⟨b2, r1, r2, r3, r4⟩ := e1
        refine ⟨b2, ?_, r2, r3, r4⟩
        have : b ≠ b2 := fun z => by subst z; exact q2 r4
        omega
      · have q2 : lD w c t c b + w s b = lD w c t c s := Decidable.not_not.mp (of_decide_eq_false ((hI_ne (by omega) (by omega)).symm.trans q2))
        show pm_WP PT fr lo 238 (119, [some (.ref 162), some (.int (nI a)), some (.int (nI t)), some (.int (nI s)), some (.int (-1)), some (.int (nI b)), some (.int (nI (w s b)))], [], h, 198, sl) _
        refine wp_i rfl rfl rfl rfl ?_
        refine wp_i rfl rfl rfl rfl ?_
        refine wp_i rfl rfl rfl rfl ?_
        refine wp_i rfl rfl rfl rfl ?_
        refine wp_i rfl rfl rfl rfl ?_
        show pm_WP PT fr lo 238 (67, [some (.ref 162), some (.int (nI a)), some (.int (nI t)), some (.int (nI s)), some (.int (nI b)), some (.int (nI b + 1)), some (.int (nI (w s b)))], [], h, 198, sl) _
        refine wp_i rfl rfl rfl rfl ?_
        refine wp_i rfl rfl rfl rfl ?_
        show pm_WP PT fr lo 238 (70, [some (.ref 162), some (.int (nI a)), some (.int (nI t)), some (.int (nI s)), some (.int (nI b)), some (.int (nI b + 1)), some (.int (nI (w s b)))], [.ref 162, .int (nI b + 1)], h, 198, sl) _
        refine wp_gfm rfl rfl h3 ?_
        show pm_WP PT fr lo 238 (73, [some (.ref 162), some (.int (nI a)), some (.int (nI t)), some (.int (nI s)), some (.int (nI b)), some (.int (nI b + 1)), some (.int (nI (w s b)))], [.int (nI c), .int (nI b + 1)], h, 198, sl) _
        refine wp_icmp (c := .ge) (off := 61) (t := 134) rfl rfl (fun q3 => ?_) (fun q3 => ?_)
        · show pm_WP PT fr lo 238 (134, [some (.ref 162), some (.int (nI a)), some (.int (nI t)), some (.int (nI s)), some (.int (nI b)), some (.int (nI b + 1)), some (.int (nI (w s b)))], [], h, 198, sl) _
          exact kk b _ _ hbc q q2
        · refine wp_i rfl rfl rfl rfl ?_
          show pm_WP PT fr lo 238 (78, [some (.ref 162), some (.int (nI a)), some (.int (nI t)), some (.int (nI s)), some (.int (nI b)), some (.int (nI b + 1)), some (.int (nI (w s b)))], [.int (nI b)], h, 198, sl) _
          refine wp_if (c := .ge) (off := 56) (t := 134) rfl rfl (fun _ => ?_) (fun q => absurd (q.symm.trans ((hI_ge (b := 0) (by omega) (by omega)).trans (decide_eq_true (by omega)))) (by decide))
          show pm_WP PT fr lo 238 (134, [some (.ref 162), some (.int (nI a)), some (.int (nI t)), some (.int (nI s)), some (.int (nI b)), some (.int (nI b + 1)), some (.int (nI (w s b)))], [], h, 198, sl) _
          exact kk b _ _ hbc q q2
theorem wy_L {h0 : pm_H} (h3 : mF h0 3 (.int (nI c))) (hc : c ≤ 6) (h39 : mF h0 39 (.ref 185)) (h11 : mF h0 11 (.ref 169)) (h2 : mF h0 2 (.ref 163)) (hR : h0 169 = .inl (0, 36, .inl rd)) (hw : rdOk rd w) (hf : frOk c f0 f (lD w c t c)) (ht : t < c) (ha : a < c) (hf1 : 1 ≤ fr) (hl1 : 40 ≤ lo) (kk : ∀ h k, wyI h0 h f k → k ≤ 61 → Q (some (.int (f a)), h, 198, sl)) : ∀ (m s k : Nat) (h : pm_H) (x4 x5 x6 : Option Value), lD w c t c s ≤ m → s < c → lD w c t c s < INF → k + m ≤ 60 → wyI h0 h f k → pm_WP PT fr lo 238 (56, [some (.ref 162), some (.int (nI a)), some (.int (nI t)), some (.int (nI s)), x4, x5, x6], [], h, 198, sl) Q := by
  intro m
  induction m with
  | zero =>
    intro s k h x4 x5 x6 hm hs hi hk hq
    by_cases z : s = t
    · subst z
      obtain ⟨d, m0, m1, -, m4⟩ := id hq
      have p39 := dD_mF d rfl h39
      refine wp_i rfl rfl rfl rfl ?_
      refine wp_i rfl rfl rfl rfl ?_
      show pm_WP PT fr lo 238 (58, [some (.ref 162), some (.int (nI a)), some (.int (nI s)), some (.int (nI s)), x4, x5, x6], [.int (nI s), .int (nI s)], h, 198, sl) _
      refine wp_icmp (c := .eq) (off := 88) (t := 146) rfl rfl (fun _ => ?_) (fun q => absurd (q.symm.trans ((hI_eq (by omega) (by omega)).trans (decide_eq_true rfl))) (by decide))
      refine wp_i rfl rfl rfl rfl ?_
      show pm_WP PT fr lo 238 (147, [some (.ref 162), some (.int (nI a)), some (.int (nI s)), some (.int (nI s)), x4, x5, x6], [.ref 162], h, 198, sl) _
      refine wp_gfm rfl rfl p39 ?_
      refine wp_i rfl rfl rfl rfl ?_
      show pm_WP PT fr lo 238 (151, [some (.ref 162), some (.int (nI a)), some (.int (nI s)), some (.int (nI s)), x4, x5, x6], [.int (nI a), .ref 185], h, 198, sl) _
      refine wp_iam rfl m4 (hI_in (by omega) (by omega)) (by decide) ?_
      rw [nI_clamp (by omega)]
      show pm_WP PT fr lo 238 (152, [some (.ref 162), some (.int (nI a)), some (.int (nI s)), some (.int (nI s)), x4, x5, x6], [.int (f a)], h, 198, sl) _
      exact wp_iret rfl rfl (kk h k hq (by omega))
    · obtain ⟨b, q1, q2, q3⟩ := lD_eqw (w := w) (n := c) (t := t) hs z hi
      omega
  | succ m ih =>
    intro s k h x4 x5 x6 hm hs hi hk hq
    obtain ⟨d, m0, m1, ⟨R, m3⟩, m4⟩ := id hq
    have p39 := dD_mF d rfl h39
    by_cases z : s = t
    · subst z
      refine wp_i rfl rfl rfl rfl ?_
      refine wp_i rfl rfl rfl rfl ?_
      show pm_WP PT fr lo 238 (58, [some (.ref 162), some (.int (nI a)), some (.int (nI s)), some (.int (nI s)), x4, x5, x6], [.int (nI s), .int (nI s)], h, 198, sl) _
      refine wp_icmp (c := .eq) (off := 88) (t := 146) rfl rfl (fun _ => ?_) (fun q => absurd (q.symm.trans ((hI_eq (by omega) (by omega)).trans (decide_eq_true rfl))) (by decide))
      refine wp_i rfl rfl rfl rfl ?_
      show pm_WP PT fr lo 238 (147, [some (.ref 162), some (.int (nI a)), some (.int (nI s)), some (.int (nI s)), x4, x5, x6], [.ref 162], h, 198, sl) _
      refine wp_gfm rfl rfl p39 ?_
      refine wp_i rfl rfl rfl rfl ?_
      show pm_WP PT fr lo 238 (151, [some (.ref 162), some (.int (nI a)), some (.int (nI s)), some (.int (nI s)), x4, x5, x6], [.int (nI a), .ref 185], h, 198, sl) _
      refine wp_iam rfl m4 (hI_in (by omega) (by omega)) (by decide) ?_
      rw [nI_clamp (by omega)]
      show pm_WP PT fr lo 238 (152, [some (.ref 162), some (.int (nI a)), some (.int (nI s)), some (.int (nI s)), x4, x5, x6], [.int (f a)], h, 198, sl) _
      exact wp_iret rfl rfl (kk h k hq (by omega))
    · have p3 := dD_mF d rfl h3
      have p11 := dD_mF d rfl h11
      have p2 := dD_mF d rfl h2
      have pR := (d.1 169 (by decide) rfl).trans hR
      obtain ⟨b0, q1, q2, q3⟩ := lD_eqw (w := w) (n := c) (t := t) hs z hi
      refine wp_i rfl rfl rfl rfl ?_
      refine wp_i rfl rfl rfl rfl ?_
      show pm_WP PT fr lo 238 (58, [some (.ref 162), some (.int (nI a)), some (.int (nI t)), some (.int (nI s)), x4, x5, x6], [.int (nI t), .int (nI s)], h, 198, sl) _
      refine wp_icmp (c := .eq) (off := 88) (t := 146) rfl rfl (fun q => absurd (q.symm.trans ((hI_eq (by omega) (by omega)).trans (decide_eq_false z))) (by decide)) (fun _ => ?_)
      refine wp_i rfl rfl rfl rfl ?_
      refine wp_i rfl rfl rfl rfl ?_
      refine wp_i rfl rfl rfl rfl ?_
      refine wp_i rfl rfl rfl rfl ?_
      show pm_WP PT fr lo 238 (67, [some (.ref 162), some (.int (nI a)), some (.int (nI t)), some (.int (nI s)), some (.int (-1)), some (.int 0), x6], [], h, 198, sl) _
      refine wy_S p3 hc p39 p11 pR hw m4 hf hs (fun b y5 y6 r1 r2 r3 => ?_) c 0 x6 (by omega) ⟨b0, by omega, q1, q2, q3⟩
      refine wp_i rfl rfl rfl rfl ?_
      refine wp_i rfl rfl rfl rfl ?_
      refine wp_i rfl rfl rfl rfl ?_
      refine wp_i rfl rfl rfl rfl ?_
      refine wp_i rfl rfl rfl rfl ?_
      show pm_WP PT fr lo 238 (140, [some (.ref 162), some (.int (nI a)), some (.int (nI t)), some (.int (nI b)), some (.int (nI b)), y5, y6], [.long ((nI b)).toInt64, .ref 162], h, 198, sl) _
      refine wp_callM (t := 167) (As := [.long ((nI b)).toInt64]) (rest := []) (mx := 3) rfl rfl rfl rfl (Nat.le_of_ble_eq_true rfl) (Nat.le_of_ble_eq_true rfl) hf1 (by omega) rfl (mF_obj m1) (wp_mono (hd_enters (nI b).toInt64 m1 (by omega) p2 m3) ?_)
      rintro _ rfl
      show pm_WP PT fr lo 238 (143, [some (.ref 162), some (.int (nI a)), some (.int (nI t)), some (.int (nI b)), some (.int (nI b)), y5, y6], [], (mset (lset h 163 128 (vp_updL R k (nI b).toInt64)) 1 (.int (nI (k + 1)))), 198, sl) _
      refine wp_i rfl rfl rfl rfl ?_
      show pm_WP PT fr lo 238 (56, [some (.ref 162), some (.int (nI a)), some (.int (nI t)), some (.int (nI b)), some (.int (nI b)), y5, y6], [], (mset (lset h 163 128 (vp_updL R k (nI b).toInt64)) 1 (.int (nI (k + 1)))), 198, sl) _
      exact ih b (k + 1) _ _ _ _ (by omega) r1 (by omega) (by omega) (wyI_en (R := R) hq)
theorem hm_way (hI : mInv h) (x y : Int32) (hf : 100 ≤ fr) (hl : 4000 ≤ lo) : pm_WP PT fr lo 238 (0, pm_l0 [.ref 162, .int x, .int y] 7, [], h, 198, sl) (mPost anInt h sl) := by
  obtain ⟨hh, hq⟩ := id hI
  obtain ⟨x0, h0, -⟩ := ty_fld hh (g := 0) rfl
  obtain ⟨x1, h1, -⟩ := ty_fld hh (g := 1) rfl
  obtain ⟨c, h3, hc⟩ := ty_nat hh (g := 3) (u := 6) rfl (by decide)
  have h2 := ty_ref hh (g := 2) (p := 163) rfl
  have h39 := ty_ref hh (g := 39) (p := 185) rfl
  have h11 := ty_ref hh (g := 11) (p := 169) rfl
  obtain ⟨rd, w, hR, hw⟩ := ty_rd hh
  obtain ⟨f0, hF, tF⟩ := ty_far hh
  obtain ⟨R, hL⟩ := ty_lar hh
  refine wp_i rfl rfl rfl rfl ?_
  refine wp_i rfl rfl rfl rfl ?_
  show pm_WP PT fr lo 238 (2, [some (.ref 162), some (.int x), some (.int y), none, none, none, none], [.int 0, .ref 162], h, 198, sl) _
  refine wp_pfm rfl rfl rfl (by decide) h0 ?_
  refine wp_i rfl rfl rfl rfl ?_
  refine wp_i rfl rfl rfl rfl ?_
  show pm_WP PT fr lo 238 (7, [some (.ref 162), some (.int x), some (.int y), none, none, none, none], [.int x, .ref 162], (mset h 0 (.int 0)), 198, sl) _
  refine wp_callM (t := 168) (As := [.int x]) (rest := []) (mx := 2) rfl rfl rfl rfl (Nat.le_of_ble_eq_true rfl) (Nat.le_of_ble_eq_true rfl) (by omega) (by omega) rfl (mF_obj (mF_self h0)) (wp_mono (hd_isCourt (c := c) x (mF_ne (by decide) h3) (by omega) (by omega)) ?_)
  rintro _ rfl
  cases b1 : in_b x.toInt64 0 (nI c - 1).toInt64 with
  | false =>
    show pm_WP PT fr lo 238 (10, [some (.ref 162), some (.int x), some (.int y), none, none, none, none], [.int 0], (mset h 0 (.int 0)), 198, sl) _
    refine wp_i rfl rfl rfl rfl ?_
    refine wp_i rfl rfl rfl rfl ?_
    show pm_WP PT fr lo 238 (22, [some (.ref 162), some (.int x), some (.int y), none, none, none, none], [.int (-1)], (mset h 0 (.int 0)), 198, sl) _
    exact wp_iret rfl rfl (post0 hI h0 ⟨_, rfl⟩)
  | true =>
    show pm_WP PT fr lo 238 (10, [some (.ref 162), some (.int x), some (.int y), none, none, none, none], [.int 1], (mset h 0 (.int 0)), 198, sl) _
    refine wp_i rfl rfl rfl rfl ?_
    refine wp_i rfl rfl rfl rfl ?_
    refine wp_i rfl rfl rfl rfl ?_
    show pm_WP PT fr lo 238 (15, [some (.ref 162), some (.int x), some (.int y), none, none, none, none], [.int y, .ref 162], (mset h 0 (.int 0)), 198, sl) _
    refine wp_callM (t := 168) (As := [.int y]) (rest := []) (mx := 2) rfl rfl rfl rfl (Nat.le_of_ble_eq_true rfl) (Nat.le_of_ble_eq_true rfl) (by omega) (by omega) rfl (mF_obj (mF_self h0)) (wp_mono (hd_isCourt (c := c) y (mF_ne (by decide) h3) (by omega) (by omega)) ?_)
    rintro _ rfl
    cases b2 : in_b y.toInt64 0 (nI c - 1).toInt64 with
    | false =>
      show pm_WP PT fr lo 238 (18, [some (.ref 162), some (.int x), some (.int y), none, none, none, none], [.int 0], (mset h 0 (.int 0)), 198, sl) _
      refine wp_i rfl rfl rfl rfl ?_
      refine wp_i rfl rfl rfl rfl ?_
      show pm_WP PT fr lo 238 (22, [some (.ref 162), some (.int x), some (.int y), none, none, none, none], [.int (-1)], (mset h 0 (.int 0)), 198, sl) _
      exact wp_iret rfl rfl (post0 hI h0 ⟨_, rfl⟩)
    | true =>
      show pm_WP PT fr lo 238 (18, [some (.ref 162), some (.int x), some (.int y), none, none, none, none], [.int 1], (mset h 0 (.int 0)), 198, sl) _
      refine wp_i rfl rfl rfl rfl ?_
      obtain ⟨a, rfl, ha⟩ := isC_iv hc b1
      obtain ⟨t, rfl, ht⟩ := isC_iv hc b2
      show pm_WP PT fr lo 238 (23, [some (.ref 162), some (.int (nI a)), some (.int (nI t)), none, none, none, none], [], (mset h 0 (.int 0)), 198, sl) _
      refine wp_i rfl rfl rfl rfl ?_
      refine wp_i rfl rfl rfl rfl ?_
      show pm_WP PT fr lo 238 (25, [some (.ref 162), some (.int (nI a)), some (.int (nI t)), none, none, none, none], [.int (nI t), .ref 162], (mset h 0 (.int 0)), 198, sl) _
      refine wp_callM (t := 237) (As := [.int (nI t)]) (rest := []) (mx := 6) rfl rfl rfl rfl (Nat.le_of_ble_eq_true rfl) (Nat.le_of_ble_eq_true rfl) (by omega) (by omega) rfl (mF_obj (mF_self h0)) (wp_mono (hd_laysFar (w := w) (mF_ne (by decide) h3) hc (mF_ne (by decide) h39) (mF_ne (by decide) h11) (mset_arr (by decide) hR) hw (mset_arr (by decide) hF) (by omega) (by omega) (by omega)) ?_)
      rintro _ ⟨f, rfl, hf2⟩
      have tf := far_ty tF hf2
      obtain ⟨ea, la⟩ := hf2.1 a ha
      have hI0 := INF_lt
      refine wp_i rfl rfl rfl rfl ?_
      show pm_WP PT fr lo 238 (29, [some (.ref 162), some (.int (nI a)), some (.int (nI t)), none, none, none, none], [.ref 162], (aset (mset h 0 (.int 0)) 185 6 f), 198, sl) _
      refine wp_gfm rfl rfl (mF_as (by decide) (mF_ne (by decide) h39)) ?_
      refine wp_i rfl rfl rfl rfl ?_
      show pm_WP PT fr lo 238 (33, [some (.ref 162), some (.int (nI a)), some (.int (nI t)), none, none, none, none], [.int (nI a), .ref 185], (aset (mset h 0 (.int 0)) 185 6 f), 198, sl) _
      refine wp_iam rfl (aset_self _ _ _ _) (hI_in (by omega) (by omega)) (by decide) ?_
      rw [nI_clamp (by omega), ea]
      show pm_WP PT fr lo 238 (34, [some (.ref 162), some (.int (nI a)), some (.int (nI t)), none, none, none, none], [.int (nI (lD w c t c a))], (aset (mset h 0 (.int 0)) 185 6 f), 198, sl) _
      refine wp_i rfl rfl rfl rfl ?_
      show pm_WP PT fr lo 238 (37, [some (.ref 162), some (.int (nI a)), some (.int (nI t)), none, none, none, none], [.int 1000000, .int (nI (lD w c t c a))], (aset (mset h 0 (.int 0)) 185 6 f), 198, sl) _
      refine wp_icmp (c := .lt) (off := 6) (t := 43) rfl rfl (fun q => ?_) (fun q => ?_)
      · have q : lD w c t c a < INF := of_decide_eq_true ((hI_lt (b := 1000000) (by omega) (by omega)).symm.trans q)
        refine wp_i rfl rfl rfl rfl ?_
        refine wp_i rfl rfl rfl rfl ?_
        show pm_WP PT fr lo 238 (45, [some (.ref 162), some (.int (nI a)), some (.int (nI t)), none, none, none, none], [.int 0, .ref 162], (aset (mset h 0 (.int 0)) 185 6 f), 198, sl) _
        refine wp_pfm rfl rfl rfl (by decide) (mF_as (by decide) (mF_ne (by decide) h1)) ?_
        refine wp_i rfl rfl rfl rfl ?_
        refine wp_i rfl rfl rfl rfl ?_
        refine wp_i rfl rfl rfl rfl ?_
        refine wp_i rfl rfl rfl rfl ?_
        refine wp_i rfl rfl rfl rfl ?_
        have w0 : wyI h (mset (aset (mset h 0 (.int 0)) 185 6 f) 1 (.int 0)) f 0 := ⟨dD_tr (dD_tr (dD_set rfl) (dD_arr rfl (by decide))) (dD_set rfl), mF_ne (by decide) (mF_as (by decide) (mF_self h0)), mF_self (mF_as (by decide) (mF_ne (by decide) h1)), ⟨R, by rw [mset_ne (by decide), aset_nei (by decide), mset_ne (by decide)]; exact hL⟩, mset_arr (by decide) (aset_self _ _ _ _)⟩
        generalize (mset (aset (mset h 0 (.int 0)) 185 6 f) 1 (.int 0)) = hg at w0 ⊢
        obtain ⟨R2, m3⟩ := id w0.2.2.2.1
        show pm_WP PT fr lo 238 (53, [some (.ref 162), some (.int (nI a)), some (.int (nI t)), some (.int (nI a)), none, none, none], [.long ((nI a)).toInt64, .ref 162], hg, 198, sl) _
        refine wp_callM (t := 167) (As := [.long ((nI a)).toInt64]) (rest := []) (mx := 3) rfl rfl rfl rfl (Nat.le_of_ble_eq_true rfl) (Nat.le_of_ble_eq_true rfl) (by omega) (by omega) rfl (mF_obj w0.2.2.1) (wp_mono (hd_enters (nI a).toInt64 w0.2.2.1 (by omega) (dD_mF w0.1 rfl h2) m3) ?_)
        rintro _ rfl
        show pm_WP PT fr lo 238 (56, [some (.ref 162), some (.int (nI a)), some (.int (nI t)), some (.int (nI a)), none, none, none], [], (mset (lset hg 163 128 (vp_updL R2 0 (nI a).toInt64)) 1 (.int (nI (0 + 1)))), 198, sl) _
        have hb := lD_bd (w := w) (n := c) (t := t) (fun i j hi hj => (hw i j (by omega) (by omega)).2) c a ha
        exact wy_L h3 hc h39 h11 h2 hR hw hf2 ht ha (by omega) (by omega) (fun h2 k q1 q2 => wyP hI q1 (by omega) tf ⟨_, rfl⟩) 54 a (0 + 1) _ none none none (by omega) ha q (by omega) (wyI_en (R := R2) w0)
      · refine wp_i rfl rfl rfl rfl ?_
        show pm_WP PT fr lo 238 (42, [some (.ref 162), some (.int (nI a)), some (.int (nI t)), none, none, none, none], [.int (-2)], (aset (mset h 0 (.int 0)) 185 6 f), 198, sl) _
        obtain ⟨k1, h1, lk⟩ := ty_nat hh (g := 1) (u := 100) rfl (by decide)
        exact wp_iret rfl rfl (wyP hI ⟨dD_tr (dD_set rfl) (dD_arr rfl (by decide)), mF_as (by decide) (mF_self h0), mF_as (by decide) (mF_ne (by decide) h1), ⟨R, by rw [aset_nei (by decide), mset_ne (by decide)]; exact hL⟩, aset_self _ _ _ _⟩ lk tf ⟨_, rfl⟩)
end WAY
