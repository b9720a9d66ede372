/-! the lengths of the ways, by hand -/
section LFR
variable {fr lo sl : Nat} {h : pm_H} {Q : pm_Rs → Prop} {c t : Nat} {w : Nat → Nat → Nat} {rd f0 : Nat → Int32}
theorem ix6 (u k : Nat) : (6 : Int32) * nI u + nI k = nI (6 * u + k) := by rw [show (6 : Int32) = nI 6 from rfl, hI_mul, nI_add]
/-- the roads as numbers -/
def rdOk (rd : Nat → Int32) (w : Nat → Nat → Nat) : Prop := ∀ a b, a < 6 → b < 6 → rd (6 * a + b) = nI (w a b) ∧ w a b ≤ 9
/-- the lengths as numbers -/
def frOk (c : Nat) (f0 f : Nat → Int32) (F : Nat → Nat) : Prop := (∀ j, j < c → f j = nI (F j) ∧ F j ≤ INF) ∧ ∀ j, c ≤ j → f j = f0 j
theorem INF_lt : INF = 1000000 := rfl
theorem frOk_up {f : Nat → Int32} {F : Nat → Nat} {a b : Nat} {v : Int32} (ha : a < c) (h : frOk c f0 f F) (hv : v = nI (fst1 w F a b a)) : frOk c f0 (upd f a v) (fst1 w F a b) := by
  refine ⟨fun j hj => ?_, fun j hj => ?_⟩
  · refine ⟨?_, Nat.le_trans (fst1_le _ _ _ _) (h.1 j hj).2⟩
    by_cases e : j = a
    · subst e
      simp only [upd, if_true]
      exact hv
    · simp only [upd, if_neg e]
      rw [(h.1 j hj).1]
      unfold fst1
      rw [if_neg e]
  · have : ¬ j = a := by omega
    simp only [upd, if_neg this]
    exact h.2 j hj
theorem fst1_no {F : Nat → Nat} {a b : Nat} (hw : ¬ 0 < w a b) : fst1 w F a b a = F a := by
  unfold fst1
  rw [if_pos rfl, if_neg hw]
theorem fst1_yes {F : Nat → Nat} {a b : Nat} (hw : 0 < w a b) : fst1 w F a b a = min (F a) (F b + w a b) := by
  unfold fst1
  rw [if_pos rfl, if_pos hw]
theorem lf_A (h3 : mF h 3 (.int (nI c))) (hc : c ≤ 6) (h39 : mF h 39 (.ref 185)) (h11 : mF h 11 (.ref 169)) (hR : h 169 = .inl (0, 36, .inl rd)) (hw : rdOk rd w) (ht : t < 1000000) (kk : ∀ f, frOk c f0 f (fun j => if j = t then 0 else INF) → pm_WP PT fr lo 237 (34, [some (.ref 162), some (.int (nI t)), some (.int (nI c)), none, none, none], [], aset h 185 6 f, 198, sl) Q) : ∀ (m i : Nat) (f : Nat → Int32), i + m = c → (∀ j, j < i → f j = nI (if j = t then 0 else INF)) → (∀ j, c ≤ j → f j = f0 j) → pm_WP PT fr lo 237 (2, [some (.ref 162), some (.int (nI t)), some (.int (nI i)), none, none, none], [], aset h 185 6 f, 198, sl) Q := by
  intro m
  induction m with
  | zero =>
    intro i f hi e1 e2
    obtain rfl : i = c := by omega
    refine wp_i rfl rfl rfl rfl ?_
    refine wp_i rfl rfl rfl rfl ?_
    show pm_WP PT fr lo 237 (4, [some (.ref 162), some (.int (nI t)), some (.int (nI i)), none, none, none], [.ref 162, .int (nI i)], (aset h 185 6 f), 198, sl) _
    refine wp_gfm rfl rfl (mF_as (by decide) h3) ?_
    show pm_WP PT fr lo 237 (7, [some (.ref 162), some (.int (nI t)), some (.int (nI i)), none, none, none], [.int (nI i), .int (nI i)], (aset h 185 6 f), 198, sl) _
    refine wp_icmp (c := .ge) (off := 27) (t := 34) rfl rfl (fun _ => ?_) (fun q => absurd (q.symm.trans ((hI_ge (by omega) (by omega)).trans (decide_eq_true (by omega)))) (by decide))
    show pm_WP PT fr lo 237 (34, [some (.ref 162), some (.int (nI t)), some (.int (nI i)), none, none, none], [], (aset h 185 6 f), 198, sl) _
    refine kk f ⟨fun j hj => ⟨e1 j hj, ?_⟩, e2⟩
    show (if j = t then 0 else INF) ≤ INF
    split
    · exact Nat.zero_le _
    · exact Nat.le_refl _
  | succ m ih =>
    intro i f hi e1 e2
    refine wp_i rfl rfl rfl rfl ?_
    refine wp_i rfl rfl rfl rfl ?_
    show pm_WP PT fr lo 237 (4, [some (.ref 162), some (.int (nI t)), some (.int (nI i)), none, none, none], [.ref 162, .int (nI i)], (aset h 185 6 f), 198, sl) _
    refine wp_gfm rfl rfl (mF_as (by decide) h3) ?_
    show pm_WP PT fr lo 237 (7, [some (.ref 162), some (.int (nI t)), some (.int (nI i)), none, none, none], [.int (nI c), .int (nI i)], (aset h 185 6 f), 198, sl) _
    refine wp_icmp (c := .ge) (off := 27) (t := 34) rfl rfl (fun q => absurd (q.symm.trans ((hI_ge (by omega) (by omega)).trans (decide_eq_false (by omega)))) (by decide)) (fun _ => ?_)
    refine wp_i rfl rfl rfl rfl ?_
    show pm_WP PT fr lo 237 (11, [some (.ref 162), some (.int (nI t)), some (.int (nI i)), none, none, none], [.ref 162], (aset h 185 6 f), 198, sl) _
    refine wp_gfm rfl rfl (mF_as (by decide) h39) ?_
    refine wp_i rfl rfl rfl rfl ?_
    refine wp_i rfl rfl rfl rfl ?_
    refine wp_i rfl rfl rfl rfl ?_
    show pm_WP PT fr lo 237 (17, [some (.ref 162), some (.int (nI t)), some (.int (nI i)), none, none, none], [.int (nI t), .int (nI i), .int (nI i), .ref 185], (aset h 185 6 f), 198, sl) _
    refine wp_icmp (c := .ne) (off := 7) (t := 24) rfl rfl (fun q => ?_) (fun q => ?_)
    · have q : ¬ i = t := of_decide_eq_true ((hI_ne (by omega) (by omega)).symm.trans q)
      refine wp_i rfl rfl rfl rfl ?_
      show pm_WP PT fr lo 237 (27, [some (.ref 162), some (.int (nI t)), some (.int (nI i)), none, none, none], [.int 1000000, .int (nI i), .ref 185], (aset h 185 6 f), 198, sl) _
      refine wp_ism rfl (aset_self _ _ _ _) (hI_in (by omega) (by omega)) (by decide) ?_
      rw [nI_clamp (by omega)]
      refine wp_i rfl rfl rfl rfl ?_
      refine wp_i rfl rfl rfl rfl ?_
      show pm_WP PT fr lo 237 (2, [some (.ref 162), some (.int (nI t)), some (.int (nI i + 1)), none, none, none], [], (aset (aset h 185 6 f) 185 6 (upd f i (1000000))), 198, sl) _
      rw [nI_1 i, aset_aset]
      refine ih (i + 1) _ (by omega) (fun j hj => ?_) (fun j hj => ?_)
      · by_cases e : j = i
        · subst e
          simp only [upd, if_true]
          rw [if_neg q]
          rfl
        · simp only [upd, if_neg e]
          exact e1 j (by omega)
      · have : ¬ j = i := by omega
        simp only [upd, if_neg this]
        exact e2 j hj
    · have q : i = t := Decidable.not_not.mp (of_decide_eq_false ((hI_ne (by omega) (by omega)).symm.trans q))
      refine wp_i rfl rfl rfl rfl ?_
      refine wp_i rfl rfl rfl rfl ?_
      show pm_WP PT fr lo 237 (27, [some (.ref 162), some (.int (nI t)), some (.int (nI i)), none, none, none], [.int 0, .int (nI i), .ref 185], (aset h 185 6 f), 198, sl) _
      refine wp_ism rfl (aset_self _ _ _ _) (hI_in (by omega) (by omega)) (by decide) ?_
      rw [nI_clamp (by omega)]
      refine wp_i rfl rfl rfl rfl ?_
      refine wp_i rfl rfl rfl rfl ?_
      show pm_WP PT fr lo 237 (2, [some (.ref 162), some (.int (nI t)), some (.int (nI i + 1)), none, none, none], [], (aset (aset h 185 6 f) 185 6 (upd f i (0))), 198, sl) _
      rw [nI_1 i, aset_aset]
      refine ih (i + 1) _ (by omega) (fun j hj => ?_) (fun j hj => ?_)
      · by_cases e : j = i
        · subst e
          simp only [upd, if_true]
          rw [if_pos q]
          rfl
        · simp only [upd, if_neg e]
          exact e1 j (by omega)
      · have : ¬ j = i := by omega
        simp only [upd, if_neg this]
        exact e2 j hj
theorem lf_B (h3 : mF h 3 (.int (nI c))) (hc : c ≤ 6) (h39 : mF h 39 (.ref 185)) (h11 : mF h 11 (.ref 169)) (hR : h 169 = .inl (0, 36, .inl rd)) (hw : rdOk rd w) (hf : 1 ≤ fr) (hl : 20 ≤ lo) {r a : Nat} (ha : a < c) (kk : ∀ f F x5, frOk c f0 f F → fOk w c t r a c F → pm_WP PT fr lo 237 (125, [some (.ref 162), some (.int (nI t)), some (.int (nI r)), some (.int (nI a)), some (.int (nI c)), x5], [], aset h 185 6 f, 198, sl) Q) : ∀ (m b : Nat) (f : Nat → Int32) (F : Nat → Nat) (x5 : Option Value), b + m = c → frOk c f0 f F → fOk w c t r a b F → pm_WP PT fr lo 237 (57, [some (.ref 162), some (.int (nI t)), some (.int (nI r)), some (.int (nI a)), some (.int (nI b)), x5], [], aset h 185 6 f, 198, sl) Q := by
  intro m
  induction m with
  | zero =>
    intro b f F x5 hb e1 e2
    obtain rfl : b = c := by omega
    refine wp_i rfl rfl rfl rfl ?_
    refine wp_i rfl rfl rfl rfl ?_
    show pm_WP PT fr lo 237 (60, [some (.ref 162), some (.int (nI t)), some (.int (nI r)), some (.int (nI a)), some (.int (nI b)), x5], [.ref 162, .int (nI b)], (aset h 185 6 f), 198, sl) _
    refine wp_gfm rfl rfl (mF_as (by decide) h3) ?_
    show pm_WP PT fr lo 237 (63, [some (.ref 162), some (.int (nI t)), some (.int (nI r)), some (.int (nI a)), some (.int (nI b)), x5], [.int (nI b), .int (nI b)], (aset h 185 6 f), 198, sl) _
    refine wp_icmp (c := .ge) (off := 62) (t := 125) rfl rfl (fun _ => ?_) (fun q => absurd (q.symm.trans ((hI_ge (by omega) (by omega)).trans (decide_eq_true (by omega)))) (by decide))
    show pm_WP PT fr lo 237 (125, [some (.ref 162), some (.int (nI t)), some (.int (nI r)), some (.int (nI a)), some (.int (nI b)), x5], [], (aset h 185 6 f), 198, sl) _
    exact kk f F x5 e1 e2
  | succ m ih =>
    intro b f F x5 hb e1 e2
    have hbc : b < c := by omega
    obtain ⟨ew, hw9⟩ := hw a b (by omega) (by omega)
    obtain ⟨ea, la⟩ := e1.1 a ha
    obtain ⟨eb, lb⟩ := e1.1 b hbc
    have hI0 := INF_lt
    refine wp_i rfl rfl rfl rfl ?_
    refine wp_i rfl rfl rfl rfl ?_
    show pm_WP PT fr lo 237 (60, [some (.ref 162), some (.int (nI t)), some (.int (nI r)), some (.int (nI a)), some (.int (nI b)), x5], [.ref 162, .int (nI b)], (aset h 185 6 f), 198, sl) _
    refine wp_gfm rfl rfl (mF_as (by decide) h3) ?_
    show pm_WP PT fr lo 237 (63, [some (.ref 162), some (.int (nI t)), some (.int (nI r)), some (.int (nI a)), some (.int (nI b)), x5], [.int (nI c), .int (nI b)], (aset h 185 6 f), 198, sl) _
    refine wp_icmp (c := .ge) (off := 62) (t := 125) rfl rfl (fun q => absurd (q.symm.trans ((hI_ge (by omega) (by omega)).trans (decide_eq_false (by omega)))) (by decide)) (fun _ => ?_)
    refine wp_i rfl rfl rfl rfl ?_
    show pm_WP PT fr lo 237 (67, [some (.ref 162), some (.int (nI t)), some (.int (nI r)), some (.int (nI a)), some (.int (nI b)), x5], [.ref 162], (aset h 185 6 f), 198, sl) _
    refine wp_gfm rfl rfl (mF_as (by decide) h11) ?_
    refine wp_i rfl rfl rfl rfl ?_
    refine wp_i rfl rfl rfl rfl ?_
    refine wp_i rfl rfl rfl rfl ?_
    refine wp_i rfl rfl rfl rfl ?_
    refine wp_i rfl rfl rfl rfl ?_
    show pm_WP PT fr lo 237 (77, [some (.ref 162), some (.int (nI t)), some (.int (nI r)), some (.int (nI a)), some (.int (nI b)), x5], [.int ((6 * (nI a)) + (nI b)), .ref 169], (aset h 185 6 f), 198, sl) _
    rw [ix6 a b]
    show pm_WP PT fr lo 237 (77, [some (.ref 162), some (.int (nI t)), some (.int (nI r)), some (.int (nI a)), some (.int (nI b)), x5], [.int (nI (6 * a + b)), .ref 169], (aset h 185 6 f), 198, sl) _
    refine wp_iam rfl (aset_ne (by decide) hR) (hI_in (by omega) (by omega)) (by decide) ?_
    rw [nI_clamp (by omega), ew]
    show pm_WP PT fr lo 237 (78, [some (.ref 162), some (.int (nI t)), some (.int (nI r)), some (.int (nI a)), some (.int (nI b)), x5], [.int (nI (w a b))], (aset h 185 6 f), 198, sl) _
    refine wp_i rfl rfl rfl rfl ?_
    refine wp_i rfl rfl rfl rfl ?_
    show pm_WP PT fr lo 237 (81, [some (.ref 162), some (.int (nI t)), some (.int (nI r)), some (.int (nI a)), some (.int (nI b)), some (.int (nI (w a b)))], [.ref 162], (aset h 185 6 f), 198, sl) _
    refine wp_gfm rfl rfl (mF_as (by decide) h39) ?_
    refine wp_i rfl rfl rfl rfl ?_
    refine wp_i rfl rfl rfl rfl ?_
    show pm_WP PT fr lo 237 (87, [some (.ref 162), some (.int (nI t)), some (.int (nI r)), some (.int (nI a)), some (.int (nI b)), some (.int (nI (w a b)))], [.int (nI (w a b)), .int (nI a), .ref 185], (aset h 185 6 f), 198, sl) _
    refine wp_if (c := .le) (off := 25) (t := 112) rfl rfl (fun q => ?_) (fun q => ?_)
    · have q : ¬ 0 < w a b := Nat.not_lt.mpr (of_decide_eq_true ((hI_le (b := 0) (by omega) (by omega)).symm.trans q))
      refine wp_i rfl rfl rfl rfl ?_
      show pm_WP PT fr lo 237 (113, [some (.ref 162), some (.int (nI t)), some (.int (nI r)), some (.int (nI a)), some (.int (nI b)), some (.int (nI (w a b)))], [.ref 162, .int (nI a), .ref 185], (aset h 185 6 f), 198, sl) _
      refine wp_gfm rfl rfl (mF_as (by decide) h39) ?_
      refine wp_i rfl rfl rfl rfl ?_
      show pm_WP PT fr lo 237 (117, [some (.ref 162), some (.int (nI t)), some (.int (nI r)), some (.int (nI a)), some (.int (nI b)), some (.int (nI (w a b)))], [.int (nI a), .ref 185, .int (nI a), .ref 185], (aset h 185 6 f), 198, sl) _
      refine wp_iam rfl (aset_self _ _ _ _) (hI_in (by omega) (by omega)) (by decide) ?_
      rw [nI_clamp (by omega), ea]
      show pm_WP PT fr lo 237 (118, [some (.ref 162), some (.int (nI t)), some (.int (nI r)), some (.int (nI a)), some (.int (nI b)), some (.int (nI (w a b)))], [.int (nI (F a)), .int (nI a), .ref 185], (aset h 185 6 f), 198, sl) _
      show pm_WP PT fr lo 237 (118, [some (.ref 162), some (.int (nI t)), some (.int (nI r)), some (.int (nI a)), some (.int (nI b)), some (.int (nI (w a b)))], [.int (nI (F a)), .int (nI a), .ref 185], (aset h 185 6 f), 198, sl) _
      refine wp_ism rfl (aset_self _ _ _ _) (hI_in (by omega) (by omega)) (by decide) ?_
      rw [nI_clamp (by omega)]
      refine wp_i rfl rfl rfl rfl ?_
      refine wp_i rfl rfl rfl rfl ?_
      show pm_WP PT fr lo 237 (57, [some (.ref 162), some (.int (nI t)), some (.int (nI r)), some (.int (nI a)), some (.int (nI b + 1)), some (.int (nI (w a b)))], [], (aset (aset h 185 6 f) 185 6 (upd f a (nI (F a)))), 198, sl) _
      rw [nI_1 b, aset_aset]
      exact ih (b + 1) _ (fst1 w F a b) _ (by omega) (frOk_up ha e1 (by rw [fst1_no q])) (fOk_b ha hbc e2)
    · have q : 0 < w a b := Nat.lt_of_not_le (of_decide_eq_false ((hI_le (b := 0) (by omega) (by omega)).symm.trans q))
      refine wp_i rfl rfl rfl rfl ?_
      show pm_WP PT fr lo 237 (91, [some (.ref 162), some (.int (nI t)), some (.int (nI r)), some (.int (nI a)), some (.int (nI b)), some (.int (nI (w a b)))], [.ref 162, .int (nI a), .ref 185], (aset h 185 6 f), 198, sl) _
      refine wp_gfm rfl rfl (mF_as (by decide) h39) ?_
      refine wp_i rfl rfl rfl rfl ?_
      show pm_WP PT fr lo 237 (95, [some (.ref 162), some (.int (nI t)), some (.int (nI r)), some (.int (nI a)), some (.int (nI b)), some (.int (nI (w a b)))], [.int (nI a), .ref 185, .int (nI a), .ref 185], (aset h 185 6 f), 198, sl) _
      refine wp_iam rfl (aset_self _ _ _ _) (hI_in (by omega) (by omega)) (by decide) ?_
      rw [nI_clamp (by omega), ea]
      show pm_WP PT fr lo 237 (96, [some (.ref 162), some (.int (nI t)), some (.int (nI r)), some (.int (nI a)), some (.int (nI b)), some (.int (nI (w a b)))], [.int (nI (F a)), .int (nI a), .ref 185], (aset h 185 6 f), 198, sl) _
      refine wp_i rfl rfl rfl rfl ?_
      show pm_WP PT fr lo 237 (97, [some (.ref 162), some (.int (nI t)), some (.int (nI r)), some (.int (nI a)), some (.int (nI b)), some (.int (nI (w a b)))], [.ref 162, .int (nI (F a)), .int (nI a), .ref 185], (aset h 185 6 f), 198, sl) _
      refine wp_gfm rfl rfl (mF_as (by decide) h39) ?_
      refine wp_i rfl rfl rfl rfl ?_
      show pm_WP PT fr lo 237 (102, [some (.ref 162), some (.int (nI t)), some (.int (nI r)), some (.int (nI a)), some (.int (nI b)), some (.int (nI (w a b)))], [.int (nI b), .ref 185, .int (nI (F a)), .int (nI a), .ref 185], (aset h 185 6 f), 198, sl) _
      refine wp_iam rfl (aset_self _ _ _ _) (hI_in (by omega) (by omega)) (by decide) ?_
      rw [nI_clamp (by omega), eb]
      show pm_WP PT fr lo 237 (103, [some (.ref 162), some (.int (nI t)), some (.int (nI r)), some (.int (nI a)), some (.int (nI b)), some (.int (nI (w a b)))], [.int (nI (F b)), .int (nI (F a)), .int (nI a), .ref 185], (aset h 185 6 f), 198, sl) _
      refine wp_i rfl rfl rfl rfl ?_
      refine wp_i rfl rfl rfl rfl ?_
      show pm_WP PT fr lo 237 (106, [some (.ref 162), some (.int (nI t)), some (.int (nI r)), some (.int (nI a)), some (.int (nI b)), some (.int (nI (w a b)))], [.int ((nI (F b)) + (nI (w a b))), .int (nI (F a)), .int (nI a), .ref 185], (aset h 185 6 f), 198, sl) _
      rw [nI_add]
      show pm_WP PT fr lo 237 (106, [some (.ref 162), some (.int (nI t)), some (.int (nI r)), some (.int (nI a)), some (.int (nI b)), some (.int (nI (w a b)))], [.int (nI (F b + w a b)), .int (nI (F a)), .int (nI a), .ref 185], (aset h 185 6 f), 198, sl) _
      refine wp_min rfl rfl hf (by show pm_sum [Value.int (nI a), Value.ref 185] + 13 ≤ lo; have : pm_sum [Value.int (nI a), Value.ref 185] = 2 := rfl; omega) ?_
      rw [hI_min (by omega) (by omega)]
      show pm_WP PT fr lo 237 (109, [some (.ref 162), some (.int (nI t)), some (.int (nI r)), some (.int (nI a)), some (.int (nI b)), some (.int (nI (w a b)))], [.int (nI (min (F a) (F b + w a b))), .int (nI a), .ref 185], (aset h 185 6 f), 198, sl) _
      refine wp_i rfl rfl rfl rfl ?_
      show pm_WP PT fr lo 237 (118, [some (.ref 162), some (.int (nI t)), some (.int (nI r)), some (.int (nI a)), some (.int (nI b)), some (.int (nI (w a b)))], [.int (nI (min (F a) (F b + w a b))), .int (nI a), .ref 185], (aset h 185 6 f), 198, sl) _
      refine wp_ism rfl (aset_self _ _ _ _) (hI_in (by omega) (by omega)) (by decide) ?_
      rw [nI_clamp (by omega)]
      refine wp_i rfl rfl rfl rfl ?_
      refine wp_i rfl rfl rfl rfl ?_
      show pm_WP PT fr lo 237 (57, [some (.ref 162), some (.int (nI t)), some (.int (nI r)), some (.int (nI a)), some (.int (nI b + 1)), some (.int (nI (w a b)))], [], (aset (aset h 185 6 f) 185 6 (upd f a (nI (min (F a) (F b + w a b))))), 198, sl) _
      rw [nI_1 b, aset_aset]
      exact ih (b + 1) _ (fst1 w F a b) _ (by omega) (frOk_up ha e1 (by rw [fst1_yes q])) (fOk_b ha hbc e2)
theorem lf_C (h3 : mF h 3 (.int (nI c))) (hc : c ≤ 6) (h39 : mF h 39 (.ref 185)) (h11 : mF h 11 (.ref 169)) (hR : h 169 = .inl (0, 36, .inl rd)) (hw : rdOk rd w) (hf : 1 ≤ fr) (hl : 20 ≤ lo) {r : Nat} (kk : ∀ f F x4 x5, frOk c f0 f F → fOk w c t r c 0 F → pm_WP PT fr lo 237 (131, [some (.ref 162), some (.int (nI t)), some (.int (nI r)), some (.int (nI c)), x4, x5], [], aset h 185 6 f, 198, sl) Q) : ∀ (m a : Nat) (f : Nat → Int32) (F : Nat → Nat) (x4 x5 : Option Value), a + m = c → frOk c f0 f F → fOk w c t r a 0 F → pm_WP PT fr lo 237 (46, [some (.ref 162), some (.int (nI t)), some (.int (nI r)), some (.int (nI a)), x4, x5], [], aset h 185 6 f, 198, sl) Q := by
  intro m
  induction m with
  | zero =>
    intro a f F x4 x5 ha e1 e2
    obtain rfl : a = c := by omega
    refine wp_i rfl rfl rfl rfl ?_
    refine wp_i rfl rfl rfl rfl ?_
    show pm_WP PT fr lo 237 (48, [some (.ref 162), some (.int (nI t)), some (.int (nI r)), some (.int (nI a)), x4, x5], [.ref 162, .int (nI a)], (aset h 185 6 f), 198, sl) _
    refine wp_gfm rfl rfl (mF_as (by decide) h3) ?_
    show pm_WP PT fr lo 237 (51, [some (.ref 162), some (.int (nI t)), some (.int (nI r)), some (.int (nI a)), x4, x5], [.int (nI a), .int (nI a)], (aset h 185 6 f), 198, sl) _
    refine wp_icmp (c := .ge) (off := 80) (t := 131) rfl rfl (fun _ => ?_) (fun q => absurd (q.symm.trans ((hI_ge (by omega) (by omega)).trans (decide_eq_true (by omega)))) (by decide))
    show pm_WP PT fr lo 237 (131, [some (.ref 162), some (.int (nI t)), some (.int (nI r)), some (.int (nI a)), x4, x5], [], (aset h 185 6 f), 198, sl) _
    exact kk f F x4 x5 e1 e2
  | succ m ih =>
    intro a f F x4 x5 ha e1 e2
    refine wp_i rfl rfl rfl rfl ?_
    refine wp_i rfl rfl rfl rfl ?_
    show pm_WP PT fr lo 237 (48, [some (.ref 162), some (.int (nI t)), some (.int (nI r)), some (.int (nI a)), x4, x5], [.ref 162, .int (nI a)], (aset h 185 6 f), 198, sl) _
    refine wp_gfm rfl rfl (mF_as (by decide) h3) ?_
    show pm_WP PT fr lo 237 (51, [some (.ref 162), some (.int (nI t)), some (.int (nI r)), some (.int (nI a)), x4, x5], [.int (nI c), .int (nI a)], (aset h 185 6 f), 198, sl) _
    refine wp_icmp (c := .ge) (off := 80) (t := 131) rfl rfl (fun q => absurd (q.symm.trans ((hI_ge (by omega) (by omega)).trans (decide_eq_false (by omega)))) (by decide)) (fun _ => ?_)
    refine wp_i rfl rfl rfl rfl ?_
    refine wp_i rfl rfl rfl rfl ?_
    show pm_WP PT fr lo 237 (57, [some (.ref 162), some (.int (nI t)), some (.int (nI r)), some (.int (nI a)), some (.int 0), x5], [], (aset h 185 6 f), 198, sl) _
    refine lf_B h3 hc h39 h11 hR hw hf hl (by omega) (fun f2 F2 y5 g1 g2 => ?_) c 0 f F x5 (by omega) e1 e2
    refine wp_i rfl rfl rfl rfl ?_
    refine wp_i rfl rfl rfl rfl ?_
    show pm_WP PT fr lo 237 (46, [some (.ref 162), some (.int (nI t)), some (.int (nI r)), some (.int (nI a + 1)), some (.int (nI c)), y5], [], (aset h 185 6 f2), 198, sl) _
    rw [nI_1 a]
    exact ih (a + 1) f2 F2 _ _ (by omega) g1 (fOk_a (by omega) g2)
theorem lf_D (h3 : mF h 3 (.int (nI c))) (hc : c ≤ 6) (h39 : mF h 39 (.ref 185)) (h11 : mF h 11 (.ref 169)) (hR : h 169 = .inl (0, 36, .inl rd)) (hw : rdOk rd w) (hf : 1 ≤ fr) (hl : 20 ≤ lo) (kk : ∀ f F, frOk c f0 f F → fOk w c t c 0 0 F → Q (none, aset h 185 6 f, 198, sl)) : ∀ (m r : Nat) (f : Nat → Int32) (F : Nat → Nat) (x3 x4 x5 : Option Value), r + m = c → frOk c f0 f F → fOk w c t r 0 0 F → pm_WP PT fr lo 237 (36, [some (.ref 162), some (.int (nI t)), some (.int (nI r)), x3, x4, x5], [], aset h 185 6 f, 198, sl) Q := by
  intro m
  induction m with
  | zero =>
    intro r f F x3 x4 x5 hr e1 e2
    obtain rfl : r = c := by omega
    refine wp_i rfl rfl rfl rfl ?_
    refine wp_i rfl rfl rfl rfl ?_
    show pm_WP PT fr lo 237 (38, [some (.ref 162), some (.int (nI t)), some (.int (nI r)), x3, x4, x5], [.ref 162, .int (nI r)], (aset h 185 6 f), 198, sl) _
    refine wp_gfm rfl rfl (mF_as (by decide) h3) ?_
    show pm_WP PT fr lo 237 (41, [some (.ref 162), some (.int (nI t)), some (.int (nI r)), x3, x4, x5], [.int (nI r), .int (nI r)], (aset h 185 6 f), 198, sl) _
    refine wp_icmp (c := .ge) (off := 96) (t := 137) rfl rfl (fun _ => ?_) (fun q => absurd (q.symm.trans ((hI_ge (by omega) (by omega)).trans (decide_eq_true (by omega)))) (by decide))
    show pm_WP PT fr lo 237 (137, [some (.ref 162), some (.int (nI t)), some (.int (nI r)), x3, x4, x5], [], (aset h 185 6 f), 198, sl) _
    exact wp_vret rfl rfl (kk f F e1 e2)
  | succ m ih =>
    intro r f F x3 x4 x5 hr e1 e2
    refine wp_i rfl rfl rfl rfl ?_
    refine wp_i rfl rfl rfl rfl ?_
    show pm_WP PT fr lo 237 (38, [some (.ref 162), some (.int (nI t)), some (.int (nI r)), x3, x4, x5], [.ref 162, .int (nI r)], (aset h 185 6 f), 198, sl) _
    refine wp_gfm rfl rfl (mF_as (by decide) h3) ?_
    show pm_WP PT fr lo 237 (41, [some (.ref 162), some (.int (nI t)), some (.int (nI r)), x3, x4, x5], [.int (nI c), .int (nI r)], (aset h 185 6 f), 198, sl) _
    refine wp_icmp (c := .ge) (off := 96) (t := 137) rfl rfl (fun q => absurd (q.symm.trans ((hI_ge (by omega) (by omega)).trans (decide_eq_false (by omega)))) (by decide)) (fun _ => ?_)
    refine wp_i rfl rfl rfl rfl ?_
    refine wp_i rfl rfl rfl rfl ?_
    show pm_WP PT fr lo 237 (46, [some (.ref 162), some (.int (nI t)), some (.int (nI r)), some (.int 0), x4, x5], [], (aset h 185 6 f), 198, sl) _
    refine lf_C h3 hc h39 h11 hR hw hf hl (fun f2 F2 y4 y5 g1 g2 => ?_) c 0 f F x4 x5 (by omega) e1 e2
    refine wp_i rfl rfl rfl rfl ?_
    refine wp_i rfl rfl rfl rfl ?_
    show pm_WP PT fr lo 237 (36, [some (.ref 162), some (.int (nI t)), some (.int (nI r + 1)), some (.int (nI c)), y4, y5], [], (aset h 185 6 f2), 198, sl) _
    rw [nI_1 r]
    exact ih (r + 1) f2 F2 _ _ _ (by omega) g1 (fOk_r g2)
theorem hd_laysFar (h3 : mF h 3 (.int (nI c))) (hc : c ≤ 6) (h39 : mF h 39 (.ref 185)) (h11 : mF h 11 (.ref 169)) (hR : h 169 = .inl (0, 36, .inl rd)) (hw : rdOk rd w) (hF : h 185 = .inl (0, 6, .inl f0)) (ht : t < 1000000) (hf : 1 ≤ fr) (hl : 20 ≤ lo) : pm_WP PT fr lo 237 (0, pm_l0 [.ref 162, .int (nI t)] 6, [], h, 198, sl) (fun x => ∃ f : Nat → Int32, x = (none, aset h 185 6 f, 198, sl) ∧ frOk c f0 f (lD w c t c)) := by
  refine wp_i rfl rfl rfl rfl ?_
  refine wp_i rfl rfl rfl rfl ?_
  show pm_WP PT fr lo 237 (2, [some (.ref 162), some (.int (nI t)), some (.int 0), none, none, none], [], h, 198, sl) _
  have key := lf_A (fr := fr) (lo := lo) (sl := sl) (f0 := f0) (Q := fun x => ∃ f : Nat → Int32, x = (none, aset h 185 6 f, 198, sl) ∧ frOk c f0 f (lD w c t c)) h3 hc h39 h11 hR hw ht (fun f e1 => ?_) c 0 f0 (by omega) (fun j hj => by omega) (fun j _ => rfl)
  · rw [aset_same hF] at key
    exact key
  · refine wp_i rfl rfl rfl rfl ?_
    refine wp_i rfl rfl rfl rfl ?_
    show pm_WP PT fr lo 237 (36, [some (.ref 162), some (.int (nI t)), some (.int 0), none, none, none], [], (aset h 185 6 f), 198, sl) _
    exact lf_D h3 hc h39 h11 hR hw hf hl (fun f2 F2 g1 g2 => ⟨f2, rfl, fun j hj => by rw [← fOk_end g2 j hj]; exact g1.1 j hj, g1.2⟩) c 0 f _ none none none (by omega) e1 fOk_0
end LFR
