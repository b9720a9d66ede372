/-! heard, forget, keep, again: SR -/
section HKA
variable {fr lo sl cc gc : Nat} {q : QT} {h h1 h2 : pm_H} {v w x y : Int32}
def agQ (f g b c : Nat → Int32) (ch v : Int32) (h : pm_H) (sl : Nat) (r : pm_Rs) : Prop := (agB b c ch v = false ∧ r = (some (.int 0), mset h 0 (.int 0), 198, sl)) ∨ ∃ (i : Nat) (gk : Nat → Int32), i < 3 ∧ v = nI i ∧ agB b c ch v = true ∧ cpk f g gk (96 * i) 0 96 ∧ r = (some (.int 1), mset (aset (mset h 0 (.int 0)) 170 96 gk) 27 (.int 0), 198, sl)
theorem hd_agy {f g b c : Nat → Int32} {ch : Int32} {x0 x27 : Value} (v : Int32) (h0 : mF h 0 x0) (h5 : mF h 5 (.int ch)) (h27 : mF h 27 x27) (h52 : mF h 52 (.ref 194)) (h53 : mF h 53 (.ref 195)) (h54 : mF h 54 (.ref 196)) (h12 : mF h 12 (.ref 170)) (hN : h 170 = .inl (0, 96, .inl g)) (hK : h 196 = .inl (0, 288, .inl f)) (hB : h 194 = .inl (3, 3, .inl b)) (hCh : h 195 = .inl (0, 3, .inl c)) (hf : 1 ≤ fr) (hl : 30 ≤ lo) : pm_WP PT fr lo 265 (0, pm_l0 [.ref 162, .int v] 3, [], h, 198, sl) (agQ f g b c ch v h sl) := by
  have no : ∀ (w : Int32) (L : pm_L), agB b c ch w = false → pm_WP PT fr lo 265 (40, L, [.int 0], (mset h 0 (.int 0)), 198, sl) (agQ f g b c ch w h sl) := by
    intro w L e
    exact wp_zret rfl rfl (by decide) (Or.inl ⟨e, rfl⟩)
  refine wp_i rfl rfl rfl rfl ?_
  refine wp_i rfl rfl rfl rfl ?_
  show pm_WP PT fr lo 265 (2, [some (.ref 162), some (.int v), none], [.int 0, .ref 162], h, 198, sl) _
  refine wp_pfm rfl rfl rfl (by decide) h0 ?_
  refine wp_i rfl rfl rfl rfl ?_
  refine wp_i rfl rfl rfl rfl ?_
  refine wp_i rfl rfl rfl rfl ?_
  refine wp_i rfl rfl rfl rfl ?_
  show pm_WP PT fr lo 265 (11, [some (.ref 162), some (.int v), none], [.long 2, .long 0, .long (v).toInt64], (mset h 0 (.int 0)), 198, sl) _
  refine wp_callS (t := 163) (As := [.long (v).toInt64, .long 0, .long 2]) (rest := []) (mx := 6) rfl rfl rfl rfl (Nat.le_of_ble_eq_true rfl) (Nat.le_of_ble_eq_true rfl) (by omega) (by omega) (wp_mono (hd_in v.toInt64 0 2) ?_)
  rintro _ rfl
  by_cases hin : in_b v.toInt64 0 2 = true
  · obtain ⟨i, hi, rfl⟩ := in3 v hin
    have ea : agB b c ch (nI i) = (!decide (b i = 0) && decide (c i = ch)) := by
      unfold agB
      rw [hin, Bool.true_and, nI_clamp (by omega)]
    rw [hin]
    refine wp_i rfl rfl rfl rfl ?_
    refine wp_i rfl rfl rfl rfl ?_
    show pm_WP PT fr lo 265 (18, [some (.ref 162), some (.int (nI i)), none], [.ref 162], (mset h 0 (.int 0)), 198, sl) _
    refine wp_gfm rfl rfl (mF_ne (by decide) h52) ?_
    refine wp_i rfl rfl rfl rfl ?_
    show pm_WP PT fr lo 265 (22, [some (.ref 162), some (.int (nI i)), none], [.int (nI i), .ref 194], (mset h 0 (.int 0)), 198, sl) _
    refine wp_zam rfl (by rw [mset_ne (by decide)]; exact hB) (hI_in hi (by decide)) (by decide) ?_
    rw [nI_clamp (by omega)]
    show pm_WP PT fr lo 265 (23, [some (.ref 162), some (.int (nI i)), none], [.int (b i)], (mset h 0 (.int 0)), 198, sl) _
    refine wp_if (c := .eq) (off := 16) (t := 39) rfl rfl (fun q1 => ?_) (fun q1 => ?_)
    · refine wp_i rfl rfl rfl rfl ?_
      show pm_WP PT fr lo 265 (40, [some (.ref 162), some (.int (nI i)), none], [.int 0], (mset h 0 (.int 0)), 198, sl) _
      exact no (nI i) _ (by rw [ea, decide_eq_true (show b i = 0 from of_decide_eq_true q1)]; rfl)
    · have q1 : ¬ b i = 0 := of_decide_eq_false q1
      refine wp_i rfl rfl rfl rfl ?_
      show pm_WP PT fr lo 265 (27, [some (.ref 162), some (.int (nI i)), none], [.ref 162], (mset h 0 (.int 0)), 198, sl) _
      refine wp_gfm rfl rfl (mF_ne (by decide) h53) ?_
      refine wp_i rfl rfl rfl rfl ?_
      show pm_WP PT fr lo 265 (31, [some (.ref 162), some (.int (nI i)), none], [.int (nI i), .ref 195], (mset h 0 (.int 0)), 198, sl) _
      refine wp_iam rfl (mset_arr (by decide) hCh) (hI_in hi (by decide)) (by decide) ?_
      rw [nI_clamp (by omega)]
      refine wp_i rfl rfl rfl rfl ?_
      show pm_WP PT fr lo 265 (33, [some (.ref 162), some (.int (nI i)), none], [.ref 162, .int (c i)], (mset h 0 (.int 0)), 198, sl) _
      refine wp_gfm rfl rfl (mF_ne (by decide) h5) ?_
      show pm_WP PT fr lo 265 (36, [some (.ref 162), some (.int (nI i)), none], [.int ch, .int (c i)], (mset h 0 (.int 0)), 198, sl) _
      refine wp_icmp (c := .eq) (off := 5) (t := 41) rfl rfl (fun q2 => ?_) (fun q2 => ?_)
      · have q2 : c i = ch := of_decide_eq_true q2
        have ev : agB b c ch (nI i) = true := by rw [ea, decide_eq_false q1, decide_eq_true q2]; rfl
        refine wp_i rfl rfl rfl rfl ?_
        refine wp_i rfl rfl rfl rfl ?_
        show pm_WP PT fr lo 265 (43, [some (.ref 162), some (.int (nI i)), some (.int 0)], [], (mset h 0 (.int 0)), 198, sl) _
        have e9 := aset_same (mset_arr (f := 0) (v := .int 0) (by decide) hN)
        rw [← e9]
        refine cp_again (f := f) (g := g) hi (mF_ne (by decide) h54) (mF_ne (by decide) h12) (mset_arr (by decide) hK) (fun gk hc => ?_) 96 0 g (by omega) (cpk_0 f g (96 * i) 0)
        refine wp_i rfl rfl rfl rfl ?_
        refine wp_i rfl rfl rfl rfl ?_
        show pm_WP PT fr lo 265 (74, [some (.ref 162), some (.int (nI i)), some (.int (nI 96))], [.int 0, .ref 162], (aset (mset h 0 (.int 0)) 170 96 gk), 198, sl) _
        refine wp_pfm rfl rfl rfl (by decide) (mF_as (by decide) (mF_ne (by decide) h27)) ?_
        refine wp_i rfl rfl rfl rfl ?_
        show pm_WP PT fr lo 265 (78, [some (.ref 162), some (.int (nI i)), some (.int (nI 96))], [.int 1], (mset (aset (mset h 0 (.int 0)) 170 96 gk) 27 (.int 0)), 198, sl) _
        exact wp_zret rfl rfl (by decide) (Or.inr ⟨i, gk, hi, rfl, ev, hc, rfl⟩)
      · have q2 : ¬ c i = ch := of_decide_eq_false q2
        refine wp_i rfl rfl rfl rfl ?_
        show pm_WP PT fr lo 265 (40, [some (.ref 162), some (.int (nI i)), none], [.int 0], (mset h 0 (.int 0)), 198, sl) _
        exact no (nI i) _ (by rw [ea, decide_eq_false q2, Bool.and_false])
  · have hin : in_b v.toInt64 0 2 = false := by
      cases e : in_b v.toInt64 0 2 with
      | true => exact absurd e hin
      | false => rfl
    have ea : agB b c ch v = false := by
      unfold agB
      rw [hin, Bool.false_and]
    rw [hin]
    refine wp_i rfl rfl rfl rfl ?_
    refine wp_i rfl rfl rfl rfl ?_
    show pm_WP PT fr lo 265 (40, [some (.ref 162), some (.int v), none], [.int 0], (mset h 0 (.int 0)), 198, sl) _
    exact no v _ ea
/-- what can be heard -/
theorem in_lh (b : Int32) {lo hi : Int64} {l u : Int} (e1 : lo.toInt = l) (e2 : hi.toInt = u) : in_b b.toInt64 lo hi = decide (l ≤ b.toInt ∧ b.toInt ≤ u) := by
  unfold in_b
  rw [Bool.eq_iff_iff, Bool.and_eq_true, Bool.not_eq_true', Bool.not_eq_true', decide_eq_false_iff_not, decide_eq_false_iff_not, decide_eq_true_iff, Int64.lt_iff_toInt_lt, Int64.lt_iff_toInt_lt, Int32.toInt_toInt64, e1, e2]
  omega
theorem cl_lt {b : Int32} {c : Nat} (hc : c < 2 ^ 31) : pm_cmp .lt b (nI c) = decide (b.toInt < (c : Int)) := decide_eq_decide.mpr (by rw [Int32.lt_iff_toInt_lt, nI_toInt hc])
theorem cl_ge {b : Int32} {c : Nat} (hc : c < 2 ^ 31) : pm_cmp .ge b (nI c) = decide ((c : Int) ≤ b.toInt) := decide_eq_decide.mpr (by
  show nI c ≤ b ↔ _
  rw [Int32.le_iff_toInt_le, nI_toInt hc])
theorem cl_le {b : Int32} {c : Nat} (hc : c < 2 ^ 31) : pm_cmp .le b (nI c) = decide (b.toInt ≤ (c : Int)) := decide_eq_decide.mpr (by
  show b ≤ nI c ↔ _
  rw [Int32.le_iff_toInt_le, nI_toInt hc])
theorem cl_gt {b : Int32} {c : Nat} (hc : c < 2 ^ 31) : pm_cmp .gt b (nI c) = decide ((c : Int) < b.toInt) := decide_eq_decide.mpr (by
  show nI c < b ↔ _
  rw [Int32.lt_iff_toInt_lt, nI_toInt hc])
theorem cl_eq {b : Int32} {c : Nat} (hc : c < 2 ^ 31) : pm_cmp .eq b (nI c) = decide (b.toInt = (c : Int)) := decide_eq_decide.mpr (by
  show b = nI c ↔ _
  rw [← Int32.toInt_inj, nI_toInt hc])
theorem cl_ne {b : Int32} {c : Nat} (hc : c < 2 ^ 31) : pm_cmp .ne b (nI c) = decide (¬ b.toInt = (c : Int)) := decide_eq_decide.mpr (by
  show ¬ b = nI c ↔ _
  rw [← Int32.toInt_inj, nI_toInt hc])
theorem cnd2 {p q r : Prop} [Decidable p] [Decidable q] [Decidable r] (e : r ↔ ¬ p ∧ ¬ q) : cond (decide p) false (cond (decide q) false true) = decide r := by
  by_cases a : p
  · rw [decide_eq_true a, decide_eq_false (fun z => (e.mp z).1 a)]
    rfl
  · by_cases b : q
    · rw [decide_eq_false a, decide_eq_true b, decide_eq_false (fun z => (e.mp z).2 b)]
      rfl
    · rw [decide_eq_false a, decide_eq_false b, decide_eq_true (e.mpr ⟨a, b⟩)]
      rfl
theorem cnd3 {p q r : Prop} [Decidable p] [Decidable q] [Decidable r] (e : r ↔ p ∨ ¬ q) : cond (decide p) true (cond (decide q) false true) = decide r := by
  by_cases a : p
  · rw [decide_eq_true a, decide_eq_true (e.mpr (Or.inl a))]
    rfl
  · by_cases b : q
    · rw [decide_eq_false a, decide_eq_true b, decide_eq_false (fun z => (e.mp z).elim a (fun y => y b))]
      rfl
    · rw [decide_eq_false a, decide_eq_false b, decide_eq_true (e.mpr (Or.inr b))]
      rfl
theorem clu_ok (a b : Int32) : v2 q cc gc a b = (in_b a.toInt64 (Int64.ofNat 0) (3 : Int64) && in_b b.toInt64 ((cond (cond (pm_cmp .ne a (nI 1)) false true) 1 0 : Int32).toInt64) ((cond (pm_cmp .ne a 0) (cond (pm_cmp .ne a (nI 1)) (cond (pm_cmp .ne a (nI 2)) (nI 1) (nI 5)) (nI 99)) (nI 4)).toInt64)) := by
  rw [in_lh a (l := 0) (u := 3) (by decide) (by decide)]
  by_cases ha : 0 ≤ a.toInt ∧ a.toInt ≤ 3
  · rw [decide_eq_true ha, Bool.true_and]
    obtain ⟨n, rfl, -, en⟩ := hI_of ha.1
    have b0 : pm_cmp .lt b 0 = decide (b.toInt < 0) := cl_lt (c := 0) (by decide)
    have b1 : pm_cmp .eq b 0 = decide (b.toInt = 0) := cl_eq (c := 0) (by decide)
    rcases (by omega : n = 0 ∨ n = 1 ∨ n = 2 ∨ n = 3) with rfl | rfl | rfl | rfl
    · unfold v2
      rw [show pm_cmp .eq (nI 0) (nI 0) = true by decide, show pm_cmp .ne (nI 0) (nI 1) = true by decide, show pm_cmp .ne (nI 0) 0 = false by decide]
      simp only [cond_true, cond_false]
      rw [b0, cl_ge (c := 5) (by decide), in_lh b (l := 0) (u := 4) (by decide) (by decide)]
      exact cnd2 (by omega)
    · unfold v2
      rw [show pm_cmp .eq (nI 1) (nI 0) = false by decide, show pm_cmp .eq (nI 1) (nI 1) = true by decide, show pm_cmp .ne (nI 1) (nI 1) = false by decide, show pm_cmp .ne (nI 1) 0 = true by decide]
      simp only [cond_true, cond_false]
      rw [cl_lt (c := 1) (by decide), cl_gt (c := 99) (by decide), in_lh b (l := 1) (u := 99) (by decide) (by decide)]
      exact cnd2 (by omega)
    · unfold v2
      rw [show pm_cmp .eq (nI 2) (nI 0) = false by decide, show pm_cmp .eq (nI 2) (nI 1) = false by decide, show pm_cmp .eq (nI 2) (nI 2) = true by decide, show pm_cmp .ne (nI 2) (nI 1) = true by decide, show pm_cmp .ne (nI 2) 0 = true by decide, show pm_cmp .ne (nI 2) (nI 2) = false by decide]
      simp only [cond_true, cond_false]
      rw [b0, cl_ge (c := 6) (by decide), in_lh b (l := 0) (u := 5) (by decide) (by decide)]
      exact cnd2 (by omega)
    · unfold v2
      rw [show pm_cmp .eq (nI 3) (nI 0) = false by decide, show pm_cmp .eq (nI 3) (nI 1) = false by decide, show pm_cmp .eq (nI 3) (nI 2) = false by decide, show pm_cmp .eq (nI 3) (nI 3) = true by decide, show pm_cmp .ne (nI 3) (nI 1) = true by decide, show pm_cmp .ne (nI 3) 0 = true by decide, show pm_cmp .ne (nI 3) (nI 2) = true by decide]
      simp only [cond_true, cond_false]
      rw [b1, cl_ne (c := 1) (by decide), in_lh b (l := 0) (u := 1) (by decide) (by decide)]
      exact cnd3 (by omega)
  · rw [decide_eq_false ha, Bool.false_and]
    unfold v2
    have ne : ∀ k : Nat, k ≤ 3 → pm_cmp .eq a (nI k) = false := fun k hk => decide_eq_false (fun e => ha (by
      have e : a = nI k := e
      rw [e, nI_toInt (by omega)]
      omega))
    rw [ne 0 (by decide), ne 1 (by decide), ne 2 (by decide), ne 3 (by decide)]
    rfl
/-- SR where the states and the realm stand -/
def PBs : List Nat := [6, 7, 9, 10, 11, 13, 14, 15, 16, 17, 18, 25, 143, 146, 164, 165, 166, 167, 168, 170, 174, 178]
theorem SR_part {D : List Nat} (hc : HC q cc gc h) (s : SRq q cc gc h) (c2 : HC q cc gc h2) (cs : ∀ i, D.elem i = false → h2 i = h i) (hD : (PBs.all (fun a => !(D.elem a)) && (List.range 96).all (fun j => !(D.elem (27 + j)))) = true) (k9 : k0f 9 h h2) (z27 : Fi h2 162 27 = Fi h 162 27) (kp : KP cc gc h2) (cl : CLU h2) : SR h2 := by
  rw [Bool.and_eq_true] at hD
  obtain ⟨⟨s4, ⟨fs, o1, o2⟩⟩, ⟨s1, s2⟩, s3, ⟨fi, si, p1, p2, ⟨p3, p4, p5⟩, p6⟩, -⟩ := s
  have ce : ∀ a, PBs.elem a = true → h2 a = h a := fun a e => cs a (nel (List.all_eq_true.mp hD.1 a (List.elem_iff.mp e)))
  have ar : ∀ a, PBs.elem a = true → Ar h2 a = Ar h a := fun a e => Ar_e (ce a e)
  have c27 : ∀ i, 27 ≤ i → i < 123 → h2 i = h i := fun i h3 h4 => cs i (by
    have z := List.all_eq_true.mp hD.2 (i - 27) (List.mem_range.mpr (by omega))
    rw [show 27 + (i - 27) = i by omega] at z
    exact nel z)
  have eq1 : Ar h2 (q.1 + 1) = Ar h (q.1 + 1) := by
    rcases hc.qq with e | e
    · rw [e]
      exact ar 143 rfl
    · rw [e]
      exact ar 146 rfl
  refine ⟨q, cc, gc, c2, ⟨⟨?_, k9 fs _ o1 o2⟩, ⟨⟨?_, ?_⟩, ?_, ⟨fi, si, p1, p2, ⟨(Fi_e (ce 25 rfl)).trans p3, (Fi_e (ce 25 rfl)).trans p4, z27.trans p5⟩, fun j hj => ?_⟩, kp, cl⟩⟩⟩
  · rw [ar 174 rfl, eq1]
    exact s4
  · rw [ar 170 rfl]
    exact RSb_e (fun i h3 h4 => ce i (by
      rcases (by omega : i = 13 ∨ i = 14 ∨ i = 15 ∨ i = 16 ∨ i = 17 ∨ i = 18) with rfl | rfl | rfl | rfl | rfl | rfl <;> rfl)) s1
  · rw [ar 170 rfl]
    exact s2
  · unfold RMm
    rw [ar 6 rfl, ar 7 rfl, ar 9 rfl, ar 10 rfl, ar 11 rfl, ar 164 rfl, ar 165 rfl, ar 166 rfl, ar 167 rfl, ar 168 rfl]
    exact s3
  · obtain ⟨q1, q2⟩ := p6 j hj
    rw [ar 178 rfl]
    exact ⟨RSb_e (fun i h3 h4 => c27 i (by omega) (by omega)) q1, q2⟩
theorem KP_e (c0 : h2 0 = h 0) (c124 : ∀ i, 124 ≤ i → i < 142 → h2 i = h i) (c196 : h2 196 = h 196) (k : KP cc gc h) : KP cc gc h2 := fun i hi hk => by
  rw [Fi_e c0] at hk
  obtain ⟨q1, q2⟩ := k i hi hk
  rw [Ar_e c196]
  exact ⟨RSb_e (fun j h3 h4 => c124 j (by omega) (by omega)) q1, q2⟩
def CLW : List Nat := [159, 160, 161, 162, 191, 192]
theorem cl_ne2 {i k : Nat} {D : List Nat} (hi : D.elem i = false) (hk : D.elem k = true) : i ≠ k := fun e => by
  rw [e, hk] at hi
  cases hi
theorem sr_heard (pr : prun sl 118 251 [x, y] h h1 h2 v w) (s : SR h) : SR h2 := by
  obtain ⟨⟨m1, r1⟩, ⟨f1, i1⟩, ⟨m2, r2⟩, lo2, -⟩ := pr
  obtain ⟨q, cc, gc, hc, s⟩ := s
  obtain ⟨m, hm, ⟨z1, z2⟩, z3⟩ := id s.2.2.2.2.2
  obtain ⟨a1, c1, g1⟩ := v118_ok hc hm z1 r1
  injection a1 with b1 b2
  injection b2 with b2 b3
  rw [← b2] at c1 g1
  obtain ⟨a2, c2, g2⟩ := v251_ok c1 hm ((Fi_e (g1.1 162 rfl)).trans z2) r2
  injection a2 with d1 d2
  injection d2 with d2 d3
  rw [← d2] at c2 g2
  have b2 : h1 = (v1 q cc gc h m x y).2 := b2
  have cs : ∀ i, CLW.elem i = false → h2 i = h i := fun i hi => (g2.1 i (by
    cases z : List.elem i [162, 191, 192] with
    | false => rfl
    | true =>
      have z := List.elem_iff.mp z
      simp at z
      have n1 := cl_ne2 (k := 162) hi rfl
      have n2 := cl_ne2 (k := 191) hi rfl
      have n3 := cl_ne2 (k := 192) hi rfl
      omega)).trans (g1.1 i (by
    cases z : List.elem i [159, 160, 161] with
    | false => rfl
    | true =>
      have z := List.elem_iff.mp z
      simp at z
      have n1 := cl_ne2 (k := 159) hi rfl
      have n2 := cl_ne2 (k := 160) hi rfl
      have n3 := cl_ne2 (k := 161) hi rfl
      omega))
  have kp : KP cc gc h2 := KP_e (cs 0 rfl) (fun i h3 h4 => cs i (by
    cases z : CLW.elem i with
    | false => rfl
    | true =>
      have z := List.elem_iff.mp z
      simp [CLW] at z
      omega)) (cs 196 rfl) s.2.2.2.2.1
  refine SR_part (D := CLW) hc s c2 cs (by decide +kernel) (fun fs p e1 e2 => ⟨fs, (cs 0 rfl).trans e1, e2⟩) ((g2.2 162 27 rfl rfl).trans (Fi_e (g1.1 162 rfl))) kp ?_
  -- what was heard
  have k191 : Ar h1 191 = Ar h 191 := Ar_e (g1.1 191 rfl)
  have k192 : Ar h1 192 = Ar h 192 := Ar_e (g1.1 192 rfl)
  have lo : ∀ i, i < 162 → h2 i = h1 i := lo2
  by_cases ok : m < 12 ∧ v2 q cc gc x y = true
  · have e1 : (v1 q cc gc h m x y).2 = fset (aset (aset h 160 12 (upd (Ar h 160) m x)) 161 12 (upd (Ar h 161) m y)) 159 0 (.int (nI (m + 1))) := by
      unfold v1
      rw [decide_eq_false (show ¬ 12 ≤ m by omega), ok.2]
      rfl
    have e2 : (v251 q cc gc h1 m x y).2 = fset (aset (aset (fset h1 162 0 (.int (nI 0))) 191 12 (upd (Ar h1 191) m x)) 192 12 (upd (Ar h1 192) m y)) 162 47 (.int (nI (m + 1))) := by
      have o := ok.2
      rw [clu_ok, Bool.and_eq_true] at o
      unfold v251
      rw [o.1, o.2, decide_eq_true (show ¬ m = 12 by omega)]
      rfl
    rw [e1] at b2
    rw [e2] at d2
    have w1 : WT (aset (aset h 160 12 (upd (Ar h 160) m x)) 161 12 (upd (Ar h 161) m y)) := wt_as rfl (wt_as rfl hc.wt)
    have w2 : WT (aset (aset (fset h1 162 0 (.int (nI 0))) 191 12 (upd (Ar h1 191) m x)) 192 12 (upd (Ar h1 192) m y)) := wt_as rfl (wt_as rfl (wt_fs rfl (by decide) rfl c1.wt))
    refine ⟨m + 1, by omega, ⟨?_, ?_⟩, fun j hj => ?_⟩
    · rw [Fi_e (lo 159 (by decide)), b2]
      exact Fi_s w1 (by decide) rfl (by decide) rfl
    · rw [d2]
      exact Fi_s w2 (by decide) rfl (by decide) rfl
    · have t1 : Ar h2 160 = upd (Ar h 160) m x := by
        rw [Ar_e (lo 160 (by decide)), b2, Ar_f, Ar_n (by decide), Ar_s]
      have t2 : Ar h2 161 = upd (Ar h 161) m y := by
        rw [Ar_e (lo 161 (by decide)), b2, Ar_f, Ar_s]
      have t3 : Ar h2 191 = upd (Ar h 191) m x := by
        rw [d2, Ar_f, Ar_n (by decide), Ar_s, k191]
      have t4 : Ar h2 192 = upd (Ar h 192) m y := by
        rw [d2, Ar_f, Ar_s, k192]
      rw [t1, t2, t3, t4]
      by_cases e : j = m
      · rw [up_e e, up_e e, up_e e, up_e e]
        exact ⟨rfl, rfl, ok.2⟩
      · rw [up_n e, up_n e, up_n e, up_n e]
        exact z3 j (by omega)
  · have e1 : (v1 q cc gc h m x y).2 = h := by
      unfold v1
      by_cases o : 12 ≤ m
      · rw [decide_eq_true o]
        rfl
      · rw [decide_eq_false o]
        cases o2 : v2 q cc gc x y with
        | true => exact absurd ⟨by omega, o2⟩ ok
        | false => rfl
    have e2 : (v251 q cc gc h1 m x y).2 = fset h1 162 0 (.int (nI 0)) := by
      have o : v2 q cc gc x y = true → ¬ m < 12 := fun e a => ok ⟨a, e⟩
      rw [clu_ok, Bool.and_eq_true] at o
      unfold v251
      cases o1 : in_b x.toInt64 (Int64.ofNat 0) (3 : Int64) with
      | false => rfl
      | true =>
        dsimp only [cond]
        cases o2 : in_b y.toInt64 ((cond (cond (pm_cmp .ne x (nI 1)) false true) 1 0 : Int32).toInt64) ((cond (pm_cmp .ne x 0) (cond (pm_cmp .ne x (nI 1)) (cond (pm_cmp .ne x (nI 2)) (nI 1) (nI 5)) (nI 99)) (nI 4)).toInt64) with
        | false =>
          dsimp only [cond] at o2
          rw [o2]
        | true =>
          have o3 := o ⟨o1, o2⟩
          dsimp only [cond] at o2
          rw [o2, decide_eq_false (show ¬ ¬ m = 12 by omega)]
    rw [e1] at b2
    rw [e2] at d2
    refine ⟨m, hm, ⟨?_, ?_⟩, fun j hj => ?_⟩
    · rw [Fi_e (lo 159 (by decide)), b2]
      exact z1
    · rw [d2, b2]
      exact (Fi_n (Or.inr (by decide))).trans z2
    · rw [d2, b2, Ar_f, Ar_f, Ar_f, Ar_f]
      exact z3 j hj
theorem sr_forget (pr : prun sl 119 252 [] h h1 h2 v w) (s : SR h) : SR h2 := by
  obtain ⟨⟨m1, r1⟩, ⟨f1, i1⟩, ⟨m2, r2⟩, lo2, -⟩ := pr
  obtain ⟨q, cc, gc, hc, s⟩ := s
  obtain ⟨m, hm, ⟨z1, z2⟩, z3⟩ := id s.2.2.2.2.2
  obtain ⟨a1, c1, g1⟩ := v119_ok hc hm z1 r1
  injection a1 with b1 b2
  injection b2 with b2 b3
  rw [← b2] at c1 g1
  obtain ⟨a2, c2, g2⟩ := v252_ok c1 hm ((Fi_e (g1.1 162 rfl)).trans z2) r2
  injection a2 with d1 d2
  injection d2 with d2 d3
  rw [← d2] at c2 g2
  have b2 : h1 = fset h 159 0 (.int (nI 0)) := b2
  have d2 : h2 = fset (fset h1 162 0 (.int (nI 0))) 162 47 (.int (nI 0)) := d2
  have cs : ∀ i, (List.elem i [159, 162]) = false → h2 i = h i := fun i hi => by
    rw [d2, fs_ne (cl_ne2 (k := 162) hi rfl), fs_ne (cl_ne2 (k := 162) hi rfl), b2, fs_ne (cl_ne2 (k := 159) hi rfl)]
  have lo : ∀ i, i < 162 → h2 i = h1 i := lo2
  refine SR_part (D := [159, 162]) hc s c2 cs (by decide +kernel) (fun fs p e1 e2 => ⟨fs, (cs 0 rfl).trans e1, e2⟩) ((g2.2 162 27 rfl rfl).trans (Fi_e (g1.1 162 rfl))) (KP_e (cs 0 rfl) (fun i h3 h4 => cs i (by
    cases z : List.elem i [159, 162] with
    | false => rfl
    | true =>
      have z := List.elem_iff.mp z
      simp at z
      omega)) (cs 196 rfl) s.2.2.2.2.1) ⟨0, Nat.zero_le _, ⟨?_, ?_⟩, fun j hj => absurd hj (Nat.not_lt_zero j)⟩
  · rw [Fi_e (lo 159 (by decide)), b2]
    exact Fi_s hc.wt (by decide) rfl (by decide) rfl
  · rw [d2]
    exact Fi_s (wt_fs rfl (by decide) rfl c1.wt) (by decide) rfl (by decide) rfl
/-- keep -/
theorem Ar_l {a kd n : Nat} {f : Nat → Int32} (e : h a = .inl (kd, n, .inl f)) : Ar h a = f := by
  unfold Ar
  rw [e]
theorem k7_Fi {u : Int32} (k : k7 h u) : Fi h 0 7 = u := by
  obtain ⟨fs, e1, e2⟩ := k
  unfold Fi
  rw [e1]
  dsimp only
  rw [e2]
theorem in2_f (z : ¬ (0 ≤ x.toInt ∧ x.toInt ≤ 2)) : pm_cmp .lt x 0 = true ∨ (pm_cmp .lt x 0 = false ∧ pm_cmp .lt x (nI 3) = false ∧ pm_cmp .ge x (nI 3) = true) := by
  have b0 : pm_cmp .lt x 0 = decide (x.toInt < 0) := cl_lt (c := 0) (by decide)
  rw [b0, cl_lt (c := 3) (by decide), cl_ge (c := 3) (by decide)]
  by_cases a : x.toInt < 0
  · exact Or.inl (decide_eq_true a)
  · exact Or.inr ⟨decide_eq_false a, decide_eq_false (by omega), decide_eq_true (by omega)⟩
theorem sr_keep (pr : prun sl 125 264 [x] h h1 h2 v w) (r : RK h) (s : SR h) : SR h2 := by
  obtain ⟨⟨m, r1⟩, ⟨f1, i1⟩, ⟨m2, r2⟩, lo2, i2⟩ := pr
  obtain ⟨kq, ch, cc', gc', b, c, ⟨q8, k⟩, ⟨m5, m3, m4, hb⟩, ⟨c4, c5⟩, hj⟩ := r
  have kx := kx_run k r1
  dsimp only at kx
  have g5 := mF_hi f1 m5
  have hB := (f1.1 194 rfl).trans c4
  have hC := (f1.1 195 rfl).trans c5
  obtain ⟨hh, hq⟩ := id i1
  obtain ⟨x0, h0, -⟩ := ty_fld hh (g := 0) rfl
  have h12 := ty_ref hh (g := 12) (p := 170) rfl
  have h52 := ty_ref hh (g := 52) (p := 194) rfl
  have h53 := ty_ref hh (g := 53) (p := 195) rfl
  have h54 := ty_ref hh (g := 54) (p := 196) rfl
  obtain ⟨f, hN, -⟩ := ty_arrE hh (i := 170) (by decide) rfl
  obtain ⟨-, -, -, ⟨g, hK, -⟩⟩ := id hq
  have d := rn_dt (F := 10) (Lo := 1000) (hd_keep (fr := 10) (lo := 1000) (sl := sl) x h0 g5 h52 h53 h54 h12 hN hK hB hC (by omega) (by omega)) r2
  have hx : ∀ a, Nat.ble 162 a = true → h1 a = h a := fun a ha => f1.1 a ha
  have lo : ∀ i, i < 162 → h2 i = h1 i := lo2
  obtain ⟨q, cc, gc, hc, s⟩ := s
  rcases d with ⟨e, d⟩ | ⟨i, gk, hi, rfl, d, hcp⟩
  · have d2 : h2 = mset h1 0 (.int 0) := congrArg (fun z => z.2.1) d
    rw [in2_b] at e
    rw [e] at kx
    have kx : h1 = h := kx
    rw [kx, mset_w (g := 0) hc.wt rfl rfl] at d2
    rw [d2]
    have c2 : HC q cc gc (fset h 162 0 (.int 0)) := hc_f rfl rfl (by decide) rfl hc
    exact ⟨q, cc, gc, c2, SR_fr (W := [162]) (V := [(162, 0)]) hc s (fr_f rfl rfl fr_0) (by decide +kernel)⟩
  · have d2 : h2 = aset (aset (zset (mset h1 0 (.int 0)) 194 3 (upd b i 1)) 195 3 (upd c i (nI ch))) 196 288 gk := congrArg (fun z => z.2.1) d
    rw [nI_rg hi] at kx
    have kx : k7 h1 (nI kq ||| (Int32.ofInt 1 <<< (nI i &&& 31))) := kx
    rw [(kf_set kq q8 i hi).1] at kx
    obtain ⟨a1, c1, g1⟩ := v125_ok hc (by omega) hi r1
    injection a1 with b1 b2
    injection b2 with b2 b3
    rw [← b2] at c1 g1
    have e1 : (v125 q cc gc h i).2 = fset (cp73 h (124 + 6 * i) 13) 0 7 (.int ((Fi h 0 7) ||| (shl (nI 1) (nI i)))) := by
      unfold v125
      rw [decide_eq_true hi]
      rfl
    rw [e1] at b2
    have hm0 : mset h1 0 (.int 0) = fset h1 162 0 (.int 0) := mset_w (g := 0) c1.wt rfl rfl
    rw [hm0] at d2
    have up : ∀ a, a ≠ 162 → a ≠ 194 → a ≠ 195 → a ≠ 196 → h2 a = h1 a := fun a n1 n2 n3 n4 => by
      rw [d2, asR_ne n4, asR_ne n3, zset_nei n2, fs_ne n1]
    have ug : ∀ g, g ≠ 0 → Fi h2 162 g = Fi h 162 g := fun g hg => by
      rw [d2, Fi_a (by decide), Fi_a (by decide), Fi_e (zset_nei (by decide)), Fi_n (Or.inr hg), Fi_e (hx 162 rfl)]
    have ch1 : ∀ a, a ≠ 0 → (a < 124 ∨ 142 ≤ a) → h1 a = h a := fun a n0 n1 => by
      rw [b2, fs_ne n0]
      exact cp73_ne (by omega)
    have cs : ∀ a, (List.elem a ([0, 162, 194, 195, 196] ++ (List.range 18).map (fun j => 124 + j))) = false → h2 a = h a := fun a ha => by
      have n : ∀ k, (List.elem k ([0, 162, 194, 195, 196] ++ (List.range 18).map (fun j => 124 + j))) = true → a ≠ k := fun k hk => cl_ne2 ha hk
      have n124 : ∀ j, j < 18 → a ≠ 124 + j := fun j hj => n _ (List.elem_iff.mpr (List.mem_append_right _ (List.mem_map.mpr ⟨j, List.mem_range.mpr hj, rfl⟩)))
      rw [up a (n 162 rfl) (n 194 rfl) (n 195 rfl) (n 196 rfl)]
      refine ch1 a (n 0 rfl) ?_
      by_cases y : 124 ≤ a ∧ a < 142
      · have := n124 (a - 124) (by omega)
        omega
      · omega
    have c2 : HC q cc gc h2 := HC_n hc (wt_of i2.1) ((Fi_e (cs 5 rfl)).trans hc.x0) ((Fi_e (cs 5 rfl)).trans hc.x1) ((ug 3 (by decide)).trans hc.m3) ((ug 4 (by decide)).trans hc.m4) (ug 23 (by decide)) (fun r hr => Fi_e (cs r (by rcases hr with rfl | rfl <;> rfl))) (k0_e (lo 0 (by decide)) (by
      rw [b2]
      exact k0_f7 (cp73_ne (by omega)) (by decide))) hc.cb hc.gb
    have k9 : k0f 9 h h2 := k0_e (lo 0 (by decide)) (by
      rw [b2]
      exact k0_f7 (cp73_ne (by omega)) (by decide))
    obtain ⟨mm, hm, ⟨z1, z2⟩, z3⟩ := id s.2.2.2.2.2
    have r196 : Ar h2 196 = gk := by
      rw [d2, Ar_s]
    have f170 : f = Ar h 170 := (Ar_l hN).symm.trans (Ar_e (hx 170 rfl))
    have g196 : g = Ar h 196 := (Ar_l hK).symm.trans (Ar_e (hx 196 rfl))
    refine SR_part (D := [0, 162, 194, 195, 196] ++ (List.range 18).map (fun j => 124 + j)) hc s c2 cs (by decide +kernel) k9 (ug 27 (by decide)) (fun j hj3 hk => ?_) ⟨mm, hm, ⟨(Fi_e (cs 159 rfl)).trans z1, (ug 47 (by decide)).trans z2⟩, fun j hj => ?_⟩
    · rw [Fi_e (lo 0 (by decide)), k7_Fi kx, kf_bit kq q8 i hi j hj3] at hk
      rw [r196]
      by_cases y : j = i
      · rw [y]
        have e : ∀ k, k < 96 → gk (96 * i + k) = Ar h 170 k := fun k hk => by
          rw [hcp.1 k hk, f170, Nat.zero_add]
        refine ⟨RS_cg hc.cb hc.gb e (RSb_e (fun a h3 h4 => ?_) (RSb_cp (s := 124 + 6 * i) (t := 13) hc.cb hc.gb (xst_124 hi) hc.wt s.2.1.1)), RI_cg hc.cb hc.gb e s.2.1.2⟩
        rw [lo a (by omega), b2, fs_ne (by omega)]
      · rw [decide_eq_false y, Bool.false_or, ← k7_Fi k] at hk
        obtain ⟨q1, q2⟩ := s.2.2.2.2.1 j hj3 hk
        have e : ∀ k, k < 96 → gk (96 * j + k) = Ar h 196 (96 * j + k) := fun k hk => by
          rw [hcp.2 _ (by omega), g196]
        refine ⟨RS_cg hc.cb hc.gb e (RSb_e (fun a h3 h4 => ?_) q1), RI_cg hc.cb hc.gb e q2⟩
        rw [lo a (by omega), b2, fs_ne (by omega)]
        exact cp73_ne (by omega)
    · rw [Ar_e (cs 160 rfl), Ar_e (cs 161 rfl), Ar_e (cs 191 rfl), Ar_e (cs 192 rfl)]
      exact z3 j hj
/-- again -/
theorem sr_again (pr : prun sl 126 265 [x] h h1 h2 v w) (r : RK h) (s : SR h) : SR h2 := by
  obtain ⟨⟨m, r1⟩, ⟨f1, i1⟩, ⟨m2, r2⟩, lo2, i2⟩ := pr
  obtain ⟨kq, ch, cc', gc', b, c, ⟨q8, k⟩, ⟨m5, m3, m4, hb⟩, ⟨c4, c5⟩, hj⟩ := r
  have g5 := mF_hi f1 m5
  have hB := (f1.1 194 rfl).trans c4
  have hC := (f1.1 195 rfl).trans c5
  obtain ⟨hh, hq⟩ := id i1
  obtain ⟨x0, h0, -⟩ := ty_fld hh (g := 0) rfl
  obtain ⟨x27, h27, -⟩ := ty_fld hh (g := 27) rfl
  have h12 := ty_ref hh (g := 12) (p := 170) rfl
  have h52 := ty_ref hh (g := 52) (p := 194) rfl
  have h53 := ty_ref hh (g := 53) (p := 195) rfl
  have h54 := ty_ref hh (g := 54) (p := 196) rfl
  obtain ⟨g, hN, -⟩ := ty_arrE hh (i := 170) (by decide) rfl
  obtain ⟨-, -, -, ⟨f, hK, -⟩⟩ := id hq
  have d := rn_dt (F := 10) (Lo := 1000) (hd_agy (fr := 10) (lo := 1000) (sl := sl) x h0 g5 h27 h52 h53 h54 h12 hN hK hB hC (by omega) (by omega)) r2
  have hx : ∀ a, Nat.ble 162 a = true → h1 a = h a := fun a ha => f1.1 a ha
  have lo : ∀ i, i < 162 → h2 i = h1 i := lo2
  have eb : kbit (nI kq) x = agB b c (nI ch) x := by
    cases hin : in_b x.toInt64 0 2 with
    | false =>
      have e2 := hin
      rw [in2_b] at e2
      unfold agB kbit
      rw [hin, e2, Bool.false_and, Bool.false_and]
    | true =>
      obtain ⟨i, hi, rfl⟩ := in3 x hin
      rw [(hj i hi).2]
      unfold agB
      rw [hin, Bool.true_and, nI_clamp (by omega)]
  obtain ⟨q, cc, gc, fi, si, hc, s, hfi, hsi, e1, e2, e3, pa⟩ := SR_open s
  -- the class
  have cl : (kbit (nI kq) x = false → h1 = h) ∧ ∀ i, i < 3 → x = nI i → kbit (nI kq) x = true → h1 = fset (cp73 h 13 (124 + 6 * i)) 25 2 (.int (nI 0)) := by
    by_cases z : 0 ≤ x.toInt ∧ x.toInt ≤ 2
    · obtain ⟨i, rfl, hi0, ei⟩ := hI_of (x := x) z.1
      have hi : i < 3 := by omega
      obtain ⟨a1, -, -⟩ := v126_ok hc (by omega) r1
      injection a1 with b1 b2
      injection b2 with b2 b3
      have ek : pm_cmp .ne ((shr (Fi h 0 7) (nI i)) &&& (nI 1)) 0 = kbit (nI kq) (nI i) := by
        unfold kbit
        rw [nI_rg hi, Bool.true_and, k7_Fi k]
        rfl
      unfold v126 at b2
      rw [decide_eq_false (show ¬ 3 ≤ i by omega), ek] at b2
      refine ⟨fun e => ?_, fun j hj3 ej e => ?_⟩
      · rw [e] at b2
        exact b2
      · rw [e] at b2
        have : i = j := nI_ij (by omega) (by omega) ej
        subst this
        exact b2
    · have kf : kbit (nI kq) x = false := by
        unfold kbit
        rw [decide_eq_false z, Bool.false_and]
      have he : h1 = h := by
        rcases in2_f z with u | ⟨u1, u2, u3⟩
        · have a1 := v126w1_ok hc u r1
          injection a1 with b1 b2
          injection b2 with b2 b3
        · have a1 := v126w2_ok hc u1 u3 r1
          injection a1 with b1 b2
          injection b2 with b2 b3
      exact ⟨fun _ => he, fun i _ _ e => by rw [kf] at e; cases e⟩
  rcases d with ⟨e, d⟩ | ⟨i, gk, hi, ei, e, hcp, d⟩
  · have d2 : h2 = mset h1 0 (.int 0) := congrArg (fun z => z.2.1) d
    rw [cl.1 (eb.trans e), mset_w (g := 0) hc.wt rfl rfl] at d2
    rw [d2]
    have c2 : HC q cc gc (fset h 162 0 (.int 0)) := hc_f rfl rfl (by decide) rfl hc
    exact ⟨q, cc, gc, c2, SR_fr (W := [162]) (V := [(162, 0)]) hc s (fr_f rfl rfl fr_0) (by decide +kernel)⟩
  · have kt : kbit (nI kq) x = true := eb.trans e
    have b2 := cl.2 i hi ei kt
    have cA : HC q cc gc (cp73 h 13 (124 + 6 * i)) := cp73_hc rfl hc
    have c1 : HC q cc gc h1 := by
      rw [b2]
      exact hc_f rfl rfl (by decide) rfl cA
    have d2 : h2 = mset (aset (mset h1 0 (.int 0)) 170 96 gk) 27 (.int 0) := congrArg (fun z => z.2.1) d
    have cB : HC q cc gc (fset h1 162 0 (.int 0)) := hc_f rfl rfl (by decide) rfl c1
    have cC : HC q cc gc (aset (fset h1 162 0 (.int 0)) 170 96 gk) := hc_a rfl rfl cB
    rw [mset_w (g := 0) c1.wt rfl rfl, mset_w (g := 27) cC.wt rfl rfl] at d2
    have c2 : HC q cc gc h2 := by
      rw [d2]
      exact hc_f rfl rfl (by decide) rfl cC
    have up : ∀ a, a ≠ 162 → a ≠ 170 → h2 a = h1 a := fun a n1 n2 => by
      rw [d2, fs_ne n1, asR_ne n2, fs_ne n1]
    have ch1 : ∀ a, a ≠ 25 → (a < 13 ∨ 19 ≤ a) → h1 a = h a := fun a n0 n1 => by
      rw [b2, fs_ne n0]
      exact cp73_ne (by omega)
    have cs : ∀ a, CK.elem a = true → h2 a = h a := fun a e => by
      have w := of_decide_eq_true (List.all_eq_true.mp CK_un a (List.elem_iff.mp e))
      exact (up a w.2.1 w.1).trans (ch1 a w.2.2.1 w.2.2.2)
    have ka : kpt AK h h2 := fun a e => Ar_e (cs a (List.elem_iff.mpr (List.mem_append_left _ (List.elem_iff.mp e))))
    have f47 : Fi h2 162 47 = Fi h 162 47 := by
      rw [d2, Fi_n (Or.inr (by decide)), Fi_a (by decide), Fi_n (Or.inr (by decide)), Fi_e (hx 162 rfl)]
    have kf : kpf FK h h2 := by
      intro c g e
      have e := List.elem_iff.mp e
      simp only [FK, List.mem_cons, Prod.mk.injEq, List.not_mem_nil, or_false] at e
      rcases e with ⟨rfl, rfl⟩ | ⟨rfl, rfl⟩ | ⟨rfl, rfl⟩ | ⟨rfl, rfl⟩ | ⟨rfl, rfl⟩ | ⟨rfl, rfl⟩ | ⟨rfl, rfl⟩ | ⟨rfl, rfl⟩ | ⟨rfl, rfl⟩ | ⟨rfl, rfl⟩ | ⟨rfl, rfl⟩
      · exact Fi_e (cs 0 rfl)
      · exact Fi_e (cs 5 rfl)
      · exact Fi_e (cs 5 rfl)
      · exact Fi_e (cs 159 rfl)
      · exact f47
      · exact Fi_e (cs 124 rfl)
      · exact Fi_e (cs 124 rfl)
      · exact Fi_e (cs 130 rfl)
      · exact Fi_e (cs 130 rfl)
      · exact Fi_e (cs 136 rfl)
      · exact Fi_e (cs 136 rfl)
    have r170 : Ar h2 170 = gk := by
      rw [d2, Ar_f, Ar_s]
    have f196 : f = Ar h 196 := (Ar_l hK).symm.trans (Ar_e (hx 196 rfl))
    have ee : ∀ k, k < 96 → gk k = Ar h 196 (96 * i + k) := fun k hk => by
      have := hcp.1 k hk
      rw [Nat.zero_add, f196] at this
      exact this
    rw [ei, ← k7_Fi k] at kt
    obtain ⟨q1, q2⟩ := s.2.2.2.2.1 i hi kt
    refine SR_act c2 hc.qq s ka kf (fun fs p e1 e2 => ⟨fs, (cs 0 rfl).trans e1, e2⟩) ⟨?_, ?_⟩ ⟨fi, 0, hfi, Nat.zero_le _, ⟨?_, ?_, ?_⟩, fun j hj => absurd hj (Nat.not_lt_zero j)⟩
    · rw [r170]
      refine RS_cg hc.cb hc.gb ee (RSb_e (fun a h3 h4 => ?_) (RSb_cp (s := 13) (t := 124 + 6 * i) hc.cb hc.gb rfl hc.wt q1))
      rw [lo a (by omega), b2, fs_ne (by omega)]
    · rw [r170]
      exact RI_cg hc.cb hc.gb ee q2
    · rw [Fi_e (lo 25 (by decide)), b2, Fi_n (Or.inr (by decide)), Fi_e (cp73_ne (by omega))]
      exact e1
    · rw [Fi_e (lo 25 (by decide)), b2]
      exact Fi_s cA.wt (by decide) rfl (by decide) rfl
    · rw [d2]
      exact Fi_s cC.wt (by decide) rfl (by decide) rfl
end HKA
