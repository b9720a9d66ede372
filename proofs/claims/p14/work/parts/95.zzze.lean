section MG95zzzex0
/-! heard, forget, keep, again: SR -/
section HKA
variable {fr lo sl cc gc : Nat} {q : QT} {h h1 h2 : pm_H} {v w x y : Int32}
def agQ (f g b c : Nat → Int32) (ch v : Int32) (h : pm_H) (sl : Nat) (r : pm_Rs) : Prop := (agB b c ch v = false ∧ r = (some (.int 0), mset h 0 (.int 0), 198, sl)) ∨ ∃ (i : Nat) (gk : Nat → Int32), i < 3 ∧ v = nI i ∧ agB b c ch v = true ∧ cpk f g gk (96 * i) 0 96 ∧ r = (some (.int 1), mset (aset (mset h 0 (.int 0)) 170 96 gk) 27 (.int 0), 198, sl)
theorem hd_agy {f g b c : Nat → Int32} {ch : Int32} {x0 x27 : Value} (v : Int32) (h0 : mF h 0 x0) (h5 : mF h 5 (.int ch)) (h27 : mF h 27 x27) (h52 : mF h 52 (.ref 194)) (h53 : mF h 53 (.ref 195)) (h54 : mF h 54 (.ref 196)) (h12 : mF h 12 (.ref 170)) (hN : h 170 = .inl (0, 96, .inl g)) (hK : h 196 = .inl (0, 288, .inl f)) (hB : h 194 = .inl (3, 3, .inl b)) (hCh : h 195 = .inl (0, 3, .inl c)) (hf : 1 ≤ fr) (hl : 30 ≤ lo) : pm_WP PT fr lo 265 (0, pm_l0 [.ref 162, .int v] 3, [], h, 198, sl) (agQ f g b c ch v h sl) := by
  have no : ∀ (w : Int32) (L : pm_L), agB b c ch w = false → pm_WP PT fr lo 265 (40, L, [.int 0], (mset h 0 (.int 0)), 198, sl) (agQ f g b c ch w h sl) := by
    intro w L e
    exact wp_zret rfl rfl (by decide) (Or.inl ⟨e, rfl⟩)
  refine wp_i rfl rfl rfl rfl ?_
  refine wp_i rfl rfl rfl rfl ?_
  show pm_WP PT fr lo 265 (2, [some (.ref 162), some (.int v), none], [.int 0, .ref 162], h, 198, sl) _
  refine wp_pfm rfl rfl rfl (by decide) h0 ?_
  refine wp_i rfl rfl rfl rfl ?_
  refine wp_i rfl rfl rfl rfl ?_
  refine wp_i rfl rfl rfl rfl ?_
  refine wp_i rfl rfl rfl rfl ?_
  show pm_WP PT fr lo 265 (11, [some (.ref 162), some (.int v), none], [.long 2, .long 0, .long (v).toInt64], (mset h 0 (.int 0)), 198, sl) _
  refine wp_callS (t := 163) (As := [.long (v).toInt64, .long 0, .long 2]) (rest := []) (mx := 6) rfl rfl rfl rfl (Nat.le_of_ble_eq_true rfl) (Nat.le_of_ble_eq_true rfl) (by omega) (by omega) (wp_mono (hd_in v.toInt64 0 2) ?_)
  rintro _ rfl
  by_cases hin : in_b v.toInt64 0 2 = true
  · obtain ⟨i, hi, rfl⟩ := in3 v hin
    have ea : agB b c ch (nI i) = (!decide (b i = 0) && decide (c i = ch)) := by
      unfold agB
      rw [hin, Bool.true_and, nI_clamp (by omega)]
    rw [hin]
    refine wp_i rfl rfl rfl rfl ?_
    refine wp_i rfl rfl rfl rfl ?_
    show pm_WP PT fr lo 265 (18, [some (.ref 162), some (.int (nI i)), none], [.ref 162], (mset h 0 (.int 0)), 198, sl) _
    refine wp_gfm rfl rfl (mF_ne (by decide) h52) ?_
    refine wp_i rfl rfl rfl rfl ?_
    show pm_WP PT fr lo 265 (22, [some (.ref 162), some (.int (nI i)), none], [.int (nI i), .ref 194], (mset h 0 (.int 0)), 198, sl) _
    refine wp_zam rfl (by rw [mset_ne (by decide)]; exact hB) (hI_in hi (by decide)) (by decide) ?_
    rw [nI_clamp (by omega)]
    show pm_WP PT fr lo 265 (23, [some (.ref 162), some (.int (nI i)), none], [.int (b i)], (mset h 0 (.int 0)), 198, sl) _
    refine wp_if (c := .eq) (off := 16) (t := 39) rfl rfl (fun q1 => ?_) (fun q1 => ?_)
    · refine wp_i rfl rfl rfl rfl ?_
      show pm_WP PT fr lo 265 (40, [some (.ref 162), some (.int (nI i)), none], [.int 0], (mset h 0 (.int 0)), 198, sl) _
      exact no (nI i) _ (by rw [ea, decide_eq_true (show b i = 0 from of_decide_eq_true q1)]; rfl)
    · have q1 : ¬ b i = 0 := of_decide_eq_false q1
      refine wp_i rfl rfl rfl rfl ?_
      show pm_WP PT fr lo 265 (27, [some (.ref 162), some (.int (nI i)), none], [.ref 162], (mset h 0 (.int 0)), 198, sl) _
      refine wp_gfm rfl rfl (mF_ne (by decide) h53) ?_
      refine wp_i rfl rfl rfl rfl ?_
      show pm_WP PT fr lo 265 (31, [some (.ref 162), some (.int (nI i)), none], [.int (nI i), .ref 195], (mset h 0 (.int 0)), 198, sl) _
      refine wp_iam rfl (mset_arr (by decide) hCh) (hI_in hi (by decide)) (by decide) ?_
      rw [nI_clamp (by omega)]
      refine wp_i rfl rfl rfl rfl ?_
      show pm_WP PT fr lo 265 (33, [some (.ref 162), some (.int (nI i)), none], [.ref 162, .int (c i)], (mset h 0 (.int 0)), 198, sl) _
      refine wp_gfm rfl rfl (mF_ne (by decide) h5) ?_
      show pm_WP PT fr lo 265 (36, [some (.ref 162), some (.int (nI i)), none], [.int ch, .int (c i)], (mset h 0 (.int 0)), 198, sl) _
      refine wp_icmp (c := .eq) (off := 5) (t := 41) rfl rfl (fun q2 => ?_) (fun q2 => ?_)
      · have q2 : c i = ch := of_decide_eq_true q2
        have ev : agB b c ch (nI i) = true := by rw [ea, decide_eq_false q1, decide_eq_true q2]; rfl
        refine wp_i rfl rfl rfl rfl ?_
        refine wp_i rfl rfl rfl rfl ?_
        show pm_WP PT fr lo 265 (43, [some (.ref 162), some (.int (nI i)), some (.int 0)], [], (mset h 0 (.int 0)), 198, sl) _
        have e9 := aset_same (mset_arr (f := 0) (v := .int 0) (by decide) hN)
        rw [← e9]
        refine cp_again (f := f) (g := g) hi (mF_ne (by decide) h54) (mF_ne (by decide) h12) (mset_arr (by decide) hK) (fun gk hc => ?_) 96 0 g (by omega) (cpk_0 f g (96 * i) 0)
        refine wp_i rfl rfl rfl rfl ?_
        refine wp_i rfl rfl rfl rfl ?_
        show pm_WP PT fr lo 265 (74, [some (.ref 162), some (.int (nI i)), some (.int (nI 96))], [.int 0, .ref 162], (aset (mset h 0 (.int 0)) 170 96 gk), 198, sl) _
        refine wp_pfm rfl rfl rfl (by decide) (mF_as (by decide) (mF_ne (by decide) h27)) ?_
        refine wp_i rfl rfl rfl rfl ?_
        show pm_WP PT fr lo 265 (78, [some (.ref 162), some (.int (nI i)), some (.int (nI 96))], [.int 1], (mset (aset (mset h 0 (.int 0)) 170 96 gk) 27 (.int 0)), 198, sl) _
        exact wp_zret rfl rfl (by decide) (Or.inr ⟨i, gk, hi, rfl, ev, hc, rfl⟩)
      · have q2 : ¬ c i = ch := of_decide_eq_false q2
        refine wp_i rfl rfl rfl rfl ?_
        show pm_WP PT fr lo 265 (40, [some (.ref 162), some (.int (nI i)), none], [.int 0], (mset h 0 (.int 0)), 198, sl) _
        exact no (nI i) _ (by rw [ea, decide_eq_false q2, Bool.and_false])
  · have hin : in_b v.toInt64 0 2 = false := by
      cases e : in_b v.toInt64 0 2 with
      | true => exact absurd e hin
      | false => rfl
    have ea : agB b c ch v = false := by
      unfold agB
      rw [hin, Bool.false_and]
    rw [hin]
    refine wp_i rfl rfl rfl rfl ?_
    refine wp_i rfl rfl rfl rfl ?_
    show pm_WP PT fr lo 265 (40, [some (.ref 162), some (.int v), none], [.int 0], (mset h 0 (.int 0)), 198, sl) _
    exact no v _ ea
/-- what can be heard -/
theorem in_lh (b : Int32) {lo hi : Int64} {l u : Int} (e1 : lo.toInt = l) (e2 : hi.toInt = u) : in_b b.toInt64 lo hi = decide (l ≤ b.toInt ∧ b.toInt ≤ u) := by
  unfold in_b
  rw [Bool.eq_iff_iff, Bool.and_eq_true, Bool.not_eq_true', Bool.not_eq_true', decide_eq_false_iff_not, decide_eq_false_iff_not, decide_eq_true_iff, Int64.lt_iff_toInt_lt, Int64.lt_iff_toInt_lt, Int32.toInt_toInt64, e1, e2]
  omega
theorem cl_lt {b : Int32} {c : Nat} (hc : c < 2 ^ 31) : pm_cmp .lt b (nI c) = decide (b.toInt < (c : Int)) := decide_eq_decide.mpr (by rw [Int32.lt_iff_toInt_lt, nI_toInt hc])
theorem cl_ge {b : Int32} {c : Nat} (hc : c < 2 ^ 31) : pm_cmp .ge b (nI c) = decide ((c : Int) ≤ b.toInt) := decide_eq_decide.mpr (by
  show nI c ≤ b ↔ _
  rw [Int32.le_iff_toInt_le, nI_toInt hc])
theorem cl_le {b : Int32} {c : Nat} (hc : c < 2 ^ 31) : pm_cmp .le b (nI c) = decide (b.toInt ≤ (c : Int)) := decide_eq_decide.mpr (by
  show b ≤ nI c ↔ _
  rw [Int32.le_iff_toInt_le, nI_toInt hc])
theorem cl_gt {b : Int32} {c : Nat} (hc : c < 2 ^ 31) : pm_cmp .gt b (nI c) = decide ((c : Int) < b.toInt) := decide_eq_decide.mpr (by
  show nI c < b ↔ _
  rw [Int32.lt_iff_toInt_lt, nI_toInt hc])
theorem cl_eq {b : Int32} {c : Nat} (hc : c < 2 ^ 31) : pm_cmp .eq b (nI c) = decide (b.toInt = (c : Int)) := decide_eq_decide.mpr (by
  show b = nI c ↔ _
  rw [← Int32.toInt_inj, nI_toInt hc])
theorem cl_ne {b : Int32} {c : Nat} (hc : c < 2 ^ 31) : pm_cmp .ne b (nI c) = decide (¬ b.toInt = (c : Int)) := decide_eq_decide.mpr (by
  show ¬ b = nI c ↔ _
  rw [← Int32.toInt_inj, nI_toInt hc])
theorem cnd2 {p q r : Prop} [Decidable p] [Decidable q] [Decidable r] (e : r ↔ ¬ p ∧ ¬ q) : cond (decide p) false (cond (decide q) false true) = decide r := by
  by_cases a : p
  · rw [decide_eq_true a, decide_eq_false (fun z => (e.mp z).1 a)]
    rfl
  · by_cases b : q
    · rw [decide_eq_false a, decide_eq_true b, decide_eq_false (fun z => (e.mp z).2 b)]
      rfl
    · rw [decide_eq_false a, decide_eq_false b, decide_eq_true (e.mpr ⟨a, b⟩)]
      rfl
theorem cnd3 {p q r : Prop} [Decidable p] [Decidable q] [Decidable r] (e : r ↔ p ∨ ¬ q) : cond (decide p) true (cond (decide q) false true) = decide r := by
  by_cases a : p
  · rw [decide_eq_true a, decide_eq_true (e.mpr (Or.inl a))]
    rfl
  · by_cases b : q
    · rw [decide_eq_false a, decide_eq_true b, decide_eq_false (fun z => (e.mp z).elim a (fun y => y b))]
      rfl
    · rw [decide_eq_false a, decide_eq_false b, decide_eq_true (e.mpr (Or.inr b))]
      rfl
theorem clu_ok (a b : Int32) : v2 q cc gc a b = (in_b a.toInt64 (Int64.ofNat 0) (3 : Int64) && in_b b.toInt64 ((cond (cond (pm_cmp .ne a (nI 1)) false true) 1 0 : Int32).toInt64) ((cond (pm_cmp .ne a 0) (cond (pm_cmp .ne a (nI 1)) (cond (pm_cmp .ne a (nI 2)) (nI 1) (nI 5)) (nI 99)) (nI 4)).toInt64)) := by
  rw [in_lh a (l := 0) (u := 3) (by decide) (by decide)]
  by_cases ha : 0 ≤ a.toInt ∧ a.toInt ≤ 3
  · rw [decide_eq_true ha, Bool.true_and]
    obtain ⟨n, rfl, -, en⟩ := hI_of ha.1
    have b0 : pm_cmp .lt b 0 = decide (b.toInt < 0) := cl_lt (c := 0) (by decide)
    have b1 : pm_cmp .eq b 0 = decide (b.toInt = 0) := cl_eq (c := 0) (by decide)
    rcases (by omega : n = 0 ∨ n = 1 ∨ n = 2 ∨ n = 3) with rfl | rfl | rfl | rfl
    · unfold v2
      rw [show pm_cmp .eq (nI 0) (nI 0) = true by decide, show pm_cmp .ne (nI 0) (nI 1) = true by decide, show pm_cmp .ne (nI 0) 0 = false by decide]
      simp only [cond_true, cond_false]
      rw [b0, cl_ge (c := 5) (by decide), in_lh b (l := 0) (u := 4) (by decide) (by decide)]
      exact cnd2 (by omega)
    · unfold v2
      rw [show pm_cmp .eq (nI 1) (nI 0) = false by decide, show pm_cmp .eq (nI 1) (nI 1) = true by decide, show pm_cmp .ne (nI 1) (nI 1) = false by decide, show pm_cmp .ne (nI 1) 0 = true by decide]
      simp only [cond_true, cond_false]
      rw [cl_lt (c := 1) (by decide), cl_gt (c := 99) (by decide), in_lh b (l := 1) (u := 99) (by decide) (by decide)]
      exact cnd2 (by omega)
    · unfold v2
      rw [show pm_cmp .eq (nI 2) (nI 0) = false by decide, show pm_cmp .eq (nI 2) (nI 1) = false by decide, show pm_cmp .eq (nI 2) (nI 2) = true by decide, show pm_cmp .ne (nI 2) (nI 1) = true by decide, show pm_cmp .ne (nI 2) 0 = true by decide, show pm_cmp .ne (nI 2) (nI 2) = false by decide]
      simp only [cond_true, cond_false]
      rw [b0, cl_ge (c := 6) (by decide), in_lh b (l := 0) (u := 5) (by decide) (by decide)]
      exact cnd2 (by omega)
    · unfold v2
      rw [show pm_cmp .eq (nI 3) (nI 0) = false by decide, show pm_cmp .eq (nI 3) (nI 1) = false by decide, show pm_cmp .eq (nI 3) (nI 2) = false by decide, show pm_cmp .eq (nI 3) (nI 3) = true by decide, show pm_cmp .ne (nI 3) (nI 1) = true by decide, show pm_cmp .ne (nI 3) 0 = true by decide, show pm_cmp .ne (nI 3) (nI 2) = true by decide]
      simp only [cond_true, cond_false]
      rw [b1, cl_ne (c := 1) (by decide), in_lh b (l := 0) (u := 1) (by decide) (by decide)]
      exact cnd3 (by omega)
  · rw [decide_eq_false ha, Bool.false_and]
    unfold v2
    have ne : ∀ k : Nat, k ≤ 3 → pm_cmp .eq a (nI k) = false := fun k hk => decide_eq_false (fun e => ha (by
      have e : a = nI k := e
      rw [e, nI_toInt (by omega)]
      omega))
    rw [ne 0 (by decide), ne 1 (by decide), ne 2 (by decide), ne 3 (by decide)]
    rfl
/-- SR where the states and the realm stand -/
def PBs : List Nat := [6, 7, 9, 10, 11, 13, 14, 15, 16, 17, 18, 25, 143, 146, 164, 165, 166, 167, 168, 170, 174, 178]
theorem SR_part {D : List Nat} (hc : HC q cc gc h) (s : SRq q cc gc h) (c2 : HC q cc gc h2) (cs : ∀ i, D.elem i = false → h2 i = h i) (hD : (PBs.all (fun a => !(D.elem a)) && (List.range 96).all (fun j => !(D.elem (27 + j)))) = true) (k9 : k0f 9 h h2) (z27 : Fi h2 162 27 = Fi h 162 27) (kp : KP cc gc h2) (cl : CLU h2) : SR h2 := by
  rw [Bool.and_eq_true] at hD
  obtain ⟨⟨s4, ⟨fs, o1, o2⟩⟩, ⟨s1, s2⟩, s3, ⟨fi, si, p1, p2, ⟨p3, p4, p5⟩, p6⟩, -⟩ := s
  have ce : ∀ a, PBs.elem a = true → h2 a = h a := fun a e => cs a (nel (List.all_eq_true.mp hD.1 a (List.elem_iff.mp e)))
  have ar : ∀ a, PBs.elem a = true → Ar h2 a = Ar h a := fun a e => Ar_e (ce a e)
  have c27 : ∀ i, 27 ≤ i → i < 123 → h2 i = h i := fun i h3 h4 => cs i (by
    have z := List.all_eq_true.mp hD.2 (i - 27) (List.mem_range.mpr (by omega))
    rw [show 27 + (i - 27) = i by omega] at z
    exact nel z)
  have eq1 : Ar h2 (q.1 + 1) = Ar h (q.1 + 1) := by
    rcases hc.qq with e | e
    · rw [e]
      exact ar 143 rfl
    · rw [e]
      exact ar 146 rfl
  refine ⟨q, cc, gc, c2, ⟨⟨?_, k9 fs _ o1 o2⟩, ⟨⟨?_, ?_⟩, ?_, ⟨fi, si, p1, p2, ⟨(Fi_e (ce 25 rfl)).trans p3, (Fi_e (ce 25 rfl)).trans p4, z27.trans p5⟩, fun j hj => ?_⟩, kp, cl⟩⟩⟩
  · rw [ar 174 rfl, eq1]
    exact s4
  · rw [ar 170 rfl]
    exact RSb_e (fun i h3 h4 => ce i (by
      rcases (by omega : i = 13 ∨ i = 14 ∨ i = 15 ∨ i = 16 ∨ i = 17 ∨ i = 18) with rfl | rfl | rfl | rfl | rfl | rfl <;> rfl)) s1
  · rw [ar 170 rfl]
    exact s2
  · unfold RMm
    rw [ar 6 rfl, ar 7 rfl, ar 9 rfl, ar 10 rfl, ar 11 rfl, ar 164 rfl, ar 165 rfl, ar 166 rfl, ar 167 rfl, ar 168 rfl]
    exact s3
  · obtain ⟨q1, q2⟩ := p6 j hj
    rw [ar 178 rfl]
    exact ⟨RSb_e (fun i h3 h4 => c27 i (by omega) (by omega)) q1, q2⟩
theorem KP_e (c0 : h2 0 = h 0) (c124 : ∀ i, 124 ≤ i → i < 142 → h2 i = h i) (c196 : h2 196 = h 196) (k : KP cc gc h) : KP cc gc h2 := fun i hi hk => by
  rw [Fi_e c0] at hk
  obtain ⟨q1, q2⟩ := k i hi hk
  rw [Ar_e c196]
  exact ⟨RSb_e (fun j h3 h4 => c124 j (by omega) (by omega)) q1, q2⟩
def CLW : List Nat := [159, 160, 161, 162, 191, 192]
theorem cl_ne2 {i k : Nat} {D : List Nat} (hi : D.elem i = false) (hk : D.elem k = true) : i ≠ k := fun e => by
  rw [e, hk] at hi
  cases hi
theorem sr_heard (pr : prun sl 118 251 [x, y] h h1 h2 v w) (s : SR h) : SR h2 := by
  obtain ⟨⟨m1, r1⟩, ⟨f1, i1⟩, ⟨m2, r2⟩, lo2, -⟩ := pr
  obtain ⟨q, cc, gc, hc, s⟩ := s
  obtain ⟨m, hm, ⟨z1, z2⟩, z3⟩ := id s.2.2.2.2.2
  obtain ⟨a1, c1, g1⟩ := v118_ok hc hm z1 r1
  injection a1 with b1 b2
  injection b2 with b2 b3
  rw [← b2] at c1 g1
  obtain ⟨a2, c2, g2⟩ := v251_ok c1 hm ((Fi_e (g1.1 162 rfl)).trans z2) r2
  injection a2 with d1 d2
  injection d2 with d2 d3
  rw [← d2] at c2 g2
  have b2 : h1 = (v1 q cc gc h m x y).2 := b2
  have cs : ∀ i, CLW.elem i = false → h2 i = h i := fun i hi => (g2.1 i (by
    cases z : List.elem i [162, 191, 192] with
    | false => rfl
    | true =>
      have z := List.elem_iff.mp z
      simp at z
      have n1 := cl_ne2 (k := 162) hi rfl
      have n2 := cl_ne2 (k := 191) hi rfl
      have n3 := cl_ne2 (k := 192) hi rfl
      omega)).trans (g1.1 i (by
    cases z : List.elem i [159, 160, 161] with
    | false => rfl
    | true =>
      have z := List.elem_iff.mp z
      simp at z
      have n1 := cl_ne2 (k := 159) hi rfl
      have n2 := cl_ne2 (k := 160) hi rfl
      have n3 := cl_ne2 (k := 161) hi rfl
      omega))
  have kp : KP cc gc h2 := KP_e (cs 0 rfl) (fun i h3 h4 => cs i (by
    cases z : CLW.elem i with
    | false => rfl
    | true =>
      have z := List.elem_iff.mp z
      simp [CLW] at z
      omega)) (cs 196 rfl) s.2.2.2.2.1
  refine SR_part (D := CLW) hc s c2 cs (by decide +kernel) (fun fs p e1 e2 => ⟨fs, (cs 0 rfl).trans e1, e2⟩) ((g2.2 162 27 rfl rfl).trans (Fi_e (g1.1 162 rfl))) kp ?_
  -- what was heard
  have k191 : Ar h1 191 = Ar h 191 := Ar_e (g1.1 191 rfl)
  have k192 : Ar h1 192 = Ar h 192 := Ar_e (g1.1 192 rfl)
  have lo : ∀ i, i < 162 → h2 i = h1 i := lo2
  by_cases ok : m < 12 ∧ v2 q cc gc x y = true
  · have e1 : (v1 q cc gc h m x y).2 = fset (aset (aset h 160 12 (upd (Ar h 160) m x)) 161 12 (upd (Ar h 161) m y)) 159 0 (.int (nI (m + 1))) := by
      unfold v1
      rw [decide_eq_false (show ¬ 12 ≤ m by omega), ok.2]
      rfl
    have e2 : (v251 q cc gc h1 m x y).2 = fset (aset (aset (fset h1 162 0 (.int (nI 0))) 191 12 (upd (Ar h1 191) m x)) 192 12 (upd (Ar h1 192) m y)) 162 47 (.int (nI (m + 1))) := by
      have o := ok.2
      rw [clu_ok, Bool.and_eq_true] at o
      unfold v251
      rw [o.1, o.2, decide_eq_true (show ¬ m = 12 by omega)]
      rfl
    rw [e1] at b2
    rw [e2] at d2
    have w1 : WT (aset (aset h 160 12 (upd (Ar h 160) m x)) 161 12 (upd (Ar h 161) m y)) := wt_as rfl (wt_as rfl hc.wt)
    have w2 : WT (aset (aset (fset h1 162 0 (.int (nI 0))) 191 12 (upd (Ar h1 191) m x)) 192 12 (upd (Ar h1 192) m y)) := wt_as rfl (wt_as rfl (wt_fs rfl (by decide) rfl c1.wt))
    refine ⟨m + 1, by omega, ⟨?_, ?_⟩, fun j hj => ?_⟩
    · rw [Fi_e (lo 159 (by decide)), b2]
      exact Fi_s w1 (by decide) rfl (by decide) rfl
    · rw [d2]
      exact Fi_s w2 (by decide) rfl (by decide) rfl
    · have t1 : Ar h2 160 = upd (Ar h 160) m x := by
        rw [Ar_e (lo 160 (by decide)), b2, Ar_f, Ar_n (by decide), Ar_s]
      have t2 : Ar h2 161 = upd (Ar h 161) m y := by
        rw [Ar_e (lo 161 (by decide)), b2, Ar_f, Ar_s]
      have t3 : Ar h2 191 = upd (Ar h 191) m x := by
        rw [d2, Ar_f, Ar_n (by decide), Ar_s, k191]
      have t4 : Ar h2 192 = upd (Ar h 192) m y := by
        rw [d2, Ar_f, Ar_s, k192]
      rw [t1, t2, t3, t4]
      by_cases e : j = m
      · rw [up_e e, up_e e, up_e e, up_e e]
        exact ⟨rfl, rfl, ok.2⟩
      · rw [up_n e, up_n e, up_n e, up_n e]
        exact z3 j (by omega)
  · have e1 : (v1 q cc gc h m x y).2 = h := by
      unfold v1
      by_cases o : 12 ≤ m
      · rw [decide_eq_true o]
        rfl
      · rw [decide_eq_false o]
        cases o2 : v2 q cc gc x y with
        | true => exact absurd ⟨by omega, o2⟩ ok
        | false => rfl
    have e2 : (v251 q cc gc h1 m x y).2 = fset h1 162 0 (.int (nI 0)) := by
      have o : v2 q cc gc x y = true → ¬ m < 12 := fun e a => ok ⟨a, e⟩
      rw [clu_ok, Bool.and_eq_true] at o
      unfold v251
      cases o1 : in_b x.toInt64 (Int64.ofNat 0) (3 : Int64) with
      | false => rfl
      | true =>
        dsimp only [cond]
        cases o2 : in_b y.toInt64 ((cond (cond (pm_cmp .ne x (nI 1)) false true) 1 0 : Int32).toInt64) ((cond (pm_cmp .ne x 0) (cond (pm_cmp .ne x (nI 1)) (cond (pm_cmp .ne x (nI 2)) (nI 1) (nI 5)) (nI 99)) (nI 4)).toInt64) with
        | false =>
          dsimp only [cond] at o2
          rw [o2]
        | true =>
          have o3 := o ⟨o1, o2⟩
          dsimp only [cond] at o2
          rw [o2, decide_eq_false (show ¬ ¬ m = 12 by omega)]
    rw [e1] at b2
    rw [e2] at d2
    refine ⟨m, hm, ⟨?_, ?_⟩, fun j hj => ?_⟩
    · rw [Fi_e (lo 159 (by decide)), b2]
      exact z1
    · rw [d2, b2]
      exact (Fi_n (Or.inr (by decide))).trans z2
    · rw [d2, b2, Ar_f, Ar_f, Ar_f, Ar_f]
      exact z3 j hj
theorem sr_forget (pr : prun sl 119 252 [] h h1 h2 v w) (s : SR h) : SR h2 := by
  obtain ⟨⟨m1, r1⟩, ⟨f1, i1⟩, ⟨m2, r2⟩, lo2, -⟩ := pr
  obtain ⟨q, cc, gc, hc, s⟩ := s
  obtain ⟨m, hm, ⟨z1, z2⟩, z3⟩ := id s.2.2.2.2.2
  obtain ⟨a1, c1, g1⟩ := v119_ok hc hm z1 r1
  injection a1 with b1 b2
  injection b2 with b2 b3
  rw [← b2] at c1 g1
  obtain ⟨a2, c2, g2⟩ := v252_ok c1 hm ((Fi_e (g1.1 162 rfl)).trans z2) r2
  injection a2 with d1 d2
  injection d2 with d2 d3
  rw [← d2] at c2 g2
  have b2 : h1 = fset h 159 0 (.int (nI 0)) := b2
  have d2 : h2 = fset (fset h1 162 0 (.int (nI 0))) 162 47 (.int (nI 0)) := d2
  have cs : ∀ i, (List.elem i [159, 162]) = false → h2 i = h i := fun i hi => by
    rw [d2, fs_ne (cl_ne2 (k := 162) hi rfl), fs_ne (cl_ne2 (k := 162) hi rfl), b2, fs_ne (cl_ne2 (k := 159) hi rfl)]
  have lo : ∀ i, i < 162 → h2 i = h1 i := lo2
  refine SR_part (D := [159, 162]) hc s c2 cs (by decide +kernel) (fun fs p e1 e2 => ⟨fs, (cs 0 rfl).trans e1, e2⟩) ((g2.2 162 27 rfl rfl).trans (Fi_e (g1.1 162 rfl))) (KP_e (cs 0 rfl) (fun i h3 h4 => cs i (by
    cases z : List.elem i [159, 162] with
    | false => rfl
    | true =>
      have z := List.elem_iff.mp z
      simp at z
      omega)) (cs 196 rfl) s.2.2.2.2.1) ⟨0, Nat.zero_le _, ⟨?_, ?_⟩, fun j hj => absurd hj (Nat.not_lt_zero j)⟩
  · rw [Fi_e (lo 159 (by decide)), b2]
    exact Fi_s hc.wt (by decide) rfl (by decide) rfl
  · rw [d2]
    exact Fi_s (wt_fs rfl (by decide) rfl c1.wt) (by decide) rfl (by decide) rfl
/-- keep -/
theorem Ar_l {a kd n : Nat} {f : Nat → Int32} (e : h a = .inl (kd, n, .inl f)) : Ar h a = f := by
  unfold Ar
  rw [e]
theorem k7_Fi {u : Int32} (k : k7 h u) : Fi h 0 7 = u := by
  obtain ⟨fs, e1, e2⟩ := k
  unfold Fi
  rw [e1]
  dsimp only
  rw [e2]
theorem in2_f (z : ¬ (0 ≤ x.toInt ∧ x.toInt ≤ 2)) : pm_cmp .lt x 0 = true ∨ (pm_cmp .lt x 0 = false ∧ pm_cmp .lt x (nI 3) = false ∧ pm_cmp .ge x (nI 3) = true) := by
  have b0 : pm_cmp .lt x 0 = decide (x.toInt < 0) := cl_lt (c := 0) (by decide)
  rw [b0, cl_lt (c := 3) (by decide), cl_ge (c := 3) (by decide)]
  by_cases a : x.toInt < 0
  · exact Or.inl (decide_eq_true a)
  · exact Or.inr ⟨decide_eq_false a, decide_eq_false (by omega), decide_eq_true (by omega)⟩
theorem sr_keep (pr : prun sl 125 264 [x] h h1 h2 v w) (r : RK h) (s : SR h) : SR h2 := by
  obtain ⟨⟨m, r1⟩, ⟨f1, i1⟩, ⟨m2, r2⟩, lo2, i2⟩ := pr
  obtain ⟨kq, ch, cc', gc', b, c, ⟨q8, k⟩, ⟨m5, m3, m4, hb⟩, ⟨c4, c5⟩, hj⟩ := r
  have kx := kx_run k r1
  dsimp only at kx
  have g5 := mF_hi f1 m5
  have hB := (f1.1 194 rfl).trans c4
  have hC := (f1.1 195 rfl).trans c5
  obtain ⟨hh, hq⟩ := id i1
  obtain ⟨x0, h0, -⟩ := ty_fld hh (g := 0) rfl
  have h12 := ty_ref hh (g := 12) (p := 170) rfl
  have h52 := ty_ref hh (g := 52) (p := 194) rfl
  have h53 := ty_ref hh (g := 53) (p := 195) rfl
  have h54 := ty_ref hh (g := 54) (p := 196) rfl
  obtain ⟨f, hN, -⟩ := ty_arrE hh (i := 170) (by decide) rfl
  obtain ⟨-, -, -, ⟨g, hK, -⟩⟩ := id hq
  have d := rn_dt (F := 10) (Lo := 1000) (hd_keep (fr := 10) (lo := 1000) (sl := sl) x h0 g5 h52 h53 h54 h12 hN hK hB hC (by omega) (by omega)) r2
  have hx : ∀ a, Nat.ble 162 a = true → h1 a = h a := fun a ha => f1.1 a ha
  have lo : ∀ i, i < 162 → h2 i = h1 i := lo2
  obtain ⟨q, cc, gc, hc, s⟩ := s
  rcases d with ⟨e, d⟩ | ⟨i, gk, hi, rfl, d, hcp⟩
  · have d2 : h2 = mset h1 0 (.int 0) := congrArg (fun z => z.2.1) d
    rw [in2_b] at e
    rw [e] at kx
    have kx : h1 = h := kx
    rw [kx, mset_w (g := 0) hc.wt rfl rfl] at d2
    rw [d2]
    have c2 : HC q cc gc (fset h 162 0 (.int 0)) := hc_f rfl rfl (by decide) rfl hc
    exact ⟨q, cc, gc, c2, SR_fr (W := [162]) (V := [(162, 0)]) hc s (fr_f rfl rfl fr_0) (by decide +kernel)⟩
  · have d2 : h2 = aset (aset (zset (mset h1 0 (.int 0)) 194 3 (upd b i 1)) 195 3 (upd c i (nI ch))) 196 288 gk := congrArg (fun z => z.2.1) d
    rw [nI_rg hi] at kx
    have kx : k7 h1 (nI kq ||| (Int32.ofInt 1 <<< (nI i &&& 31))) := kx
    rw [(kf_set kq q8 i hi).1] at kx
    obtain ⟨a1, c1, g1⟩ := v125_ok hc (by omega) hi r1
    injection a1 with b1 b2
    injection b2 with b2 b3
    rw [← b2] at c1 g1
    have e1 : (v125 q cc gc h i).2 = fset (cp73 h (124 + 6 * i) 13) 0 7 (.int ((Fi h 0 7) ||| (shl (nI 1) (nI i)))) := by
      unfold v125
      rw [decide_eq_true hi]
      rfl
    rw [e1] at b2
    have hm0 : mset h1 0 (.int 0) = fset h1 162 0 (.int 0) := mset_w (g := 0) c1.wt rfl rfl
    rw [hm0] at d2
    have up : ∀ a, a ≠ 162 → a ≠ 194 → a ≠ 195 → a ≠ 196 → h2 a = h1 a := fun a n1 n2 n3 n4 => by
      rw [d2, asR_ne n4, asR_ne n3, zset_nei n2, fs_ne n1]
    have ug : ∀ g, g ≠ 0 → Fi h2 162 g = Fi h 162 g := fun g hg => by
      rw [d2, Fi_a (by decide), Fi_a (by decide), Fi_e (zset_nei (by decide)), Fi_n (Or.inr hg), Fi_e (hx 162 rfl)]
    have ch1 : ∀ a, a ≠ 0 → (a < 124 ∨ 142 ≤ a) → h1 a = h a := fun a n0 n1 => by
      rw [b2, fs_ne n0]
      exact cp73_ne (by omega)
    have cs : ∀ a, (List.elem a ([0, 162, 194, 195, 196] ++ (List.range 18).map (fun j => 124 + j))) = false → h2 a = h a := fun a ha => by
      have n : ∀ k, (List.elem k ([0, 162, 194, 195, 196] ++ (List.range 18).map (fun j => 124 + j))) = true → a ≠ k := fun k hk => cl_ne2 ha hk
      have n124 : ∀ j, j < 18 → a ≠ 124 + j := fun j hj => n _ (List.elem_iff.mpr (List.mem_append_right _ (List.mem_map.mpr ⟨j, List.mem_range.mpr hj, rfl⟩)))
      rw [up a (n 162 rfl) (n 194 rfl) (n 195 rfl) (n 196 rfl)]
      refine ch1 a (n 0 rfl) ?_
      by_cases y : 124 ≤ a ∧ a < 142
      · have := n124 (a - 124) (by omega)
        omega
      · omega
    have c2 : HC q cc gc h2 := HC_n hc (wt_of i2.1) ((Fi_e (cs 5 rfl)).trans hc.x0) ((Fi_e (cs 5 rfl)).trans hc.x1) ((ug 3 (by decide)).trans hc.m3) ((ug 4 (by decide)).trans hc.m4) (ug 23 (by decide)) (fun r hr => Fi_e (cs r (by rcases hr with rfl | rfl <;> rfl))) (k0_e (lo 0 (by decide)) (by
      rw [b2]
      exact k0_f7 (cp73_ne (by omega)) (by decide))) hc.cb hc.gb
    have k9 : k0f 9 h h2 := k0_e (lo 0 (by decide)) (by
      rw [b2]
      exact k0_f7 (cp73_ne (by omega)) (by decide))
    obtain ⟨mm, hm, ⟨z1, z2⟩, z3⟩ := id s.2.2.2.2.2
    have r196 : Ar h2 196 = gk := by
      rw [d2, Ar_s]
    have f170 : f = Ar h 170 := (Ar_l hN).symm.trans (Ar_e (hx 170 rfl))
    have g196 : g = Ar h 196 := (Ar_l hK).symm.trans (Ar_e (hx 196 rfl))
    refine SR_part (D := [0, 162, 194, 195, 196] ++ (List.range 18).map (fun j => 124 + j)) hc s c2 cs (by decide +kernel) k9 (ug 27 (by decide)) (fun j hj3 hk => ?_) ⟨mm, hm, ⟨(Fi_e (cs 159 rfl)).trans z1, (ug 47 (by decide)).trans z2⟩, fun j hj => ?_⟩
    · rw [Fi_e (lo 0 (by decide)), k7_Fi kx, kf_bit kq q8 i hi j hj3] at hk
      rw [r196]
      by_cases y : j = i
      · rw [y]
        have e : ∀ k, k < 96 → gk (96 * i + k) = Ar h 170 k := fun k hk => by
          rw [hcp.1 k hk, f170, Nat.zero_add]
        refine ⟨RS_cg hc.cb hc.gb e (RSb_e (fun a h3 h4 => ?_) (RSb_cp (s := 124 + 6 * i) (t := 13) hc.cb hc.gb (xst_124 hi) hc.wt s.2.1.1)), RI_cg hc.cb hc.gb e s.2.1.2⟩
        rw [lo a (by omega), b2, fs_ne (by omega)]
      · rw [decide_eq_false y, Bool.false_or, ← k7_Fi k] at hk
        obtain ⟨q1, q2⟩ := s.2.2.2.2.1 j hj3 hk
        have e : ∀ k, k < 96 → gk (96 * j + k) = Ar h 196 (96 * j + k) := fun k hk => by
          rw [hcp.2 _ (by omega), g196]
        refine ⟨RS_cg hc.cb hc.gb e (RSb_e (fun a h3 h4 => ?_) q1), RI_cg hc.cb hc.gb e q2⟩
        rw [lo a (by omega), b2, fs_ne (by omega)]
        exact cp73_ne (by omega)
    · rw [Ar_e (cs 160 rfl), Ar_e (cs 161 rfl), Ar_e (cs 191 rfl), Ar_e (cs 192 rfl)]
      exact z3 j hj
/-- again -/
theorem sr_again (pr : prun sl 126 265 [x] h h1 h2 v w) (r : RK h) (s : SR h) : SR h2 := by
  obtain ⟨⟨m, r1⟩, ⟨f1, i1⟩, ⟨m2, r2⟩, lo2, i2⟩ := pr
  obtain ⟨kq, ch, cc', gc', b, c, ⟨q8, k⟩, ⟨m5, m3, m4, hb⟩, ⟨c4, c5⟩, hj⟩ := r
  have g5 := mF_hi f1 m5
  have hB := (f1.1 194 rfl).trans c4
  have hC := (f1.1 195 rfl).trans c5
  obtain ⟨hh, hq⟩ := id i1
  obtain ⟨x0, h0, -⟩ := ty_fld hh (g := 0) rfl
  obtain ⟨x27, h27, -⟩ := ty_fld hh (g := 27) rfl
  have h12 := ty_ref hh (g := 12) (p := 170) rfl
  have h52 := ty_ref hh (g := 52) (p := 194) rfl
  have h53 := ty_ref hh (g := 53) (p := 195) rfl
  have h54 := ty_ref hh (g := 54) (p := 196) rfl
  obtain ⟨g, hN, -⟩ := ty_arrE hh (i := 170) (by decide) rfl
  obtain ⟨-, -, -, ⟨f, hK, -⟩⟩ := id hq
  have d := rn_dt (F := 10) (Lo := 1000) (hd_agy (fr := 10) (lo := 1000) (sl := sl) x h0 g5 h27 h52 h53 h54 h12 hN hK hB hC (by omega) (by omega)) r2
  have hx : ∀ a, Nat.ble 162 a = true → h1 a = h a := fun a ha => f1.1 a ha
  have lo : ∀ i, i < 162 → h2 i = h1 i := lo2
  have eb : kbit (nI kq) x = agB b c (nI ch) x := by
    cases hin : in_b x.toInt64 0 2 with
    | false =>
      have e2 := hin
      rw [in2_b] at e2
      unfold agB kbit
      rw [hin, e2, Bool.false_and, Bool.false_and]
    | true =>
      obtain ⟨i, hi, rfl⟩ := in3 x hin
      rw [(hj i hi).2]
      unfold agB
      rw [hin, Bool.true_and, nI_clamp (by omega)]
  obtain ⟨q, cc, gc, fi, si, hc, s, hfi, hsi, e1, e2, e3, pa⟩ := SR_open s
  -- the class
  have cl : (kbit (nI kq) x = false → h1 = h) ∧ ∀ i, i < 3 → x = nI i → kbit (nI kq) x = true → h1 = fset (cp73 h 13 (124 + 6 * i)) 25 2 (.int (nI 0)) := by
    by_cases z : 0 ≤ x.toInt ∧ x.toInt ≤ 2
    · obtain ⟨i, rfl, hi0, ei⟩ := hI_of (x := x) z.1
      have hi : i < 3 := by omega
      obtain ⟨a1, -, -⟩ := v126_ok hc (by omega) r1
      injection a1 with b1 b2
      injection b2 with b2 b3
      have ek : pm_cmp .ne ((shr (Fi h 0 7) (nI i)) &&& (nI 1)) 0 = kbit (nI kq) (nI i) := by
        unfold kbit
        rw [nI_rg hi, Bool.true_and, k7_Fi k]
        rfl
      unfold v126 at b2
      rw [decide_eq_false (show ¬ 3 ≤ i by omega), ek] at b2
      refine ⟨fun e => ?_, fun j hj3 ej e => ?_⟩
      · rw [e] at b2
        exact b2
      · rw [e] at b2
        have : i = j := nI_ij (by omega) (by omega) ej
        subst this
        exact b2
    · have kf : kbit (nI kq) x = false := by
        unfold kbit
        rw [decide_eq_false z, Bool.false_and]
      have he : h1 = h := by
        rcases in2_f z with u | ⟨u1, u2, u3⟩
        · have a1 := v126w1_ok hc u r1
          injection a1 with b1 b2
          injection b2 with b2 b3
        · have a1 := v126w2_ok hc u1 u3 r1
          injection a1 with b1 b2
          injection b2 with b2 b3
      exact ⟨fun _ => he, fun i _ _ e => by rw [kf] at e; cases e⟩
  rcases d with ⟨e, d⟩ | ⟨i, gk, hi, ei, e, hcp, d⟩
  · have d2 : h2 = mset h1 0 (.int 0) := congrArg (fun z => z.2.1) d
    rw [cl.1 (eb.trans e), mset_w (g := 0) hc.wt rfl rfl] at d2
    rw [d2]
    have c2 : HC q cc gc (fset h 162 0 (.int 0)) := hc_f rfl rfl (by decide) rfl hc
    exact ⟨q, cc, gc, c2, SR_fr (W := [162]) (V := [(162, 0)]) hc s (fr_f rfl rfl fr_0) (by decide +kernel)⟩
  · have kt : kbit (nI kq) x = true := eb.trans e
    have b2 := cl.2 i hi ei kt
    have cA : HC q cc gc (cp73 h 13 (124 + 6 * i)) := cp73_hc rfl hc
    have c1 : HC q cc gc h1 := by
      rw [b2]
      exact hc_f rfl rfl (by decide) rfl cA
    have d2 : h2 = mset (aset (mset h1 0 (.int 0)) 170 96 gk) 27 (.int 0) := congrArg (fun z => z.2.1) d
    have cB : HC q cc gc (fset h1 162 0 (.int 0)) := hc_f rfl rfl (by decide) rfl c1
    have cC : HC q cc gc (aset (fset h1 162 0 (.int 0)) 170 96 gk) := hc_a rfl rfl cB
    rw [mset_w (g := 0) c1.wt rfl rfl, mset_w (g := 27) cC.wt rfl rfl] at d2
    have c2 : HC q cc gc h2 := by
      rw [d2]
      exact hc_f rfl rfl (by decide) rfl cC
    have up : ∀ a, a ≠ 162 → a ≠ 170 → h2 a = h1 a := fun a n1 n2 => by
      rw [d2, fs_ne n1, asR_ne n2, fs_ne n1]
    have ch1 : ∀ a, a ≠ 25 → (a < 13 ∨ 19 ≤ a) → h1 a = h a := fun a n0 n1 => by
      rw [b2, fs_ne n0]
      exact cp73_ne (by omega)
    have cs : ∀ a, CK.elem a = true → h2 a = h a := fun a e => by
      have w := of_decide_eq_true (List.all_eq_true.mp CK_un a (List.elem_iff.mp e))
      exact (up a w.2.1 w.1).trans (ch1 a w.2.2.1 w.2.2.2)
    have ka : kpt AK h h2 := fun a e => Ar_e (cs a (List.elem_iff.mpr (List.mem_append_left _ (List.elem_iff.mp e))))
    have f47 : Fi h2 162 47 = Fi h 162 47 := by
      rw [d2, Fi_n (Or.inr (by decide)), Fi_a (by decide), Fi_n (Or.inr (by decide)), Fi_e (hx 162 rfl)]
    have kf : kpf FK h h2 := by
      intro c g e
      have e := List.elem_iff.mp e
      simp only [FK, List.mem_cons, Prod.mk.injEq, List.not_mem_nil, or_false] at e
      rcases e with ⟨rfl, rfl⟩ | ⟨rfl, rfl⟩ | ⟨rfl, rfl⟩ | ⟨rfl, rfl⟩ | ⟨rfl, rfl⟩ | ⟨rfl, rfl⟩ | ⟨rfl, rfl⟩ | ⟨rfl, rfl⟩ | ⟨rfl, rfl⟩ | ⟨rfl, rfl⟩ | ⟨rfl, rfl⟩
      · exact Fi_e (cs 0 rfl)
      · exact Fi_e (cs 5 rfl)
      · exact Fi_e (cs 5 rfl)
      · exact Fi_e (cs 159 rfl)
      · exact f47
      · exact Fi_e (cs 124 rfl)
      · exact Fi_e (cs 124 rfl)
      · exact Fi_e (cs 130 rfl)
      · exact Fi_e (cs 130 rfl)
      · exact Fi_e (cs 136 rfl)
      · exact Fi_e (cs 136 rfl)
    have r170 : Ar h2 170 = gk := by
      rw [d2, Ar_f, Ar_s]
    have f196 : f = Ar h 196 := (Ar_l hK).symm.trans (Ar_e (hx 196 rfl))
    have ee : ∀ k, k < 96 → gk k = Ar h 196 (96 * i + k) := fun k hk => by
      have := hcp.1 k hk
      rw [Nat.zero_add, f196] at this
      exact this
    rw [ei, ← k7_Fi k] at kt
    obtain ⟨q1, q2⟩ := s.2.2.2.2.1 i hi kt
    refine SR_act c2 hc.qq s ka kf (fun fs p e1 e2 => ⟨fs, (cs 0 rfl).trans e1, e2⟩) ⟨?_, ?_⟩ ⟨fi, 0, hfi, Nat.zero_le _, ⟨?_, ?_, ?_⟩, fun j hj => absurd hj (Nat.not_lt_zero j)⟩
    · rw [r170]
      refine RS_cg hc.cb hc.gb ee (RSb_e (fun a h3 h4 => ?_) (RSb_cp (s := 13) (t := 124 + 6 * i) hc.cb hc.gb rfl hc.wt q1))
      rw [lo a (by omega), b2, fs_ne (by omega)]
    · rw [r170]
      exact RI_cg hc.cb hc.gb ee q2
    · rw [Fi_e (lo 25 (by decide)), b2, Fi_n (Or.inr (by decide)), Fi_e (cp73_ne (by omega))]
      exact e1
    · rw [Fi_e (lo 25 (by decide)), b2]
      exact Fi_s cA.wt (by decide) rfl (by decide) rfl
    · rw [d2]
      exact Fi_s cC.wt (by decide) rfl (by decide) rfl
end HKA
end MG95zzzex0
section MG95zzzex1
/-! law: SR is kept; what it answers, by the values -/
section LAW
variable {n fr lo sl cc gc n0 u : Nat} {q : QT} {h h1 h2 : pm_H} {v w r : Int32} {R : pm_Rs}
theorem HC_n2 {cc' gc' : Nat} (hc : HC q cc gc h) (w : WT h2) (a : Fi h2 5 0 = nI cc') (b : Fi h2 5 1 = nI gc') (c : Fi h2 162 3 = nI cc') (d : Fi h2 162 4 = nI gc') (e : Fi h2 162 23 = Fi h 162 23) (f : Fi h2 q.1 1 = Fi h q.1 1) (k8 : k0f 8 h h2) (h6 : cc' ≤ 6) (h8 : gc' ≤ 8) : HC q cc' gc' h2 := by
  obtain ⟨_, _, ⟨m3, m4, m23, rs⟩, ⟨_, _, b3, b4⟩, ⟨fs, r1, r2⟩, qq⟩ := hc
  obtain ⟨fs', r1', r2'⟩ := k8 fs _ r1 r2
  exact ⟨w, ⟨a, b⟩, ⟨c, d, e.trans m23, f.trans rs⟩, ⟨h6, h8, b3, b4⟩, ⟨fs', r1', r2'⟩, qq⟩
/-- another length of the reference's code -/
theorem HC_u (hc : HC q cc gc h) (w : WT h2) (cs : ∀ i, i < 162 → h2 i = h i) (f : ∀ g, g ≠ 23 → g ≠ 1 → Fi h2 162 g = Fi h 162 g) (e : Fi h2 162 23 = nI u) (hu : u ≤ 80) : HC (q.1, q.2.1, u) cc gc h2 := by
  obtain ⟨_, ⟨x0, x1⟩, ⟨m3, m4, m23, rs⟩, ⟨b1, b2, b3, b4⟩, ⟨fs, r1, r2⟩, qq⟩ := hc
  refine ⟨w, ⟨(Fi_e (cs 5 (by decide))).trans x0, (Fi_e (cs 5 (by decide))).trans x1⟩, ⟨(f 3 (by decide) (by decide)).trans m3, (f 4 (by decide) (by decide)).trans m4, e, ?_⟩, ⟨b1, b2, b3, hu⟩, ⟨fs, (cs 0 (by decide)).trans r1, r2⟩, qq⟩
  show Fi h2 q.1 1 = nI q.2.1
  rw [Fi_e (cs q.1 (by omega))]
  exact rs
theorem typ58 {o : Nat} (ho : o = 142 ∨ o = 145) (hh : ah_ok bB 198 [] h) (hr : pm_run PT n fr lo 58 (0, pm_l0 [.ref o] 2, [], h, 198, sl) = some R) : ah_ok bB 198 [] R.2.1 ∧ fm cxF h R.2.1 := by
  rcases ho with rfl | rfl
  · have d := rn_dt (F := 170) (Lo := 13600) (cxo205 [.ref 142] h 170 13600 sl ⟨⟨rfl, by decide⟩, trivial⟩ hh trivial (Nat.le_refl _) (Nat.le_refl _)) hr
    exact ⟨d.2.2.2, d.2.2.1.1⟩
  · have d := rn_dt (F := 170) (Lo := 13600) (cxo240 [.ref 145] h 170 13600 sl ⟨⟨rfl, by decide⟩, trivial⟩ hh trivial (Nat.le_refl _) (Nat.le_refl _)) hr
    exact ⟨d.2.2.2, d.2.2.1.1⟩
theorem rule_sz (hh : ah_ok bB 198 [] h) {p : Nat} (hp : p = 142 ∨ p = 145) : ∃ z : Nat, z ≤ 40 ∧ Fi h p 1 = nI z := by
  rcases hp with rfl | rfl
  · exact hc_rule hh rfl (by decide) rfl
  · exact hc_rule hh rfl (by decide) rfl
/-- what a law's reading leaves of the class: the answer behind it -/
def lawA (q : QT) (cc gc : Nat) (h : pm_H) (z : Nat) (r : Int32) : Int32 × pm_H := if q.1 = 145 then v122a q cc gc h z r else v122b q cc gc h z r
/-- the class: the read rule stands where it isn't ruling -/
theorem law_x (hL : LI5 h) (hc : HC q cc gc h) (ot : OT q h) (hr : pm_run PT n fr lo 122 (0, pm_l0 [.ref 0] 4, [], h, 198, sl) = some R) : ∃ (n0 z : Nat) (f0 : Nat → Int32) (hB : pm_H), (n0 ≤ 80 ∧ Fi h 162 15 = nI n0 ∧ ∀ j, j < n0 → f0 j = Ar h 172 j) ∧ (HC q cc gc hB ∧ ah_ok bB 198 [] hB) ∧ (kpf SF2 h hB ∧ (Ar hB (q.1 + 1) = Ar h (q.1 + 1) ∧ hB q.1 = h q.1) ∧ OT q hB) ∧ (z ≤ 40 ∧ Fi hB (287 - q.1) 1 = nI z ∧ (zK f0 n0 = true → kX hB (287 - q.1) (dsX f0 n0))) ∧ R = (some (.int (lawA q cc gc hB z (zF f0 n0)).1), (lawA q cc gc hB z (zF f0 n0)).2, 198, sl) ∧ HC q cc gc (lawA q cc gc hB z (zF f0 n0)).2 ∧ frm [1, 3, 4, 12, 142, 144, 145, 147] [(1, 1), (3, 1), (142, 3), (145, 3)] hB (lawA q cc gc hB z (zF f0 n0)).2 := by
  have hI : mInv h := hL.1
  obtain ⟨-, ⟨n0, cc0, f0, g0, hn, hc0, ⟨x1, x2⟩, ⟨y1, y2, y3⟩, hjj⟩, -⟩ := hL
  obtain ⟨fs, a1, a2, a3⟩ := ty_x2 hI.1
  have px : pX h n0 cc0 f0 := ⟨⟨fs, a1, a2, a3⟩, x1.1, x1.2, x2⟩
  obtain ⟨fo, o1, o2⟩ := id ot
  have ho : (287 - q.1 = 142 ∧ q.1 = 145) ∨ (287 - q.1 = 145 ∧ q.1 = 142) := by
    rcases hc.qq with e | e
    · exact Or.inr ⟨by omega, e⟩
    · exact Or.inl ⟨by omega, e⟩
  have ho2 : 287 - q.1 = 142 ∨ 287 - q.1 = 145 := by
    rcases ho with e | e
    · exact Or.inl e.1
    · exact Or.inr e.1
  have hok : oOk2 (287 - q.1) := by
    rcases ho with ⟨e, -⟩ | ⟨e, -⟩
    · rw [e]
      exact ⟨⟨by decide, by decide, by decide, by decide, by decide⟩, by decide, by decide, by decide, by decide, by decide⟩
    · rw [e]
      exact ⟨⟨by decide, by decide, by decide, by decide, by decide⟩, by decide, by decide, by decide, by decide, by decide⟩
  obtain ⟨rs, w5, s1, e0, e4, e5, es, er, eC⟩ := rule_ob hI.1 ho2
  obtain ⟨n, hh⟩ := rn_i rfl rfl rfl rfl hr
  have hh : pm_run PT n fr lo 122 (1, [some (.ref 0), none, none, none], [.ref 0], h, 198, sl) = some R := hh
  obtain ⟨n, hh⟩ := rn_gfo (g := 9) rfl rfl (by decide) o1 o2 hh
  obtain ⟨n, fr', lo', r1, hr1, hh⟩ := rn_call (w := 0) (t := 58) rfl rfl hh
  obtain ⟨c1, c2, c3⟩ := rdc_run hok hn px er eC e0 e4 e5 es hr1
  have c4 := rdc_keep ho hI.1 hr1
  have c5 : fm (sfF rdP) h r1.2.1 := sf_run rd_sf _ _ _ 58 _ r1 rfl hr1
  have c6 : fm (sfF w2P) h r1.2.1 := sf_run w2_ok _ _ _ 58 _ r1 rfl hr1
  obtain ⟨t1, t2⟩ := typ58 ho2 hI.1 hr1
  obtain ⟨rv, hB, s2⟩ := r1
  dsimp only at c1 c2 c3 c4 c5 c6 t1 t2
  subst c1
  subst c2
  have kf : kpf SF2 h hB := kp2_fm hI.1 c6
  have k162 : hB 162 = h 162 := t2.1 162 rfl
  have g1 : ruA q.1 q.1 = true := by
    unfold ruA
    rw [show Nat.beq q.1 q.1 = true from Nat.beq_refl _]
    rfl
  have g2 : ruA q.1 (q.1 + 1) = true := by
    unfold ruA
    rw [show Nat.beq (q.1 + 1) (q.1 + 1) = true from Nat.beq_refl _, Bool.true_or, Bool.or_true]
  have k8 : ∀ g, g = 8 ∨ g = 9 → k0f g h hB := fun g hg fs p e e2 => by
    obtain ⟨fs', e', -, hk⟩ := c5.2 0 10 fs e
    exact ⟨fs', e', (hk g (by rcases hg with rfl | rfl <;> rfl)).trans e2⟩
  have cB : HC q cc gc hB := HC_n2 hc (wt_of t1) ((kf 5 0 rfl).trans hc.x0) ((kf 5 1 rfl).trans hc.x1) ((Fi_e k162).trans hc.m3) ((Fi_e k162).trans hc.m4) (Fi_e k162) (Fi_e (c4 _ g1)) (k8 8 (Or.inl rfl)) hc.cb hc.gb
  obtain ⟨fs9, p1, p2⟩ := k8 9 (Or.inr rfl) fo _ o1 o2
  have hh : pm_run PT n fr lo 122 (7, [some (.ref 0), none, none, none], [.int (zF f0 n0)], hB, 198, sl) = some R := hh
  obtain ⟨n, hh⟩ := rn_i rfl rfl rfl rfl hh
  have hh : pm_run PT n fr lo 122 (8, [some (.ref 0), some (.int (zF f0 n0)), none, none], [], hB, 198, sl) = some R := hh
  obtain ⟨z, hz, ez⟩ := rule_sz t1 ho2
  have e172 : g0 = Ar h 172 := (Ar_of y2).symm
  refine ⟨n0, z, f0, hB, ⟨hn, Fi_m y1, fun j hj => by rw [← e172]; exact hjj j hj⟩, ⟨cB, t1⟩, ⟨kf, ⟨Ar_e (c4 _ g2), c4 _ g1⟩, ⟨fs9, p1, p2⟩⟩, ⟨hz, ez, c3⟩, ?_⟩
  unfold lawA
  rcases ho with ⟨e1, e2⟩ | ⟨e1, e2⟩
  · rw [if_pos e2]
    rw [e1] at ez p2
    exact v122a_ok cB hz ⟨fs9, p1, p2⟩ ez (na_17 t1) hh
  · rw [if_neg (by omega)]
    rw [e1] at ez p2
    exact v122b_ok cB hz ⟨fs9, p1, p2⟩ ez (na_17 t1) hh
/-- the reference reads the law -/
theorem law_m (hI : mInv h) (hc : HC q cc gc h) (hn : n0 ≤ 80) (t15 : Fi h 162 15 = nI n0) (hr : pm_run PT n fr lo 258 (0, pm_l0 [.ref 162] 5, [], h, 198, sl) = some R) : ∃ (hC : pm_H) (n : Nat), (mInv hC ∧ HC q cc gc hC) ∧ ((∀ i, i < 162 → hC i = h i) ∧ (∀ i, i ≠ 162 → i ≠ 175 → hC i = h i) ∧ ∀ g, g ≠ 0 → g ≠ 15 → g ≠ 16 → g ≠ 17 → g ≠ 18 → g ≠ 24 → Fi hC 162 g = Fi h 162 g) ∧ (zK (Ar h 172) n0 = true → kN hC (esM (Ar h 172) n0)) ∧ pm_run PT n fr lo 258 (9, [some (.ref 162), none, none, none, none], [.int (zA (Ar h 172) n0)], hC, 198, sl) = some R := by
  obtain ⟨hh0, hq⟩ := id hI
  obtain ⟨x0, h0, -⟩ := ty_fld hh0 (g := 0) rfl
  obtain ⟨w16, h16⟩ := ty_mi hh0 16 (by decide +kernel) (by decide +kernel)
  obtain ⟨w17, h17⟩ := ty_mi hh0 17 (by decide +kernel) (by decide +kernel)
  obtain ⟨w18, h18⟩ := ty_mi hh0 18 (by decide +kernel) (by decide +kernel)
  obtain ⟨w24, h24⟩ := ty_mi hh0 24 (by decide +kernel) (by decide +kernel)
  have h15 : mF h 15 (.int (nI n0)) := by
    have z := wt_i (c := 162) (g := 15) hc.wt (by decide) rfl (by decide) rfl
    rw [t15] at z
    exact z
  have h14 := ty_m14 hh0
  have h22 := ty_ref hh0 (g := 22) (p := 175) rfl
  have hA : h 172 = .inl (0, 80, .inl (Ar h 172)) := wt_a hc.wt (by decide) rfl (by decide)
  have hR : h 175 = .inl (0, 80, .inl (Ar h 175)) := wt_a hc.wt (by decide) rfl (by decide)
  have hC0 : h 174 = .inl (0, 80, .inl (Ar h 174)) := wt_a hc.wt (by decide) rfl (by decide)
  obtain ⟨x23, h23, v23⟩ := ty_fld hh0 (g := 23) rfl
  obtain ⟨n, hh⟩ := rn_i rfl rfl rfl rfl hr
  obtain ⟨n, hh⟩ := rn_i rfl rfl rfl rfl hh
  have hh : pm_run PT n fr lo 258 (2, [some (.ref 162), none, none, none, none], [.int 0, .ref 162], h, 198, sl) = some R := hh
  obtain ⟨n, hh⟩ := rn_pfm (w := x0) rfl rfl rfl (by decide) h0 hh
  obtain ⟨n, hh⟩ := rn_i rfl rfl rfl rfl hh
  have hh : pm_run PT n fr lo 258 (6, [some (.ref 162), none, none, none, none], [.ref 162], mset h 0 (.int 0), 198, sl) = some R := hh
  obtain ⟨n, fr', lo', r1, hr1, hh⟩ := rn_call (w := 0) (t := 196) rfl rfl hh
  obtain ⟨c1, c2, c3⟩ := rdn_run (tp := Ar h 172) (mset_arr (by decide) hR) hn (mF_ne (by decide) h15) (mF_ne (by decide) h16) (mF_ne (by decide) h17) (mF_ne (by decide) h18) (mF_ne (by decide) h24) (mF_ne (by decide) h14) (mset_arr (by decide) hA) (mF_ne (by decide) h22) hr1
  obtain ⟨f, hC, a, t, nn, c, rc2, tp2, er, d2, s2, m15, ha, ht, hnn, hcn, f1, f2, f3⟩ := rn_dt (F := 400) (Lo := 10000) (hd_readsRule (fr := 400) (lo := 10000) (sl := sl) (n := n0) (mF_ne (by decide) h15) (mF_ne (by decide) h16) (mF_ne (by decide) h17) (mF_ne (by decide) h18) (mF_ne (by decide) h24) (mF_ne (by decide) h14) (mset_arr (by decide) hA) (mF_ne (by decide) h22) (mset_arr (by decide) hR) hn (by omega) (by omega)) hr1
  subst er
  dsimp only at c1 c2 c3
  have c1 : f = zA (Ar h 172) n0 := by
    injection c1 with c1
    injection c1
  subst c1
  obtain ⟨p1, p2, p3, p4, p5, p6, p7, p8⟩ := s2
  have d0 : dD ruC ruG h hC := dD_tr (dD_set rfl) (dD_mono d2 (fun i q => by unfold ruC at q; rw [Bool.or_eq_false_iff] at q; exact q.1) (fun g q => by unfold ruG at q; rw [Bool.or_eq_false_iff, Bool.or_eq_false_iff] at q; exact q.2.2))
  have m0 : mF hC 0 (.int 0) := dD_mF d2 rfl (mF_self h0)
  have m23 : mF hC 23 x23 := dD_mF d2 rfl (mF_ne (by decide) h23)
  have mC : hC 174 = .inl (0, 80, .inl (Ar h 174)) := (d2.1 174 (by decide) rfl).trans (mset_arr (by decide) hC0)
  have dq : dD rDC (fun g => Nat.beq g 0 || rDG g) h hC := dD_tr (dD_set rfl) (dD_mono d2 (fun _ q => q) (fun g q => by rw [Bool.or_eq_false_iff] at q; exact q.2))
  have hI2 : mInv hC := ⟨dD_ty hh0 d0 (fun i hi _ _ => ru_cell hi p8 mC) (fun g hg b hb => ru_fld hg hb m0 m15 p1 p2 p5 p6 m23 v23 ha ht hnn hcn), rxQ_dD dq rfl rfl rfl rfl rfl rfl hq⟩
  have l2 : ∀ i, i < 162 → hC i = h i := x_lt d0 (fun i hi => ruC_lt hi)
  have cs : ∀ i, i ≠ 162 → i ≠ 175 → hC i = h i := fun i n1 n2 => dq.1 i n1 (by
    unfold rDC
    cases y : Nat.beq i 175 with
    | false => rfl
    | true => exact absurd (Nat.eq_of_beq_eq_true y) n2)
  have fg : ∀ g, g ≠ 0 → g ≠ 15 → g ≠ 16 → g ≠ 17 → g ≠ 18 → g ≠ 24 → Fi hC 162 g = Fi h 162 g := by
    intro g n1 n2 n3 n4 n5 n6
    obtain ⟨fs, e, -⟩ := id h0
    obtain ⟨fs', e', -, hk⟩ := dq.2 fs e
    have nb : ∀ k, g ≠ k → Nat.beq g k = false := fun k hk => by
      cases y : Nat.beq g k with
      | false => rfl
      | true => exact absurd (Nat.eq_of_beq_eq_true y) hk
    have z := hk g (by
      show (Nat.beq g 0 || rDG g) = false
      unfold rDG
      rw [nb 0 n1, nb 15 n2, nb 16 n3, nb 17 n4, nb 18 n5, nb 24 n6]
      rfl)
    unfold Fi
    rw [e, e']
    dsimp only
    rw [z]
  refine ⟨hC, n, ⟨hI2, HC_n2 hc (wt_of hI2.1) ((Fi_e (l2 5 (by decide))).trans hc.x0) ((Fi_e (l2 5 (by decide))).trans hc.x1) ((fg 3 (by decide) (by decide) (by decide) (by decide) (by decide) (by decide)).trans hc.m3) ((fg 4 (by decide) (by decide) (by decide) (by decide) (by decide) (by decide)).trans hc.m4) (fg 23 (by decide) (by decide) (by decide) (by decide) (by decide) (by decide)) (Fi_e (l2 q.1 (by have := hc.qq; omega))) (fun fs p e e2 => ⟨fs, (l2 0 (by decide)).trans e, e2⟩) hc.cb hc.gb⟩, ⟨l2, cs, fg⟩, c3, hh⟩
/-- the codes laid -/
theorem w197a_ar {m : Nat} : (∀ j, j < m → Ar (w197a q cc gc h m) 174 j = Ar h 175 j) := by
  have z := lp_in (f := fun i a => w197a_7b q cc gc a m i) (P := fun i a => Ar a 175 = Ar h 175 ∧ ∀ j, j < i → Ar a 174 j = Ar h 175 j) m 0 (fset h 162 23 (.int (nI m))) ⟨Ar_f, fun j hj => absurd hj (Nat.not_lt_zero j)⟩ (fun k a _ _ p => by
    obtain ⟨p1, p2⟩ := p
    refine ⟨?_, fun j hj => ?_⟩
    · show Ar (aset a 174 80 (upd (Ar a 174) k ((Ar a 175) k))) 175 = _
      rw [Ar_n (by decide)]
      exact p1
    · show Ar (aset a 174 80 (upd (Ar a 174) k ((Ar a 175) k))) 174 j = _
      rw [Ar_s, p1]
      by_cases y : j = k
      · rw [y, up_e rfl]
      · rw [up_n y]
        exact p2 j (by omega))
  exact fun j hj => z.2 j (by omega)
theorem w197b_ar {m : Nat} : (∀ j, j < m → Ar (w197b q cc gc h m) 174 j = Ar h 193 j) := by
  have z := lp_in (f := fun i a => w197b_7b q cc gc a m i) (P := fun i a => Ar a 193 = Ar h 193 ∧ ∀ j, j < i → Ar a 174 j = Ar h 193 j) m 0 (fset h 162 23 (.int (nI m))) ⟨Ar_f, fun j hj => absurd hj (Nat.not_lt_zero j)⟩ (fun k a _ _ p => by
    obtain ⟨p1, p2⟩ := p
    refine ⟨?_, fun j hj => ?_⟩
    · show Ar (aset a 174 80 (upd (Ar a 174) k ((Ar a 193) k))) 193 = _
      rw [Ar_n (by decide)]
      exact p1
    · show Ar (aset a 174 80 (upd (Ar a 174) k ((Ar a 193) k))) 174 j = _
      rw [Ar_s, p1]
      by_cases y : j = k
      · rw [y, up_e rfl]
      · rw [up_n y]
        exact p2 j (by omega))
  exact fun j hj => z.2 j (by omega)
theorem w258_ar {m : Nat} {t1 t2 t3 : Int32} : (∀ j, j < m → Ar (w258_35 q cc gc m t1 t2 t3 m 0 h) 193 j = Ar h 174 j) := by
  have z := lp_in (f := fun i a => w258_35b q cc gc a m t1 t2 t3 i) (P := fun i a => Ar a 174 = Ar h 174 ∧ ∀ j, j < i → Ar a 193 j = Ar h 174 j) m 0 h ⟨rfl, fun j hj => absurd hj (Nat.not_lt_zero j)⟩ (fun k a _ _ p => by
    obtain ⟨p1, p2⟩ := p
    refine ⟨?_, fun j hj => ?_⟩
    · show Ar (aset a 193 80 (upd (Ar a 193) k ((Ar a 174) k))) 174 = _
      rw [Ar_n (by decide)]
      exact p1
    · show Ar (aset a 193 80 (upd (Ar a 193) k ((Ar a 174) k))) 193 j = _
      rw [Ar_s, p1]
      by_cases y : j = k
      · rw [y, up_e rfl]
      · rw [up_n y]
        exact p2 j (by omega))
  exact fun j hj => z.2 j (by omega)
theorem w197a_f {m : Nat} (hm : m ≤ 80) (hw : WT h) : Fi (w197a q cc gc h m) 162 23 = nI m := by
  have w1 : WT (fset h 162 23 (.int (nI m))) := wt_fs rfl (by decide) rfl hw
  have z := (w197a_7_fr (q := q) (cc := cc) (gc := gc) (m2 := m) hm (j := m) (i := 0) w1).2.1 162 rfl
  show Fi (w197a_7 q cc gc m m 0 (fset h 162 23 (.int (nI m)))) 162 23 = nI m
  rw [Fi_e z]
  exact Fi_s hw (by decide) rfl (by decide) rfl
theorem w197b_f {m : Nat} (hm : m ≤ 80) (hw : WT h) : Fi (w197b q cc gc h m) 162 23 = nI m := by
  have w1 : WT (fset h 162 23 (.int (nI m))) := wt_fs rfl (by decide) rfl hw
  have z := (w197b_7_fr (q := q) (cc := cc) (gc := gc) (m2 := m) hm (j := m) (i := 0) w1).2.1 162 rfl
  show Fi (w197b_7 q cc gc m m 0 (fset h 162 23 (.int (nI m)))) 162 23 = nI m
  rw [Fi_e z]
  exact Fi_s hw (by decide) rfl (by decide) rfl
theorem frm_fi {W : List Nat} {V : List (Nat × Nat)} {g : Nat} (f : frm W V h h1) (e : V.elem (162, g) = false) : Fi h1 162 g = Fi h 162 g := f.2 162 g rfl e
/-- law, behind its reading: both codes are evaluated, the old one is laid back -/
theorem law_tail (hc : HC q cc gc h) (na : NA h 170 78 86 6) (hu : u ≤ 80) (e24 : Fi h 162 24 = nI u) (hh : pm_run PT n fr lo 258 (22, [some (.ref 162), some (.int r), none, none, none], [], h, 198, sl) = some R) : ∃ (h3 h5 : pm_H) (w : Int32), R = (some (.int w), h5, 198, sl) ∧ (HC q cc gc h5 ∧ frm [162, 163, 174, 176, 177, 193] [(162, 1), (162, 23)] h h5 ∧ ∀ j, j < q.2.2 → Ar h5 174 j = Ar h 174 j) ∧ (HC (q.1, q.2.1, u) cc gc h3 ∧ frm [162, 174, 176, 177, 193] [(162, 23)] h h3 ∧ ∀ j, j < u → Ar h3 174 j = Ar h 175 j) ∧ w = (v257 (q.1, q.2.1, u) cc gc h3).1 - (v257 q cc gc h).1 := by
  have hu2 := hc.zr
  obtain ⟨n, hh⟩ := rn_i rfl rfl rfl rfl hh
  have hh : pm_run PT n fr lo 258 (23, [some (.ref 162), some (.int r), none, none, none], [.ref 162], h, 198, sl) = some R := hh
  obtain ⟨n, fr1, lo1, r1, hh1, hh⟩ := rn_call (w := 0) (t := 257) rfl rfl hh
  obtain ⟨er, c1, f1⟩ := v257_ok hc na hh1
  subst er
  have hh : pm_run PT n fr lo 258 (26, [some (.ref 162), some (.int r), none, none, none], [.int (v257 q cc gc h).1], (v257 q cc gc h).2, 198, sl) = some R := hh
  have a174 : Ar (v257 q cc gc h).2 174 = Ar h 174 := Ar_e (f1.1 174 rfl)
  have a175 : Ar (v257 q cc gc h).2 175 = Ar h 175 := Ar_e (f1.1 175 rfl)
  have na1 : NA (v257 q cc gc h).2 170 78 86 6 := NA_e (Ar_e (f1.1 170 rfl)) na
  have f1' : frm [162, 174, 176, 177, 193] [(162, 23)] h (v257 q cc gc h).2 := fr_g rfl rfl f1 fr_0
  have e24a : Fi (v257 q cc gc h).2 162 24 = nI u := (frm_fi f1' rfl).trans e24
  generalize (v257 q cc gc h).1 = V1 at *
  generalize (v257 q cc gc h).2 = hA at *
  have hh : pm_run PT n fr lo 258 (26, [some (.ref 162), some (.int r), none, none, none], [.int V1], hA, 198, sl) = some R := hh
  obtain ⟨n, hh⟩ := rn_i rfl rfl rfl rfl hh
  obtain ⟨n, hh⟩ := rn_i rfl rfl rfl rfl hh
  have hh : pm_run PT n fr lo 258 (28, [some (.ref 162), some (.int r), some (.int V1), none, none], [.ref 162], hA, 198, sl) = some R := hh
  obtain ⟨n, hh⟩ := rn_gi (x := nI q.2.2) c1.wt rfl rfl (by decide) rfl (by decide) rfl c1.m23 hh
  obtain ⟨n, hh⟩ := rn_i rfl rfl rfl rfl hh
  obtain ⟨n, hh⟩ := rn_i rfl rfl rfl rfl hh
  obtain ⟨n, hh⟩ := rn_i rfl rfl rfl rfl hh
  have hh : pm_run PT n fr lo 258 (35, [some (.ref 162), some (.int r), some (.int V1), some (.int (nI q.2.2)), some (.int (nI 0))], [], hA, 198, sl) = some R := hh
  obtain ⟨n, wc, w2, f2, e23, hh⟩ := w258_35_ok (cc := cc) (gc := gc) (q := q) (z162_23 := q.2.2) (i := 0) (j := q.2.2) (by omega) (by omega) c1.wt hu2 c1.m23 hh
  have b193 := w258_ar (q := q) (cc := cc) (gc := gc) (h := hA) (m := q.2.2) (t1 := r) (t2 := V1) (t3 := nI q.2.2)
  have b175 : Ar (w258_35 q cc gc q.2.2 r V1 (nI q.2.2) q.2.2 0 hA) 175 = Ar hA 175 := Ar_e (f2.1 175 rfl)
  have e24b : Fi (w258_35 q cc gc q.2.2 r V1 (nI q.2.2) q.2.2 0 hA) 162 24 = nI u := (Fi_e (f2.1 162 rfl)).trans e24a
  have f2' : frm [162, 174, 176, 177, 193] [(162, 23)] h (w258_35 q cc gc q.2.2 r V1 (nI q.2.2) q.2.2 0 hA) := fr_g rfl rfl f2 f1'
  generalize w258_35 q cc gc q.2.2 r V1 (nI q.2.2) q.2.2 0 hA = hB at *
  have hh : pm_run PT n fr lo 258 (64, [some (.ref 162), some (.int r), some (.int V1), some (.int (nI q.2.2)), wc], [], hB, 198, sl) = some R := hh
  obtain ⟨n, hh⟩ := rn_i rfl rfl rfl rfl hh
  obtain ⟨n, hh⟩ := rn_i rfl rfl rfl rfl hh
  have hh : pm_run PT n fr lo 258 (66, [some (.ref 162), some (.int r), some (.int V1), some (.int (nI q.2.2)), wc], [.ref 162, .ref 162], hB, 198, sl) = some R := hh
  obtain ⟨n, hh⟩ := rn_gr w2 rfl rfl (by decide) rfl (by decide) (show _ = some (2, ((175 : Nat) : Int), 1) from rfl) rfl hh
  obtain ⟨n, hh⟩ := rn_i rfl rfl rfl rfl hh
  have hh : pm_run PT n fr lo 258 (70, [some (.ref 162), some (.int r), some (.int V1), some (.int (nI q.2.2)), wc], [.ref 162, .ref 175, .ref 162], hB, 198, sl) = some R := hh
  obtain ⟨n, hh⟩ := rn_gi (x := nI u) w2 rfl rfl (by decide) rfl (by decide) rfl e24b hh
  have hh : pm_run PT n fr lo 258 (73, [some (.ref 162), some (.int r), some (.int V1), some (.int (nI q.2.2)), wc], [.int (nI u), .ref 175, .ref 162], hB, 198, sl) = some R := hh
  obtain ⟨n, fr1, lo1, r1, hh1, hh⟩ := rn_call (w := 0) (t := 197) rfl rfl hh
  obtain ⟨er, w3, f3⟩ := w197a_ok (q := q) (cc := cc) (gc := gc) w2 (by omega) hu hh1
  subst er
  have d174 := w197a_ar (q := q) (cc := cc) (gc := gc) (h := hB) (m := u)
  have e23c : Fi (w197a q cc gc hB u) 162 23 = nI u := w197a_f hu w2
  have d193 : Ar (w197a q cc gc hB u) 193 = Ar hB 193 := Ar_e (f3.1 193 rfl)
  have f3' : frm [162, 174, 176, 177, 193] [(162, 23)] h (w197a q cc gc hB u) := fr_g rfl rfl f3 f2'
  generalize w197a q cc gc hB u = hC at *
  have ne : ∀ i, i < 162 → (List.elem i [162, 174, 176, 177, 193]) = false := fun i hi => by
    cases y : List.elem i [162, 174, 176, 177, 193] with
    | false => rfl
    | true =>
      have y := List.elem_iff.mp y
      simp at y
      omega
  have nv : ∀ g, g ≠ 23 → (List.elem ((162, g) : Nat × Nat) [(162, 23)]) = false := fun g hg => by
    cases y : List.elem ((162, g) : Nat × Nat) [(162, 23)] with
    | false => rfl
    | true =>
      have y := List.elem_iff.mp y
      simp at y
      exact absurd y hg
  have c3 : HC (q.1, q.2.1, u) cc gc hC := HC_u hc w3 (fun i hi => f3'.1 i (ne i hi)) (fun g h1 _ => frm_fi f3' (nv g h1)) e23c hu
  have na3 : NA hC 170 78 86 6 := NA_e (Ar_e (f3'.1 170 rfl)) na
  have hh : pm_run PT n fr lo 258 (76, [some (.ref 162), some (.int r), some (.int V1), some (.int (nI q.2.2)), wc], [], hC, 198, sl) = some R := hh
  obtain ⟨n, hh⟩ := rn_i rfl rfl rfl rfl hh
  have hh : pm_run PT n fr lo 258 (77, [some (.ref 162), some (.int r), some (.int V1), some (.int (nI q.2.2)), wc], [.ref 162], hC, 198, sl) = some R := hh
  obtain ⟨n, fr1, lo1, r1, hh1, hh⟩ := rn_call (w := 0) (t := 257) rfl rfl hh
  obtain ⟨er, c4, f4⟩ := v257_ok c3 na3 hh1
  subst er
  have g193 : Ar (v257 (q.1, q.2.1, u) cc gc hC).2 193 = Ar hC 193 := Ar_e (f4.1 193 rfl)
  have f4' : frm [162, 174, 176, 177, 193] [(162, 23)] h (v257 (q.1, q.2.1, u) cc gc hC).2 := fr_g rfl rfl f4 f3'
  generalize (v257 (q.1, q.2.1, u) cc gc hC).2 = hD at *
  generalize hV : (v257 (q.1, q.2.1, u) cc gc hC).1 = V2 at *
  have hh : pm_run PT n fr lo 258 (80, [some (.ref 162), some (.int r), some (.int V1), some (.int (nI q.2.2)), wc], [.int V2], hD, 198, sl) = some R := hh
  obtain ⟨n, hh⟩ := rn_i rfl rfl rfl rfl hh
  obtain ⟨n, hh⟩ := rn_i rfl rfl rfl rfl hh
  obtain ⟨n, hh⟩ := rn_i rfl rfl rfl rfl hh
  have hh : pm_run PT n fr lo 258 (84, [some (.ref 162), some (.int r), some (.int V1), some (.int (nI q.2.2)), some (.int V2)], [.ref 162, .ref 162], hD, 198, sl) = some R := hh
  obtain ⟨n, hh⟩ := rn_gr c4.wt rfl rfl (by decide) rfl (by decide) (show _ = some (2, ((193 : Nat) : Int), 1) from rfl) rfl hh
  obtain ⟨n, hh⟩ := rn_i rfl rfl rfl rfl hh
  have hh : pm_run PT n fr lo 258 (88, [some (.ref 162), some (.int r), some (.int V1), some (.int (nI q.2.2)), some (.int V2)], [.int (nI q.2.2), .ref 193, .ref 162], hD, 198, sl) = some R := hh
  obtain ⟨n, fr1, lo1, r1, hh1, hh⟩ := rn_call (w := 0) (t := 197) rfl rfl hh
  obtain ⟨er, w5, f5⟩ := w197b_ok (q := q) (cc := cc) (gc := gc) c4.wt (by omega) hu2 hh1
  subst er
  have k174 := w197b_ar (q := q) (cc := cc) (gc := gc) (h := hD) (m := q.2.2)
  have e23e : Fi (w197b q cc gc hD q.2.2) 162 23 = nI q.2.2 := w197b_f hu2 c4.wt
  have f5' : frm [162, 174, 176, 177, 193] [(162, 23)] h (w197b q cc gc hD q.2.2) := fr_g rfl rfl f5 f4'
  generalize w197b q cc gc hD q.2.2 = hE at *
  have c5 : HC q cc gc hE := HC_u (q := q) hc w5 (fun i hi => f5'.1 i (ne i hi)) (fun g h1 _ => frm_fi f5' (nv g h1)) e23e hu2
  have hh : pm_run PT n fr lo 258 (91, [some (.ref 162), some (.int r), some (.int V1), some (.int (nI q.2.2)), some (.int V2)], [], hE, 198, sl) = some R := hh
  obtain ⟨er, c6, f6⟩ := v258e_ok c5 hh
  have f6' : frm [162, 163, 174, 176, 177, 193] [(162, 1), (162, 23)] h (v258e q cc gc hE r V1 (nI q.2.2) V2).2 := fr_g rfl rfl f6 (fr_g rfl rfl f5' fr_0)
  refine ⟨hC, (v258e q cc gc hE r V1 (nI q.2.2) V2).2, V2 - V1, er, ⟨c6, f6', fun j hj => ?_⟩, ⟨c3, f3', fun j hj => ?_⟩, by rw [hV]⟩
  · rw [Ar_e (f6.1 174 rfl), k174 j hj, g193, d193, b193 j hj, a174]
  · rw [d174 j hj, b175, a175]
theorem evl_cgC {f : List Int32 → Int32 → List Int32} {C D : Nat → Int32} : ∀ {k : Nat}, (∀ j, j < k → C j = D j) → evl f C k = evl f D k
  | 0, _ => rfl
  | k + 1, e => by
    show f (evl f C k) (C k) = f (evl f D k) (D k)
    rw [evl_cgC (fun j hj => e j (by omega)), e k (by omega)]
theorem VR_cgD {C D D' : Nat → Int32} (e : ∀ j, j < q.2.2 → D' j = D j) (s : VR q cc gc C D) : VR q cc gc C D' := by
  obtain ⟨V, v0, v1, v2, v3⟩ := s
  refine ⟨V, v0, v1, v2, fun z => ⟨?_, fun A => ?_⟩⟩
  · obtain ⟨⟨dn, hd⟩, -⟩ := v3 z
    exact ⟨dn, (dep_cong e).trans hd⟩
  · rw [evl_cgC e]
    exact (v3 z).2 A
theorem m1p_ge : ∀ p, p < 41 → pm_cmp .ge (Int32.ofInt (-1) - nI p) 0 = false := by decide +kernel
def kSB (W : List Nat) : Bool := SB.all (fun a => !(W.elem a))
def kS2 (V : List (Nat × Nat)) : Bool := SF2.all (fun p => isO p.1 && !(V.elem p))
theorem kpt_fr {W : List Nat} {V : List (Nat × Nat)} (f : frm W V h h1) (k : kSB W = true) : kpt SB h h1 := fun a e => Ar_e (f.1 a (nel (List.all_eq_true.mp k a (List.elem_iff.mp e))))
theorem kpf_fr {W : List Nat} {V : List (Nat × Nat)} (f : frm W V h h1) (k : kS2 V = true) : kpf SF2 h h1 := fun c g e => by
  have z := List.all_eq_true.mp k (c, g) (List.elem_iff.mp e)
  rw [Bool.and_eq_true] at z
  exact f.2 c g z.1 (nel2 z.2)
theorem SB_ne : SB.all (fun a => decide (a ≠ 162 ∧ a ≠ 175)) = true := by decide +kernel
theorem SF2_m : SF2.all (fun p => decide (p.1 < 162) || (Nat.beq p.1 162 && (decide (p.2 ≠ 0 ∧ p.2 ≠ 15 ∧ p.2 ≠ 16) && decide (p.2 ≠ 17 ∧ p.2 ≠ 18 ∧ p.2 ≠ 24)))) = true := by decide +kernel
/-- law keeps SR -/
theorem sr_law (hL : LI5 h) (pr : prun sl 122 258 [] h h1 h2 v w) (s : SR h) : SR h2 := by
  obtain ⟨q, cc, gc, hc, ⟨⟨vr, ot⟩, sc⟩⟩ := s
  obtain ⟨⟨m, r1⟩, ⟨f1, i1⟩, ⟨m2, r2⟩, lo1, i2⟩ := pr
  have hI : mInv h := hL.1
  obtain ⟨n0, z, f0, hB, ⟨hn, t15, hjj⟩, ⟨cB, tB⟩, ⟨kfB, ⟨kC, kq⟩, ⟨fs9, p1, p2⟩⟩, ⟨hz, ez, kx⟩, er, c1, g1⟩ := law_x hL hc ot r1
  injection er with b1 b2
  injection b2 with b2 b3
  rw [← b2] at c1 g1
  have fx : fm (sfF w2P) h h1 := sf_run w2_ok _ _ _ 122 _ (some (.int v), h1, 198, sl) rfl r1
  have kf1 : kpf SF2 h h1 := kp2_fm hI.1 fx
  have ka1 : kpt SB h h1 := s2x_kpt (R := (some (.int v), h1, 198, sl)) rfl rfl rfl hI f1 r1
  have eC1 : Ar h1 (q.1 + 1) = Ar h (q.1 + 1) := by
    refine Eq.trans (Ar_e (g1.1 (q.1 + 1) ?_)) kC
    rcases hc.qq with e | e <;> (rw [e]; rfl)
  have ot1 : h1 0 = .inr (10, fs9) := (g1.1 0 rfl).trans p1
  have x172 : Ar h1 172 = Ar h 172 := Ar_e (f1.1 172 rfl)
  have x174 : Ar h1 174 = Ar h 174 := Ar_e (f1.1 174 rfl)
  obtain ⟨hC, n, ⟨iC, cC⟩, ⟨l2, cs, fg⟩, kn, hh⟩ := law_m i1 c1 hn ((Fi_e (f1.1 162 rfl)).trans t15) r2
  rw [x172] at kn hh
  have kaC : kpt SB h1 hC := fun a e => by
    have y := of_decide_eq_true (List.all_eq_true.mp SB_ne a (List.elem_iff.mp e))
    exact Ar_e (cs a y.1 y.2)
  have kfC : kpf SF2 h1 hC := fun c g e => by
    have y := List.all_eq_true.mp SF2_m (c, g) (List.elem_iff.mp e)
    rw [Bool.or_eq_true, Bool.and_eq_true, Bool.and_eq_true] at y
    rcases y with y | ⟨y1, y2, y3⟩
    · exact Fi_e (l2 c (of_decide_eq_true y))
    · have y1 : c = 162 := Nat.eq_of_beq_eq_true y1
      subst y1
      have y2 := of_decide_eq_true y2
      have y3 := of_decide_eq_true y3
      exact fg g y2.1 y2.2.1 y2.2.2 y3.1 y3.2.1 y3.2.2
  have q162 : q.1 + 1 < 162 ∧ q.1 < 162 := by
    have := hc.qq
    omega
  have vrC : VR q cc gc (Ar hC (q.1 + 1)) (Ar hC 174) := by
    rw [Ar_e (l2 _ q162.1), eC1, Ar_e (cs 174 (by decide) (by decide)), x174]
    exact vr
  obtain ⟨n, hh⟩ := rn_i rfl rfl rfl rfl hh
  obtain ⟨n, hh⟩ := rn_i rfl rfl rfl rfl hh
  have hh : pm_run PT n _ _ 258 (11, [some (.ref 162), some (.int (zA (Ar h 172) n0)), none, none, none], [.int (zA (Ar h 172) n0)], hC, 198, sl) = some (some (.int w), h2, 198, sl) := hh
  obtain ⟨n, hh⟩ := rn_if (cc := .ge) (off := 11) (t := 22) rfl rfl hh
  cases hz2 : zK (Ar h 172) n0 with
  | false =>
    obtain ⟨p, p1', -, p3⟩ := zK_nF hz2
    rw [p3, m1p_ge p (by omega)] at hh
    have hh : pm_run PT n _ _ 258 (14, [some (.ref 162), some (.int (Int32.ofInt (-1) - nI p)), none, none, none], [], hC, 198, sl) = some (some (.int w), h2, 198, sl) := hh
    obtain ⟨n, hh⟩ := rn_i rfl rfl rfl rfl hh
    obtain ⟨n, hh⟩ := rn_i rfl rfl rfl rfl hh
    obtain ⟨n, hh⟩ := rn_i rfl rfl rfl rfl hh
    obtain ⟨n, hh⟩ := rn_i rfl rfl rfl rfl hh
    obtain ⟨n, hh⟩ := rn_i rfl rfl rfl rfl hh
    have e := (rn_ret rfl (Or.inl rfl) hh).2
    injection e with d1 d2
    injection d2 with d2 d3
    rw [d2]
    exact ⟨q, cc, gc, cC, ⟨vrC, ⟨fs9, (l2 0 (by decide)).trans ot1, p2⟩⟩, SRc_keep (kpt_tr ka1 kaC) (kpf_tr kf1 kfC) sc⟩
  | true =>
    rw [zK_A hz2, show pm_cmp .ge (Int32.ofInt 0) 0 = true by decide] at hh
    have hh : pm_run PT n _ _ 258 (22, [some (.ref 162), some (.int (Int32.ofInt 0)), none, none, none], [], hC, 198, sl) = some (some (.int w), h2, 198, sl) := hh
    obtain ⟨k24, D, kD, kj⟩ := kn hz2
    have hl := esM_len hz2
    obtain ⟨h3, h5, w', er5, ⟨c5, f5, g5⟩, -, -⟩ := law_tail cC (na_170 iC.1) (by omega) (Fi_m k24) hh
    injection er5 with d1 d2
    injection d2 with d2 d3
    rw [d2]
    refine ⟨q, cc, gc, c5, ⟨?_, ⟨fs9, (f5.1 0 rfl).trans ((l2 0 (by decide)).trans ot1), p2⟩⟩, SRc_keep (kpt_tr (kpt_tr ka1 kaC) (kpt_fr f5 (by decide +kernel))) (kpf_tr (kpf_tr kf1 kfC) (kpf_fr f5 (by decide +kernel))) sc⟩
    have e1 : Ar h5 (q.1 + 1) = Ar hC (q.1 + 1) := Ar_e (f5.1 (q.1 + 1) (by rcases hc.qq with e | e <;> (rw [e]; rfl)))
    rw [e1]
    exact VR_cgD (fun j hj => g5 j hj) vrC
/-- years keeps SR -/
theorem cg_pos (hI : mInv h) (hc : HC q cc gc h) : 0 < gc → 0 < cc := by
  obtain ⟨-, ⟨a, b, z1, z2, y6, y8, z3⟩, -⟩ := hI.2
  intro hg
  have h6 := hc.cb
  have h8 := hc.gb
  have e3 := nI_ij (by omega) (by omega) ((Fi_m z1).symm.trans hc.m3)
  have e4 := nI_ij (by omega) (by omega) ((Fi_m z2).symm.trans hc.m4)
  omega
theorem st_years {m : Int32} (pr : prun sl 124 263 [r, m] h h1 h2 v w) (hI : mInv h) (s : SR h) : SR h2 := by
  obtain ⟨⟨m1, r1⟩, ⟨f1, i1⟩, ⟨m2, r2⟩, -, -⟩ := pr
  obtain ⟨q, cc, gc, hc, s⟩ := s
  have b1 : pm_cmp .lt m (nI 1) = decide (m.toInt < 1) := cl_lt (c := 1) (by decide)
  have b2 : pm_cmp .le m (nI 60) = decide (m.toInt ≤ 60) := cl_le (c := 60) (by decide)
  have b3 : in_b m.toInt64 (Int64.ofNat 1) (60 : Int64) = decide (1 ≤ m.toInt ∧ m.toInt ≤ 60) := in_lh m (by decide) (by decide)
  by_cases z : 1 ≤ m.toInt ∧ m.toInt ≤ 60
  · obtain ⟨k, rfl, hk, ek⟩ := hI_of (x := m) (by omega)
    obtain ⟨a1, c1, g1⟩ := v124_ok hc (by omega) (na_17 hI.1) r1
    cases a1
    obtain ⟨a2, c2, g2⟩ := v263_ok c1 (by omega) (cg_pos i1 c1) (na_170 i1.1) r2
    cases a2
    exact ⟨q, cc, gc, c2, SR_fr c1 (SR_fr hc s g1 (by decide +kernel)) g2 (by decide +kernel)⟩
  · rw [decide_eq_false z] at b3
    by_cases y : m.toInt < 1
    · rw [decide_eq_true y] at b1
      have a1 := v124w1_ok hc b1 r1
      cases a1
      obtain ⟨a2, c2, g2⟩ := v263w_ok hc b3 r2
      cases a2
      exact ⟨q, cc, gc, c2, SR_fr hc s g2 (by decide +kernel)⟩
    · rw [decide_eq_false y] at b1
      rw [decide_eq_false (by omega)] at b2
      have a1 := v124w2_ok hc b1 b2 r1
      cases a1
      obtain ⟨a2, c2, g2⟩ := v263w_ok hc b3 r2
      cases a2
      exact ⟨q, cc, gc, c2, SR_fr hc s g2 (by decide +kernel)⟩
end LAW
end MG95zzzex1
section MG95zzzex2
/-! year: the acts as THE TEXT tells them; the class's reading -/
section YRP
variable {n fr lo sl n0 cc gc c0 t : Nat} {q : QT} {h : pm_H} {R : pm_Rs} {f g : Nat → Int32}
/-- which act a letter is -/
def yK (c : Int32) : Option Nat := if c = nI 115 then some 0 else if c = nI 109 then some 1 else if c = nI 102 then some 2 else if c = nI 112 then some 3 else if c = nI 113 then some 4 else none
/-- how many signs -/
def yS (kd : Nat) : Nat := if kd = 1 then 2 else if kd < 3 then 3 else 4
/-- a digit that stands at offset j -/
def yB (f : Nat → Int32) (t i j : Nat) : Bool := dg f (i + j) t && (decide (j ≠ 3) || decide (f (i + j) ≠ nI 48))
/-- the first offset from j on that is no digit; j + k if there is none -/
def yD (f : Nat → Int32) (t i : Nat) : Nat → Nat → Nat
  | 0, j => j
  | k + 1, j => cond (yB f t i j) (yD f t i k (j + 1)) j
/-- the letter at p -/
def yL (f : Nat → Int32) (t p : Nat) : Option Nat := if p < t then yK (f p) else none
/-- one act from p on: whether it stands, where the reader is behind it -/
def yA (f : Nat → Int32) (t p : Nat) : Bool × Nat := match yL f t p with
  | none => (false, p)
  | some kd => (decide (yD f t p (yS kd - 1) 1 = yS kd), p + yD f t p (yS kd - 1) 1)
/-- all acts -/
def yR (f : Nat → Int32) (t : Nat) : Nat → Nat → Bool × Nat
  | 0, p => (true, p)
  | k + 1, p => if p < t then (cond (yA f t p).1 (yR f t k (yA f t p).2) (yA f t p)) else (true, p)
/-- where the class finds the fault -/
def yO (n0 : Nat) (r : Bool × Nat) : Int32 := cond (r.1 && decide (r.2 = n0)) (Int32.ofInt (-1)) (nI r.2)
theorem yS_ge (kd : Nat) : 2 ≤ yS kd ∧ yS kd ≤ 4 := by
  unfold yS
  split
  · omega
  · split <;> omega
theorem yD_ge {i : Nat} : ∀ (k j : Nat), j ≤ yD f t i k j ∧ yD f t i k j ≤ j + k
  | 0, j => ⟨Nat.le_refl _, Nat.le_refl _⟩
  | k + 1, j => by
    show j ≤ cond (yB f t i j) (yD f t i k (j + 1)) j ∧ cond (yB f t i j) (yD f t i k (j + 1)) j ≤ j + (k + 1)
    have := yD_ge (i := i) k (j + 1)
    cases yB f t i j with
    | true =>
      show j ≤ yD f t i k (j + 1) ∧ yD f t i k (j + 1) ≤ j + (k + 1)
      omega
    | false =>
      show j ≤ j ∧ j ≤ j + (k + 1)
      omega
theorem yB_dg {i j : Nat} (z : yB f t i j = true) : dg f (i + j) t = true := by
  unfold yB at z
  rw [Bool.and_eq_true] at z
  exact z.1
theorem yD_lt {i : Nat} : ∀ (k j : Nat), yD f t i k j = j + k → ∀ m, j ≤ m → m < j + k → yB f t i m = true
  | 0, _, _, m, h1, h2 => by omega
  | k + 1, j, e, m, h1, h2 => by
    have e : cond (yB f t i j) (yD f t i k (j + 1)) j = j + (k + 1) := e
    cases z : yB f t i j with
    | false =>
      rw [z] at e
      have e : j = j + (k + 1) := e
      omega
    | true =>
      rw [z] at e
      have e : yD f t i k (j + 1) = j + (k + 1) := e
      by_cases y : m = j
      · rw [y]
        exact z
      · exact yD_lt k (j + 1) (by omega) m (by omega) (by omega)
theorem yD_bd {p kd : Nat} (hlt : p < t) : p + yD f t p (yS kd - 1) 1 ≤ t := by
  have hs := yS_ge kd
  have go : ∀ (k j : Nat), p + j ≤ t → p + yD f t p k j ≤ t := by
    intro k
    induction k with
    | zero => exact fun j hj => hj
    | succ k ih =>
      intro j hj
      show p + cond (yB f t p j) (yD f t p k (j + 1)) j ≤ t
      cases z : yB f t p j with
      | false => exact hj
      | true =>
        have := dg_lt (yB_dg z)
        exact ih (j + 1) (by omega)
  exact go _ 1 (by omega)
theorem yA_le {p : Nat} (hp : p ≤ t) : p ≤ (yA f t p).2 ∧ (yA f t p).2 ≤ t ∧ ((yA f t p).1 = true → p + 2 ≤ (yA f t p).2) := by
  unfold yA
  cases e : yL f t p with
  | none => exact ⟨Nat.le_refl _, hp, fun z => Bool.noConfusion z⟩
  | some kd =>
    have hk := yS_ge kd
    have hlt : p < t := by
      unfold yL at e
      by_cases y : p < t
      · exact y
      · rw [if_neg y] at e
        cases e
    have hd := yD_ge (f := f) (t := t) (i := p) (yS kd - 1) 1
    refine ⟨Nat.le_add_right _ _, ?_, fun z => ?_⟩
    · show p + yD f t p (yS kd - 1) 1 ≤ t
      exact yD_bd hlt
    · have z := of_decide_eq_true z
      show p + 2 ≤ p + yD f t p (yS kd - 1) 1
      omega
theorem v135_K (x : Int32) : v135 q cc gc x = nI (match yK x with
  | none => 0
  | some kd => yS kd) := by
  unfold v135 yK
  by_cases e1 : x = nI 115
  · rw [e1]
    rfl
  · rw [if_neg e1]
    by_cases e2 : x = nI 109
    · rw [e2]
      rfl
    · rw [if_neg e2]
      by_cases e3 : x = nI 102
      · rw [e3]
        rfl
      · rw [if_neg e3]
        by_cases e4 : x = nI 112
        · rw [e4]
          rfl
        · rw [if_neg e4]
          by_cases e5 : x = nI 113
          · rw [e5]
            rfl
          · rw [if_neg e5, show pm_cmp .eq x (nI 102) = false from decide_eq_false e3, show pm_cmp .eq x (nI 109) = false from decide_eq_false e2, show pm_cmp .eq x (nI 112) = false from decide_eq_false e4, show pm_cmp .eq x (nI 113) = false from decide_eq_false e5, show pm_cmp .eq x (nI 115) = false from decide_eq_false e1]
            rfl
theorem sgA_K {p : Nat} : v135 q cc gc (sgA f n0 p 60) = nI (match yL f (min n0 60) p with
  | none => 0
  | some kd => yS kd) := by
  unfold sgA yL
  by_cases z : p < min n0 60
  · rw [decide_eq_true z, if_pos z]
    exact v135_K _
  · rw [decide_eq_false z, if_neg z]
    have e : yK (Int32.ofInt (-1)) = none := by decide
    show v135 q cc gc (Int32.ofInt (-1)) = nI 0
    rw [v135_K, e]
/-- a digit that stands, as the class looks at it -/
theorem dgA_B {p j : Nat} : (dg f (p + j) (min n0 60) = true → dgA f n0 (p + j) 60 = f (p + j) - nI 48 ∧ 0 ≤ (dgA f n0 (p + j) 60).toInt) ∧ (dg f (p + j) (min n0 60) = false → dgA f n0 (p + j) 60 = Int32.ofInt (-1)) := by
  unfold dgA
  refine ⟨fun e => ?_, fun e => ?_⟩
  · rw [e]
    exact ⟨rfl, (dg_val e).1⟩
  · rw [e]
    rfl
theorem sub48 {x : Int32} : x - nI 48 = 0 ↔ x = nI 48 := ⟨fun e => by
  have e2 : x - nI 48 + nI 48 = 0 + nI 48 := by rw [e]
  rw [Int32.sub_add_cancel, Int32.zero_add] at e2
  exact e2, fun e => by
  rw [e]
  decide⟩
/-- the digits of one act, class -/
theorem yi_loop {i c s : Nat} (hn : n0 ≤ 80) (px : pX h n0 c0 f) (hi : i < 61) (hs : s ≤ 4) : ∀ (k j n : Nat) (x5 : Option Value), j + k = s → 1 ≤ j → pm_run PT n fr lo 134 (44, [some (.ref 0), some (.int (nI i)), some (.int (nI c)), some (.int (nI s)), some (.int (nI j)), x5], [], h, 198, sl) = some R → (yD f (min n0 60) i k j = s ∧ ∃ m x4 x5, pm_run PT m fr lo 134 (92, [some (.ref 0), some (.int (nI i)), some (.int (nI c)), some (.int (nI s)), x4, x5], [], h, 198, sl) = some R) ∨ (yD f (min n0 60) i k j ≠ s ∧ R = (some (.int (nI (i + yD f (min n0 60) i k j))), h, 198, sl))
  | 0, j, n, x5, e, hj, hh => by
    obtain ⟨n, hh⟩ := rn_i rfl rfl rfl rfl hh
    obtain ⟨n, hh⟩ := rn_i rfl rfl rfl rfl hh
    obtain ⟨n, hh⟩ := rn_icmp (cc := .ge) (off := 45) (t := 92) rfl rfl hh
    rw [hI_ge (by omega) (by omega), decide_eq_true (by omega)] at hh
    exact Or.inl ⟨by show j = s; omega, n, _, _, hh⟩
  | k + 1, j, n, x5, e, hj, hh => by
    obtain ⟨⟨fs, a1, a2, -⟩, -⟩ := id px
    obtain ⟨n, hh⟩ := rn_i rfl rfl rfl rfl hh
    obtain ⟨n, hh⟩ := rn_i rfl rfl rfl rfl hh
    obtain ⟨n, hh⟩ := rn_icmp (cc := .ge) (off := 45) (t := 92) rfl rfl hh
    rw [hI_ge (by omega) (by omega), decide_eq_false (by omega)] at hh
    have hh : pm_run PT n fr lo 134 (50, [some (.ref 0), some (.int (nI i)), some (.int (nI c)), some (.int (nI s)), some (.int (nI j)), x5], [], h, 198, sl) = some R := hh
    obtain ⟨n, hh⟩ := rn_i rfl rfl rfl rfl hh
    obtain ⟨n, hh⟩ := rn_gfo (g := 0) rfl rfl (by decide) a1 a2 hh
    obtain ⟨n, hh⟩ := rn_i rfl rfl rfl rfl hh
    obtain ⟨n, hh⟩ := rn_i rfl rfl rfl rfl hh
    have hh : pm_run PT n fr lo 134 (57, [some (.ref 0), some (.int (nI i)), some (.int (nI c)), some (.int (nI s)), some (.int (nI j)), x5], [.int (nI j), .int (nI i), .ref 1], h, 198, sl) = some R := hh
    obtain ⟨n, hh⟩ := en_add rfl hh
    obtain ⟨n, hh⟩ := rn_i rfl rfl rfl rfl hh
    have hh : pm_run PT n fr lo 134 (60, [some (.ref 0), some (.int (nI i)), some (.int (nI c)), some (.int (nI s)), some (.int (nI j)), x5], [.int (nI 60), .int (nI (i + j)), .ref 1], h, 198, sl) = some R := hh
    obtain ⟨n, fr', lo', r1, hr1, hh⟩ := rn_call (w := 0) (t := 81) rfl rfl hh
    have er := dgA_run hn (by decide) (by omega) px hr1
    subst er
    obtain ⟨d1, d2⟩ := dgA_B (f := f) (n0 := n0) (p := i) (j := j)
    have hh : pm_run PT n fr lo 134 (63, [some (.ref 0), some (.int (nI i)), some (.int (nI c)), some (.int (nI s)), some (.int (nI j)), x5], [.int (dgA f n0 (i + j) 60)], h, 198, sl) = some R := hh
    obtain ⟨n, hh⟩ := rn_i rfl rfl rfl rfl hh
    obtain ⟨n, hh⟩ := rn_i rfl rfl rfl rfl hh
    have hh : pm_run PT n fr lo 134 (67, [some (.ref 0), some (.int (nI i)), some (.int (nI c)), some (.int (nI s)), some (.int (nI j)), some (.int (dgA f n0 (i + j) 60))], [.int (dgA f n0 (i + j) 60)], h, 198, sl) = some R := hh
    obtain ⟨n, hh⟩ := rn_if (cc := .lt) (off := 14) (t := 81) rfl rfl hh
    have eY : yD f (min n0 60) i (k + 1) j = cond (yB f (min n0 60) i j) (yD f (min n0 60) i k (j + 1)) j := rfl
    have bad : ∀ n : Nat, yB f (min n0 60) i j = false → pm_run PT n fr lo 134 (81, [some (.ref 0), some (.int (nI i)), some (.int (nI c)), some (.int (nI s)), some (.int (nI j)), some (.int (dgA f n0 (i + j) 60))], [], h, 198, sl) = some R → yD f (min n0 60) i (k + 1) j ≠ s ∧ R = (some (.int (nI (i + yD f (min n0 60) i (k + 1) j))), h, 198, sl) := by
      intro n z hh
      obtain ⟨n, hh⟩ := rn_i rfl rfl rfl rfl hh
      obtain ⟨n, hh⟩ := rn_i rfl rfl rfl rfl hh
      have hh : pm_run PT n fr lo 134 (84, [some (.ref 0), some (.int (nI i)), some (.int (nI c)), some (.int (nI s)), some (.int (nI j)), some (.int (dgA f n0 (i + j) 60))], [.int (nI j), .int (nI i)], h, 198, sl) = some R := hh
      obtain ⟨n, hh⟩ := en_add rfl hh
      have q := (rn_ret rfl (Or.inl rfl) hh).2
      rw [eY, z]
      exact ⟨by show j ≠ s; omega, q⟩
    have good : ∀ n : Nat, yB f (min n0 60) i j = true → pm_run PT n fr lo 134 (86, [some (.ref 0), some (.int (nI i)), some (.int (nI c)), some (.int (nI s)), some (.int (nI j)), some (.int (dgA f n0 (i + j) 60))], [], h, 198, sl) = some R → (yD f (min n0 60) i (k + 1) j = s ∧ ∃ m x4 x5, pm_run PT m fr lo 134 (92, [some (.ref 0), some (.int (nI i)), some (.int (nI c)), some (.int (nI s)), x4, x5], [], h, 198, sl) = some R) ∨ (yD f (min n0 60) i (k + 1) j ≠ s ∧ R = (some (.int (nI (i + yD f (min n0 60) i (k + 1) j))), h, 198, sl)) := by
      intro n z hh
      obtain ⟨n, hh⟩ := en_inc (x := j) (c := 1) (j := 4) rfl rfl (by decide) hh
      obtain ⟨n, hh⟩ := rn_i rfl rfl rfl rfl hh
      have hh : pm_run PT n fr lo 134 (44, [some (.ref 0), some (.int (nI i)), some (.int (nI c)), some (.int (nI s)), some (.int (nI (j + 1))), some (.int (dgA f n0 (i + j) 60))], [], h, 198, sl) = some R := hh
      rw [eY, z]
      exact yi_loop hn px hi hs k (j + 1) n _ (by omega) (by omega) hh
    cases zd : dg f (i + j) (min n0 60) with
    | false =>
      rw [d2 zd, show pm_cmp .lt (Int32.ofInt (-1)) 0 = true by decide, ← d2 zd] at hh
      exact Or.inr (bad n (by unfold yB; rw [zd]; rfl) hh)
    | true =>
      obtain ⟨v1, v2⟩ := d1 zd
      rw [lt0_val v2] at hh
      have hh : pm_run PT n fr lo 134 (70, [some (.ref 0), some (.int (nI i)), some (.int (nI c)), some (.int (nI s)), some (.int (nI j)), some (.int (dgA f n0 (i + j) 60))], [], h, 198, sl) = some R := hh
      obtain ⟨n, hh⟩ := rn_i rfl rfl rfl rfl hh
      obtain ⟨n, hh⟩ := rn_i rfl rfl rfl rfl hh
      obtain ⟨n, hh⟩ := rn_icmp (cc := .ne) (off := 13) (t := 86) rfl rfl hh
      rw [show pm_cmp .ne (nI j) (Int32.ofInt 3) = decide (¬ j = 3) from hI_ne (a := j) (b := 3) (by omega) (by omega)] at hh
      by_cases y3 : j = 3
      · rw [decide_eq_false (fun y => y y3)] at hh
        have hh : pm_run PT n fr lo 134 (76, [some (.ref 0), some (.int (nI i)), some (.int (nI c)), some (.int (nI s)), some (.int (nI j)), some (.int (dgA f n0 (i + j) 60))], [], h, 198, sl) = some R := hh
        obtain ⟨n, hh⟩ := rn_i rfl rfl rfl rfl hh
        obtain ⟨n, hh⟩ := rn_if (cc := .ne) (off := 8) (t := 86) rfl rfl hh
        by_cases y0 : f (i + j) = nI 48
        · have e0 : dgA f n0 (i + j) 60 = 0 := by
            rw [v1]
            exact sub48.mpr y0
          rw [e0, show pm_cmp .ne (0 : Int32) 0 = false by decide, ← e0] at hh
          refine Or.inr (bad n ?_ hh)
          unfold yB
          rw [zd, decide_eq_false (fun y : j ≠ 3 => y y3), decide_eq_false (fun y : f (i + j) ≠ nI 48 => y y0)]
          rfl
        · have e0 : dgA f n0 (i + j) 60 ≠ 0 := fun e => y0 (sub48.mp (v1.symm.trans e))
          rw [show pm_cmp .ne (dgA f n0 (i + j) 60) 0 = true from decide_eq_true e0] at hh
          refine good n ?_ hh
          unfold yB
          rw [zd, decide_eq_true (show f (i + j) ≠ nI 48 from y0), Bool.or_true]
          rfl
      · rw [decide_eq_true y3] at hh
        refine good n ?_ hh
        unfold yB
        rw [zd, decide_eq_true (show j ≠ 3 from y3)]
        rfl
/-- where the fault is, class -/
theorem yf_loop (hn : n0 ≤ 80) (hc : HC q cc gc h) (px : pX h n0 c0 f) : ∀ (k i c n : Nat) (x3 x4 x5 : Option Value), min n0 60 + 1 ≤ i + k → 2 * c ≤ i → i ≤ min n0 60 → pm_run PT n fr lo 134 (4, [some (.ref 0), some (.int (nI i)), some (.int (nI c)), x3, x4, x5], [], h, 198, sl) = some R → R = (some (.int (yO n0 (yR f (min n0 60) k i))), h, 198, sl)
  | 0, i, c, n, x3, x4, x5, e, hc2, hi, hh => by omega
  | k + 1, i, c, n, x3, x4, x5, e, hc2, hi, hh => by
    obtain ⟨⟨fs, a1, a2, -⟩, ⟨gs, b1, b2, b3⟩, -⟩ := id px
    obtain ⟨n, hh⟩ := rn_i rfl rfl rfl rfl hh
    obtain ⟨n, hh⟩ := rn_i rfl rfl rfl rfl hh
    obtain ⟨n, hh⟩ := rn_icmp (cc := .ge) (off := 95) (t := 102) rfl rfl hh
    rw [show pm_cmp .ge (nI c) (Int8.ofInt 60).toInt32 = decide (60 ≤ c) from hI_ge (a := c) (b := 60) (by omega) (by omega), decide_eq_false (by omega)] at hh
    have hh : pm_run PT n fr lo 134 (10, [some (.ref 0), some (.int (nI i)), some (.int (nI c)), x3, x4, x5], [], h, 198, sl) = some R := hh
    obtain ⟨n, hh⟩ := rn_i rfl rfl rfl rfl hh
    obtain ⟨n, hh⟩ := rn_i rfl rfl rfl rfl hh
    obtain ⟨n, hh⟩ := rn_gfo (g := 0) rfl rfl (by decide) a1 a2 hh
    obtain ⟨n, hh⟩ := rn_gfo (g := 1) rfl rfl (by decide) b1 b3 hh
    obtain ⟨n, hh⟩ := rn_icmp (cc := .eq) (off := 84) (t := 102) rfl rfl hh
    rw [show pm_cmp .eq (nI i) (nI n0) = decide (i = n0) from hI_eq (by omega) (by omega)] at hh
    have eR : yR f (min n0 60) (k + 1) i = if i < min n0 60 then (cond (yA f (min n0 60) i).1 (yR f (min n0 60) k (yA f (min n0 60) i).2) (yA f (min n0 60) i)) else (true, i) := rfl
    by_cases y : i = n0
    · rw [decide_eq_true y] at hh
      have hh : pm_run PT n fr lo 134 (102, [some (.ref 0), some (.int (nI i)), some (.int (nI c)), x3, x4, x5], [], h, 198, sl) = some R := hh
      obtain ⟨n, hh⟩ := rn_i rfl rfl rfl rfl hh
      have q := (rn_ret rfl (Or.inl rfl) hh).2
      rw [eR, if_neg (by omega)]
      unfold yO
      dsimp only
      rw [decide_eq_true y]
      exact q
    · rw [decide_eq_false y] at hh
      have hh : pm_run PT n fr lo 134 (21, [some (.ref 0), some (.int (nI i)), some (.int (nI c)), x3, x4, x5], [], h, 198, sl) = some R := hh
      obtain ⟨n, hh⟩ := rn_i rfl rfl rfl rfl hh
      obtain ⟨n, hh⟩ := rn_gfo (g := 0) rfl rfl (by decide) a1 a2 hh
      obtain ⟨n, hh⟩ := rn_i rfl rfl rfl rfl hh
      obtain ⟨n, hh⟩ := rn_i rfl rfl rfl rfl hh
      have hh : pm_run PT n fr lo 134 (28, [some (.ref 0), some (.int (nI i)), some (.int (nI c)), x3, x4, x5], [.int (nI 60), .int (nI i), .ref 1], h, 198, sl) = some R := hh
      obtain ⟨n, fr', lo', r1, hr1, hh⟩ := rn_call (w := 0) (t := 80) rfl rfl hh
      have er := sgA_run hn (by decide) (by omega) px hr1
      subst er
      have hh : pm_run PT n fr lo 134 (31, [some (.ref 0), some (.int (nI i)), some (.int (nI c)), x3, x4, x5], [.int (sgA f n0 i 60)], h, 198, sl) = some R := hh
      obtain ⟨n, fr', lo', r1, hr1, hh⟩ := rn_call (w := 2) (t := 135) rfl rfl hh
      have er := v135_ok hc hr1
      subst er
      have hh : pm_run PT n fr lo 134 (34, [some (.ref 0), some (.int (nI i)), some (.int (nI c)), x3, x4, x5], [.int (v135 q cc gc (sgA f n0 i 60))], h, 198, sl) = some R := hh
      rw [sgA_K] at hh
      obtain ⟨n, hh⟩ := rn_i rfl rfl rfl rfl hh
      obtain ⟨n, hh⟩ := rn_i rfl rfl rfl rfl hh
      cases eL : yL f (min n0 60) i with
      | none =>
        rw [eL] at hh
        have hh : pm_run PT n fr lo 134 (36, [some (.ref 0), some (.int (nI i)), some (.int (nI c)), some (.int (nI 0)), x4, x5], [.int (nI 0)], h, 198, sl) = some R := hh
        obtain ⟨n, hh⟩ := rn_if (cc := .ne) (off := 5) (t := 41) rfl rfl hh
        rw [show pm_cmp .ne (nI 0) 0 = false by decide] at hh
        have hh : pm_run PT n fr lo 134 (39, [some (.ref 0), some (.int (nI i)), some (.int (nI c)), some (.int (nI 0)), x4, x5], [], h, 198, sl) = some R := hh
        obtain ⟨n, hh⟩ := rn_i rfl rfl rfl rfl hh
        have q := (rn_ret rfl (Or.inl rfl) hh).2
        have eA : yA f (min n0 60) i = (false, i) := by
          unfold yA
          rw [eL]
        rw [q, eR, eA]
        unfold yO
        by_cases z : i < min n0 60
        · rw [if_pos z]
          rfl
        · rw [if_neg z]
          dsimp only
          rw [decide_eq_false y]
          rfl
      | some kd =>
        rw [eL] at hh
        have hs := yS_ge kd
        have hlt : i < min n0 60 := by
          unfold yL at eL
          by_cases z : i < min n0 60
          · exact z
          · rw [if_neg z] at eL
            cases eL
        have hh : pm_run PT n fr lo 134 (36, [some (.ref 0), some (.int (nI i)), some (.int (nI c)), some (.int (nI (yS kd))), x4, x5], [.int (nI (yS kd))], h, 198, sl) = some R := hh
        obtain ⟨n, hh⟩ := rn_if (cc := .ne) (off := 5) (t := 41) rfl rfl hh
        rw [show pm_cmp .ne (nI (yS kd)) 0 = true from (hI_ne (a := yS kd) (b := 0) (by omega) (by omega)).trans (decide_eq_true (by omega))] at hh
        have hh : pm_run PT n fr lo 134 (41, [some (.ref 0), some (.int (nI i)), some (.int (nI c)), some (.int (nI (yS kd))), x4, x5], [], h, 198, sl) = some R := hh
        obtain ⟨n, hh⟩ := rn_i rfl rfl rfl rfl hh
        obtain ⟨n, hh⟩ := rn_i rfl rfl rfl rfl hh
        have hh : pm_run PT n fr lo 134 (44, [some (.ref 0), some (.int (nI i)), some (.int (nI c)), some (.int (nI (yS kd))), some (.int (nI 1)), x5], [], h, 198, sl) = some R := hh
        have eA : yA f (min n0 60) i = (decide (yD f (min n0 60) i (yS kd - 1) 1 = yS kd), i + yD f (min n0 60) i (yS kd - 1) 1) := by
          unfold yA
          rw [eL]
        rcases yi_loop hn px (by omega) hs.2 (yS kd - 1) 1 n x5 (by omega) (Nat.le_refl _) hh with ⟨e1, m, y4, y5, hm⟩ | ⟨e1, e2⟩
        · obtain ⟨m, hm⟩ := rn_i rfl rfl rfl rfl hm
          obtain ⟨m, hm⟩ := rn_i rfl rfl rfl rfl hm
          have hm : pm_run PT m fr lo 134 (94, [some (.ref 0), some (.int (nI i)), some (.int (nI c)), some (.int (nI (yS kd))), y4, y5], [.int (nI (yS kd)), .int (nI i)], h, 198, sl) = some R := hm
          obtain ⟨m, hm⟩ := en_add rfl hm
          obtain ⟨m, hm⟩ := rn_i rfl rfl rfl rfl hm
          have hm : pm_run PT m fr lo 134 (96, [some (.ref 0), some (.int (nI (i + yS kd))), some (.int (nI c)), some (.int (nI (yS kd))), y4, y5], [], h, 198, sl) = some R := hm
          obtain ⟨m, hm⟩ := en_inc (x := c) (c := 1) (j := 2) rfl rfl (by decide) hm
          obtain ⟨m, hm⟩ := rn_i rfl rfl rfl rfl hm
          have hm : pm_run PT m fr lo 134 (4, [some (.ref 0), some (.int (nI (i + yS kd))), some (.int (nI (c + 1))), some (.int (nI (yS kd))), y4, y5], [], h, 198, sl) = some R := hm
          have hle := (yA_le (f := f) hi).2.1
          rw [eA] at hle
          dsimp only at hle
          rw [e1] at hle
          have q := yf_loop hn hc px k (i + yS kd) (c + 1) m _ _ _ (by omega) (by omega) hle hm
          rw [q, eR, if_pos hlt, eA, e1, decide_eq_true rfl]
          rfl
        · rw [e2, eR, if_pos hlt, eA, decide_eq_false e1]
          rfl
theorem yf_run (hn : n0 ≤ 80) (hc : HC q cc gc h) (px : pX h n0 c0 f) (hh : pm_run PT n fr lo 134 (0, pm_l0 [.ref 0] 6, [], h, 198, sl) = some R) : R = (some (.int (yO n0 (yR f (min n0 60) 61 0))), h, 198, sl) := by
  obtain ⟨n, hh⟩ := rn_i rfl rfl rfl rfl hh
  obtain ⟨n, hh⟩ := rn_i rfl rfl rfl rfl hh
  obtain ⟨n, hh⟩ := rn_i rfl rfl rfl rfl hh
  obtain ⟨n, hh⟩ := rn_i rfl rfl rfl rfl hh
  have hh : pm_run PT n fr lo 134 (4, [some (.ref 0), some (.int (nI 0)), some (.int (nI 0)), none, none, none], [], h, 198, sl) = some R := hh
  exact yf_loop hn hc px 61 0 0 n none none none (by omega) (by omega) (by omega) hh
end YRP
end MG95zzzex2
