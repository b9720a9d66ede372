/-! year: the acts as THE TEXT tells them; the class's reading -/
section YRP
variable {n fr lo sl n0 cc gc c0 t : Nat} {q : QT} {h : pm_H} {R : pm_Rs} {f g : Nat → Int32}
/-- which act a letter is -/
def yK (c : Int32) : Option Nat := if c = nI 115 then some 0 else if c = nI 109 then some 1 else if c = nI 102 then some 2 else if c = nI 112 then some 3 else if c = nI 113 then some 4 else none
/-- how many signs -/
def yS (kd : Nat) : Nat := if kd = 1 then 2 else if kd < 3 then 3 else 4
/-- a digit that stands at offset j -/
def yB (f : Nat → Int32) (t i j : Nat) : Bool := dg f (i + j) t && (decide (j ≠ 3) || decide (f (i + j) ≠ nI 48))
/-- the first offset from j on that is no digit; j + k if there is none -/
def yD (f : Nat → Int32) (t i : Nat) : Nat → Nat → Nat
  | 0, j => j
  | k + 1, j => cond (yB f t i j) (yD f t i k (j + 1)) j
/-- the letter at p -/
def yL (f : Nat → Int32) (t p : Nat) : Option Nat := if p < t then yK (f p) else none
/-- one act from p on: whether it stands, where the reader is behind it -/
def yA (f : Nat → Int32) (t p : Nat) : Bool × Nat := match yL f t p with
  | none => (false, p)
  | some kd => (decide (yD f t p (yS kd - 1) 1 = yS kd), p + yD f t p (yS kd - 1) 1)
/-- all acts -/
def yR (f : Nat → Int32) (t : Nat) : Nat → Nat → Bool × Nat
  | 0, p => (true, p)
  | k + 1, p => if p < t then (cond (yA f t p).1 (yR f t k (yA f t p).2) (yA f t p)) else (true, p)
/-- where the class finds the fault -/
def yO (n0 : Nat) (r : Bool × Nat) : Int32 := cond (r.1 && decide (r.2 = n0)) (Int32.ofInt (-1)) (nI r.2)
theorem yS_ge (kd : Nat) : 2 ≤ yS kd ∧ yS kd ≤ 4 := by
  unfold yS
  split
  · omega
  · split <;> omega
theorem yD_ge {i : Nat} : ∀ (k j : Nat), j ≤ yD f t i k j ∧ yD f t i k j ≤ j + k
  | 0, j => ⟨Nat.le_refl _, Nat.le_refl _⟩
  | k + 1, j => by
    show j ≤ cond (yB f t i j) (yD f t i k (j + 1)) j ∧ cond (yB f t i j) (yD f t i k (j + 1)) j ≤ j + (k + 1)
    have := yD_ge (i := i) k (j + 1)
    cases yB f t i j with
    | true =>
      show j ≤ yD f t i k (j + 1) ∧ yD f t i k (j + 1) ≤ j + (k + 1)
      omega
    | false =>
      show j ≤ j ∧ j ≤ j + (k + 1)
      omega
theorem yB_dg {i j : Nat} (z : yB f t i j = true) : dg f (i + j) t = true := by
  unfold yB at z
  rw [Bool.and_eq_true] at z
  exact z.1
theorem yD_lt {i : Nat} : ∀ (k j : Nat), yD f t i k j = j + k → ∀ m, j ≤ m → m < j + k → yB f t i m = true
  | 0, _, _, m, h1, h2 => by omega
  | k + 1, j, e, m, h1, h2 => by
    have e : cond (yB f t i j) (yD f t i k (j + 1)) j = j + (k + 1) := e
    cases z : yB f t i j with
    | false =>
      rw [z] at e
      have e : j = j + (k + 1) := e
      omega
    | true =>
      rw [z] at e
      have e : yD f t i k (j + 1) = j + (k + 1) := e
      by_cases y : m = j
      · rw [y]
        exact z
      · exact yD_lt k (j + 1) (by omega) m (by omega) (by omega)
theorem yD_bd {p kd : Nat} (hlt : p < t) : p + yD f t p (yS kd - 1) 1 ≤ t := by
  have hs := yS_ge kd
  have go : ∀ (k j : Nat), p + j ≤ t → p + yD f t p k j ≤ t := by
    intro k
    induction k with
    | zero => exact fun j hj => hj
    | succ k ih =>
      intro j hj
      show p + cond (yB f t p j) (yD f t p k (j + 1)) j ≤ t
      cases z : yB f t p j with
      | false => exact hj
      | true =>
        have := dg_lt (yB_dg z)
        exact ih (j + 1) (by omega)
  exact go _ 1 (by omega)
theorem yA_le {p : Nat} (hp : p ≤ t) : p ≤ (yA f t p).2 ∧ (yA f t p).2 ≤ t ∧ ((yA f t p).1 = true → p + 2 ≤ (yA f t p).2) := by
  unfold yA
  cases e : yL f t p with
  | none => exact ⟨Nat.le_refl _, hp, fun z => Bool.noConfusion z⟩
  | some kd =>
    have hk := yS_ge kd
    have hlt : p < t := by
      unfold yL at e
      by_cases y : p < t
      · exact y
      · rw [if_neg y] at e
        cases e
    have hd := yD_ge (f := f) (t := t) (i := p) (yS kd - 1) 1
    refine ⟨Nat.le_add_right _ _, ?_, fun z => ?_⟩
    · show p + yD f t p (yS kd - 1) 1 ≤ t
      exact yD_bd hlt
    · have z := of_decide_eq_true z
      show p + 2 ≤ p + yD f t p (yS kd - 1) 1
      omega
theorem v135_K (x : Int32) : v135 q cc gc x = nI (match yK x with
  | none => 0
  | some kd => yS kd) := by
  unfold v135 yK
  by_cases e1 : x = nI 115
  · rw [e1]
    rfl
  · rw [if_neg e1]
    by_cases e2 : x = nI 109
    · rw [e2]
      rfl
    · rw [if_neg e2]
      by_cases e3 : x = nI 102
      · rw [e3]
        rfl
      · rw [if_neg e3]
        by_cases e4 : x = nI 112
        · rw [e4]
          rfl
        · rw [if_neg e4]
          by_cases e5 : x = nI 113
          · rw [e5]
            rfl
          · rw [if_neg e5, show pm_cmp .eq x (nI 102) = false from decide_eq_false e3, show pm_cmp .eq x (nI 109) = false from decide_eq_false e2, show pm_cmp .eq x (nI 112) = false from decide_eq_false e4, show pm_cmp .eq x (nI 113) = false from decide_eq_false e5, show pm_cmp .eq x (nI 115) = false from decide_eq_false e1]
            rfl
theorem sgA_K {p : Nat} : v135 q cc gc (sgA f n0 p 60) = nI (match yL f (min n0 60) p with
  | none => 0
  | some kd => yS kd) := by
  unfold sgA yL
  by_cases z : p < min n0 60
  · rw [decide_eq_true z, if_pos z]
    exact v135_K _
  · rw [decide_eq_false z, if_neg z]
    have e : yK (Int32.ofInt (-1)) = none := by decide
    show v135 q cc gc (Int32.ofInt (-1)) = nI 0
    rw [v135_K, e]
/-- a digit that stands, as the class looks at it -/
theorem dgA_B {p j : Nat} : (dg f (p + j) (min n0 60) = true → dgA f n0 (p + j) 60 = f (p + j) - nI 48 ∧ 0 ≤ (dgA f n0 (p + j) 60).toInt) ∧ (dg f (p + j) (min n0 60) = false → dgA f n0 (p + j) 60 = Int32.ofInt (-1)) := by
  unfold dgA
  refine ⟨fun e => ?_, fun e => ?_⟩
  · rw [e]
    exact ⟨rfl, (dg_val e).1⟩
  · rw [e]
    rfl
theorem sub48 {x : Int32} : x - nI 48 = 0 ↔ x = nI 48 := ⟨fun e => by
  have e2 : x - nI 48 + nI 48 = 0 + nI 48 := by rw [e]
  rw [Int32.sub_add_cancel, Int32.zero_add] at e2
  exact e2, fun e => by
  rw [e]
  decide⟩
/-- the digits of one act, class -/
theorem yi_loop {i c s : Nat} (hn : n0 ≤ 80) (px : pX h n0 c0 f) (hi : i < 61) (hs : s ≤ 4) : ∀ (k j n : Nat) (x5 : Option Value), j + k = s → 1 ≤ j → pm_run PT n fr lo 134 (44, [some (.ref 0), some (.int (nI i)), some (.int (nI c)), some (.int (nI s)), some (.int (nI j)), x5], [], h, 198, sl) = some R → (yD f (min n0 60) i k j = s ∧ ∃ m x4 x5, pm_run PT m fr lo 134 (92, [some (.ref 0), some (.int (nI i)), some (.int (nI c)), some (.int (nI s)), x4, x5], [], h, 198, sl) = some R) ∨ (yD f (min n0 60) i k j ≠ s ∧ R = (some (.int (nI (i + yD f (min n0 60) i k j))), h, 198, sl))
  | 0, j, n, x5, e, hj, hh => by
    obtain ⟨n, hh⟩ := rn_i rfl rfl rfl rfl hh
    obtain ⟨n, hh⟩ := rn_i rfl rfl rfl rfl hh
    obtain ⟨n, hh⟩ := rn_icmp (cc := .ge) (off := 45) (t := 92) rfl rfl hh
    rw [hI_ge (by omega) (by omega), decide_eq_true (by omega)] at hh
    exact Or.inl ⟨by show j = s; omega, n, _, _, hh⟩
  | k + 1, j, n, x5, e, hj, hh => by
    obtain ⟨⟨fs, a1, a2, -⟩, -⟩ := id px
    obtain ⟨n, hh⟩ := rn_i rfl rfl rfl rfl hh
    obtain ⟨n, hh⟩ := rn_i rfl rfl rfl rfl hh
    obtain ⟨n, hh⟩ := rn_icmp (cc := .ge) (off := 45) (t := 92) rfl rfl hh
    rw [hI_ge (by omega) (by omega), decide_eq_false (by omega)] at hh
    have hh : pm_run PT n fr lo 134 (50, [some (.ref 0), some (.int (nI i)), some (.int (nI c)), some (.int (nI s)), some (.int (nI j)), x5], [], h, 198, sl) = some R := hh
    obtain ⟨n, hh⟩ := rn_i rfl rfl rfl rfl hh
    obtain ⟨n, hh⟩ := rn_gfo (g := 0) rfl rfl (by decide) a1 a2 hh
    obtain ⟨n, hh⟩ := rn_i rfl rfl rfl rfl hh
    obtain ⟨n, hh⟩ := rn_i rfl rfl rfl rfl hh
    have hh : pm_run PT n fr lo 134 (57, [some (.ref 0), some (.int (nI i)), some (.int (nI c)), some (.int (nI s)), some (.int (nI j)), x5], [.int (nI j), .int (nI i), .ref 1], h, 198, sl) = some R := hh
    obtain ⟨n, hh⟩ := en_add rfl hh
    obtain ⟨n, hh⟩ := rn_i rfl rfl rfl rfl hh
    have hh : pm_run PT n fr lo 134 (60, [some (.ref 0), some (.int (nI i)), some (.int (nI c)), some (.int (nI s)), some (.int (nI j)), x5], [.int (nI 60), .int (nI (i + j)), .ref 1], h, 198, sl) = some R := hh
    obtain ⟨n, fr', lo', r1, hr1, hh⟩ := rn_call (w := 0) (t := 81) rfl rfl hh
    have er := dgA_run hn (by decide) (by omega) px hr1
    subst er
    obtain ⟨d1, d2⟩ := dgA_B (f := f) (n0 := n0) (p := i) (j := j)
    have hh : pm_run PT n fr lo 134 (63, [some (.ref 0), some (.int (nI i)), some (.int (nI c)), some (.int (nI s)), some (.int (nI j)), x5], [.int (dgA f n0 (i + j) 60)], h, 198, sl) = some R := hh
    obtain ⟨n, hh⟩ := rn_i rfl rfl rfl rfl hh
    obtain ⟨n, hh⟩ := rn_i rfl rfl rfl rfl hh
    have hh : pm_run PT n fr lo 134 (67, [some (.ref 0), some (.int (nI i)), some (.int (nI c)), some (.int (nI s)), some (.int (nI j)), some (.int (dgA f n0 (i + j) 60))], [.int (dgA f n0 (i + j) 60)], h, 198, sl) = some R := hh
    obtain ⟨n, hh⟩ := rn_if (cc := .lt) (off := 14) (t := 81) rfl rfl hh
    have eY : yD f (min n0 60) i (k + 1) j = cond (yB f (min n0 60) i j) (yD f (min n0 60) i k (j + 1)) j := rfl
    have bad : ∀ n : Nat, yB f (min n0 60) i j = false → pm_run PT n fr lo 134 (81, [some (.ref 0), some (.int (nI i)), some (.int (nI c)), some (.int (nI s)), some (.int (nI j)), some (.int (dgA f n0 (i + j) 60))], [], h, 198, sl) = some R → yD f (min n0 60) i (k + 1) j ≠ s ∧ R = (some (.int (nI (i + yD f (min n0 60) i (k + 1) j))), h, 198, sl) := by
      intro n z hh
      obtain ⟨n, hh⟩ := rn_i rfl rfl rfl rfl hh
      obtain ⟨n, hh⟩ := rn_i rfl rfl rfl rfl hh
      have hh : pm_run PT n fr lo 134 (84, [some (.ref 0), some (.int (nI i)), some (.int (nI c)), some (.int (nI s)), some (.int (nI j)), some (.int (dgA f n0 (i + j) 60))], [.int (nI j), .int (nI i)], h, 198, sl) = some R := hh
      obtain ⟨n, hh⟩ := en_add rfl hh
      have q := (rn_ret rfl (Or.inl rfl) hh).2
      rw [eY, z]
      exact ⟨by show j ≠ s; omega, q⟩
    have good : ∀ n : Nat, yB f (min n0 60) i j = true → pm_run PT n fr lo 134 (86, [some (.ref 0), some (.int (nI i)), some (.int (nI c)), some (.int (nI s)), some (.int (nI j)), some (.int (dgA f n0 (i + j) 60))], [], h, 198, sl) = some R → (yD f (min n0 60) i (k + 1) j = s ∧ ∃ m x4 x5, pm_run PT m fr lo 134 (92, [some (.ref 0), some (.int (nI i)), some (.int (nI c)), some (.int (nI s)), x4, x5], [], h, 198, sl) = some R) ∨ (yD f (min n0 60) i (k + 1) j ≠ s ∧ R = (some (.int (nI (i + yD f (min n0 60) i (k + 1) j))), h, 198, sl)) := by
      intro n z hh
      obtain ⟨n, hh⟩ := en_inc (x := j) (c := 1) (j := 4) rfl rfl (by decide) hh
      obtain ⟨n, hh⟩ := rn_i rfl rfl rfl rfl hh
      have hh : pm_run PT n fr lo 134 (44, [some (.ref 0), some (.int (nI i)), some (.int (nI c)), some (.int (nI s)), some (.int (nI (j + 1))), some (.int (dgA f n0 (i + j) 60))], [], h, 198, sl) = some R := hh
      rw [eY, z]
      exact yi_loop hn px hi hs k (j + 1) n _ (by omega) (by omega) hh
    cases zd : dg f (i + j) (min n0 60) with
    | false =>
      rw [d2 zd, show pm_cmp .lt (Int32.ofInt (-1)) 0 = true by decide, ← d2 zd] at hh
      exact Or.inr (bad n (by unfold yB; rw [zd]; rfl) hh)
    | true =>
      obtain ⟨v1, v2⟩ := d1 zd
      rw [lt0_val v2] at hh
      have hh : pm_run PT n fr lo 134 (70, [some (.ref 0), some (.int (nI i)), some (.int (nI c)), some (.int (nI s)), some (.int (nI j)), some (.int (dgA f n0 (i + j) 60))], [], h, 198, sl) = some R := hh
      obtain ⟨n, hh⟩ := rn_i rfl rfl rfl rfl hh
      obtain ⟨n, hh⟩ := rn_i rfl rfl rfl rfl hh
      obtain ⟨n, hh⟩ := rn_icmp (cc := .ne) (off := 13) (t := 86) rfl rfl hh
      rw [show pm_cmp .ne (nI j) (Int32.ofInt 3) = decide (¬ j = 3) from hI_ne (a := j) (b := 3) (by omega) (by omega)] at hh
      by_cases y3 : j = 3
      · rw [decide_eq_false (fun y => y y3)] at hh
        have hh : pm_run PT n fr lo 134 (76, [some (.ref 0), some (.int (nI i)), some (.int (nI c)), some (.int (nI s)), some (.int (nI j)), some (.int (dgA f n0 (i + j) 60))], [], h, 198, sl) = some R := hh
        obtain ⟨n, hh⟩ := rn_i rfl rfl rfl rfl hh
        obtain ⟨n, hh⟩ := rn_if (cc := .ne) (off := 8) (t := 86) rfl rfl hh
        by_cases y0 : f (i + j) = nI 48
        · have e0 : dgA f n0 (i + j) 60 = 0 := by
            rw [v1]
            exact sub48.mpr y0
          rw [e0, show pm_cmp .ne (0 : Int32) 0 = false by decide, ← e0] at hh
          refine Or.inr (bad n ?_ hh)
          unfold yB
          rw [zd, decide_eq_false (fun y : j ≠ 3 => y y3), decide_eq_false (fun y : f (i + j) ≠ nI 48 => y y0)]
          rfl
        · have e0 : dgA f n0 (i + j) 60 ≠ 0 := fun e => y0 (sub48.mp (v1.symm.trans e))
          rw [show pm_cmp .ne (dgA f n0 (i + j) 60) 0 = true from decide_eq_true e0] at hh
          refine good n ?_ hh
          unfold yB
          rw [zd, decide_eq_true (show f (i + j) ≠ nI 48 from y0), Bool.or_true]
          rfl
      · rw [decide_eq_true y3] at hh
        refine good n ?_ hh
        unfold yB
        rw [zd, decide_eq_true (show j ≠ 3 from y3)]
        rfl
/-- where the fault is, class -/
theorem yf_loop (hn : n0 ≤ 80) (hc : HC q cc gc h) (px : pX h n0 c0 f) : ∀ (k i c n : Nat) (x3 x4 x5 : Option Value), min n0 60 + 1 ≤ i + k → 2 * c ≤ i → i ≤ min n0 60 → pm_run PT n fr lo 134 (4, [some (.ref 0), some (.int (nI i)), some (.int (nI c)), x3, x4, x5], [], h, 198, sl) = some R → R = (some (.int (yO n0 (yR f (min n0 60) k i))), h, 198, sl)
  | 0, i, c, n, x3, x4, x5, e, hc2, hi, hh => by omega
  | k + 1, i, c, n, x3, x4, x5, e, hc2, hi, hh => by
    obtain ⟨⟨fs, a1, a2, -⟩, ⟨gs, b1, b2, b3⟩, -⟩ := id px
    obtain ⟨n, hh⟩ := rn_i rfl rfl rfl rfl hh
    obtain ⟨n, hh⟩ := rn_i rfl rfl rfl rfl hh
    obtain ⟨n, hh⟩ := rn_icmp (cc := .ge) (off := 95) (t := 102) rfl rfl hh
    rw [show pm_cmp .ge (nI c) (Int8.ofInt 60).toInt32 = decide (60 ≤ c) from hI_ge (a := c) (b := 60) (by omega) (by omega), decide_eq_false (by omega)] at hh
    have hh : pm_run PT n fr lo 134 (10, [some (.ref 0), some (.int (nI i)), some (.int (nI c)), x3, x4, x5], [], h, 198, sl) = some R := hh
    obtain ⟨n, hh⟩ := rn_i rfl rfl rfl rfl hh
    obtain ⟨n, hh⟩ := rn_i rfl rfl rfl rfl hh
    obtain ⟨n, hh⟩ := rn_gfo (g := 0) rfl rfl (by decide) a1 a2 hh
    obtain ⟨n, hh⟩ := rn_gfo (g := 1) rfl rfl (by decide) b1 b3 hh
    obtain ⟨n, hh⟩ := rn_icmp (cc := .eq) (off := 84) (t := 102) rfl rfl hh
    rw [show pm_cmp .eq (nI i) (nI n0) = decide (i = n0) from hI_eq (by omega) (by omega)] at hh
    have eR : yR f (min n0 60) (k + 1) i = if i < min n0 60 then (cond (yA f (min n0 60) i).1 (yR f (min n0 60) k (yA f (min n0 60) i).2) (yA f (min n0 60) i)) else (true, i) := rfl
    by_cases y : i = n0
    · rw [decide_eq_true y] at hh
      have hh : pm_run PT n fr lo 134 (102, [some (.ref 0), some (.int (nI i)), some (.int (nI c)), x3, x4, x5], [], h, 198, sl) = some R := hh
      obtain ⟨n, hh⟩ := rn_i rfl rfl rfl rfl hh
      have q := (rn_ret rfl (Or.inl rfl) hh).2
      rw [eR, if_neg (by omega)]
      unfold yO
      dsimp only
      rw [decide_eq_true y]
      exact q
    · rw [decide_eq_false y] at hh
      have hh : pm_run PT n fr lo 134 (21, [some (.ref 0), some (.int (nI i)), some (.int (nI c)), x3, x4, x5], [], h, 198, sl) = some R := hh
      obtain ⟨n, hh⟩ := rn_i rfl rfl rfl rfl hh
      obtain ⟨n, hh⟩ := rn_gfo (g := 0) rfl rfl (by decide) a1 a2 hh
      obtain ⟨n, hh⟩ := rn_i rfl rfl rfl rfl hh
      obtain ⟨n, hh⟩ := rn_i rfl rfl rfl rfl hh
      have hh : pm_run PT n fr lo 134 (28, [some (.ref 0), some (.int (nI i)), some (.int (nI c)), x3, x4, x5], [.int (nI 60), .int (nI i), .ref 1], h, 198, sl) = some R := hh
      obtain ⟨n, fr', lo', r1, hr1, hh⟩ := rn_call (w := 0) (t := 80) rfl rfl hh
      have er := sgA_run hn (by decide) (by omega) px hr1
      subst er
      have hh : pm_run PT n fr lo 134 (31, [some (.ref 0), some (.int (nI i)), some (.int (nI c)), x3, x4, x5], [.int (sgA f n0 i 60)], h, 198, sl) = some R := hh
      obtain ⟨n, fr', lo', r1, hr1, hh⟩ := rn_call (w := 2) (t := 135) rfl rfl hh
      have er := v135_ok hc hr1
      subst er
      have hh : pm_run PT n fr lo 134 (34, [some (.ref 0), some (.int (nI i)), some (.int (nI c)), x3, x4, x5], [.int (v135 q cc gc (sgA f n0 i 60))], h, 198, sl) = some R := hh
      rw [sgA_K] at hh
      obtain ⟨n, hh⟩ := rn_i rfl rfl rfl rfl hh
      obtain ⟨n, hh⟩ := rn_i rfl rfl rfl rfl hh
      cases eL : yL f (min n0 60) i with
      | none =>
        rw [eL] at hh
        have hh : pm_run PT n fr lo 134 (36, [some (.ref 0), some (.int (nI i)), some (.int (nI c)), some (.int (nI 0)), x4, x5], [.int (nI 0)], h, 198, sl) = some R := hh
        obtain ⟨n, hh⟩ := rn_if (cc := .ne) (off := 5) (t := 41) rfl rfl hh
        rw [show pm_cmp .ne (nI 0) 0 = false by decide] at hh
        have hh : pm_run PT n fr lo 134 (39, [some (.ref 0), some (.int (nI i)), some (.int (nI c)), some (.int (nI 0)), x4, x5], [], h, 198, sl) = some R := hh
        obtain ⟨n, hh⟩ := rn_i rfl rfl rfl rfl hh
        have q := (rn_ret rfl (Or.inl rfl) hh).2
        have eA : yA f (min n0 60) i = (false, i) := by
          unfold yA
          rw [eL]
        rw [q, eR, eA]
        unfold yO
        by_cases z : i < min n0 60
        · rw [if_pos z]
          rfl
        · rw [if_neg z]
          dsimp only
          rw [decide_eq_false y]
          rfl
      | some kd =>
        rw [eL] at hh
        have hs := yS_ge kd
        have hlt : i < min n0 60 := by
          unfold yL at eL
          by_cases z : i < min n0 60
          · exact z
          · rw [if_neg z] at eL
            cases eL
        have hh : pm_run PT n fr lo 134 (36, [some (.ref 0), some (.int (nI i)), some (.int (nI c)), some (.int (nI (yS kd))), x4, x5], [.int (nI (yS kd))], h, 198, sl) = some R := hh
        obtain ⟨n, hh⟩ := rn_if (cc := .ne) (off := 5) (t := 41) rfl rfl hh
        rw [show pm_cmp .ne (nI (yS kd)) 0 = true from (hI_ne (a := yS kd) (b := 0) (by omega) (by omega)).trans (decide_eq_true (by omega))] at hh
        have hh : pm_run PT n fr lo 134 (41, [some (.ref 0), some (.int (nI i)), some (.int (nI c)), some (.int (nI (yS kd))), x4, x5], [], h, 198, sl) = some R := hh
        obtain ⟨n, hh⟩ := rn_i rfl rfl rfl rfl hh
        obtain ⟨n, hh⟩ := rn_i rfl rfl rfl rfl hh
        have hh : pm_run PT n fr lo 134 (44, [some (.ref 0), some (.int (nI i)), some (.int (nI c)), some (.int (nI (yS kd))), some (.int (nI 1)), x5], [], h, 198, sl) = some R := hh
        have eA : yA f (min n0 60) i = (decide (yD f (min n0 60) i (yS kd - 1) 1 = yS kd), i + yD f (min n0 60) i (yS kd - 1) 1) := by
          unfold yA
          rw [eL]
        rcases yi_loop hn px (by omega) hs.2 (yS kd - 1) 1 n x5 (by omega) (Nat.le_refl _) hh with ⟨e1, m, y4, y5, hm⟩ | ⟨e1, e2⟩
        · obtain ⟨m, hm⟩ := rn_i rfl rfl rfl rfl hm
          obtain ⟨m, hm⟩ := rn_i rfl rfl rfl rfl hm
          have hm : pm_run PT m fr lo 134 (94, [some (.ref 0), some (.int (nI i)), some (.int (nI c)), some (.int (nI (yS kd))), y4, y5], [.int (nI (yS kd)), .int (nI i)], h, 198, sl) = some R := hm
          obtain ⟨m, hm⟩ := en_add rfl hm
          obtain ⟨m, hm⟩ := rn_i rfl rfl rfl rfl hm
          have hm : pm_run PT m fr lo 134 (96, [some (.ref 0), some (.int (nI (i + yS kd))), some (.int (nI c)), some (.int (nI (yS kd))), y4, y5], [], h, 198, sl) = some R := hm
          obtain ⟨m, hm⟩ := en_inc (x := c) (c := 1) (j := 2) rfl rfl (by decide) hm
          obtain ⟨m, hm⟩ := rn_i rfl rfl rfl rfl hm
          have hm : pm_run PT m fr lo 134 (4, [some (.ref 0), some (.int (nI (i + yS kd))), some (.int (nI (c + 1))), some (.int (nI (yS kd))), y4, y5], [], h, 198, sl) = some R := hm
          have hle := (yA_le (f := f) hi).2.1
          rw [eA] at hle
          dsimp only at hle
          rw [e1] at hle
          have q := yf_loop hn hc px k (i + yS kd) (c + 1) m _ _ _ (by omega) (by omega) hle hm
          rw [q, eR, if_pos hlt, eA, e1, decide_eq_true rfl]
          rfl
        · rw [e2, eR, if_pos hlt, eA, decide_eq_false e1]
          rfl
theorem yf_run (hn : n0 ≤ 80) (hc : HC q cc gc h) (px : pX h n0 c0 f) (hh : pm_run PT n fr lo 134 (0, pm_l0 [.ref 0] 6, [], h, 198, sl) = some R) : R = (some (.int (yO n0 (yR f (min n0 60) 61 0))), h, 198, sl) := by
  obtain ⟨n, hh⟩ := rn_i rfl rfl rfl rfl hh
  obtain ⟨n, hh⟩ := rn_i rfl rfl rfl rfl hh
  obtain ⟨n, hh⟩ := rn_i rfl rfl rfl rfl hh
  obtain ⟨n, hh⟩ := rn_i rfl rfl rfl rfl hh
  have hh : pm_run PT n fr lo 134 (4, [some (.ref 0), some (.int (nI 0)), some (.int (nI 0)), none, none, none], [], h, 198, sl) = some R := hh
  exact yf_loop hn hc px 61 0 0 n none none none (by omega) (by omega) (by omega) hh
end YRP
