/-! rows that are copied, by hand -/
section CPY
variable {fr lo sl : Nat} {h : pm_H} {Q : pm_Rs → Prop}
theorem mset_aset {f a n : Nat} {v : Value} {g : Nat → Int32} : mset (aset h a n g) f v = (if a = 162 then mset (aset h a n g) f v else aset (mset h f v) a n g) := by
  by_cases e : a = 162
  · rw [if_pos e]
  · rw [if_neg e]
    have e1 : aset h a n g 162 = h 162 := aset_nei (fun q => e q.symm)
    unfold mset
    rw [e1]
    cases h 162 with
    | inl x => rfl
    | inr x =>
      obtain ⟨ci, fs⟩ := x
      dsimp only
      unfold aset
      funext i
      by_cases q : i = 162
      · subst q
        have : ¬ 162 = a := fun z => e z.symm
        simp [va_up, this]
      · by_cases q2 : i = a
        · subst q2; simp [va_up, q]
        · simp [va_up, q, q2]
theorem ix96 (u k : Nat) : (96 : Int32) * nI u + nI k = nI (96 * u + k) := by rw [show (96 : Int32) = nI 96 from rfl, hI_mul, nI_add]
theorem ixp (k : Nat) : nI k + 96 = nI (k + 96) := nI_add k 96
/-- n places from q on are those of f from p on, so far k of them -/
def cpk (f g gk : Nat → Int32) (p q k : Nat) : Prop := (∀ j, j < k → gk (q + j) = f (p + j)) ∧ ∀ j, (j < q ∨ q + k ≤ j) → gk j = g j
theorem cpk_0 (f g : Nat → Int32) (p q : Nat) : cpk f g g p q 0 := ⟨fun j hj => by omega, fun j _ => rfl⟩
theorem cpk_up {f g gk : Nat → Int32} {p q k : Nat} (h : cpk f g gk p q k) : cpk f g (upd gk (q + k) (f (p + k))) p q (k + 1) := by
  refine ⟨fun j hj => ?_, fun j hj => ?_⟩
  · by_cases e : j = k
    · subst e; simp [upd]
    · have : ¬ q + j = q + k := by omega
      simp only [upd, if_neg this]
      exact h.1 j (by omega)
  · have : ¬ j = q + k := by omega
    simp only [upd, if_neg this]
    exact h.2 j (by omega)

theorem cp_copies {f g : Nat → Int32} (h13 : mF h 13 (.ref 171)) (h12 : mF h 12 (.ref 170)) (hN : h 170 = .inl (0, 96, .inl f)) (kk : ∀ gk : Nat → Int32, cpk f g gk (0) (0) 96 → pm_WP PT fr lo 229 (26, [some (.ref 162), some (.int (nI 96))], [], aset h 171 96 gk, 198, sl) Q) : ∀ (m k : Nat) (gk : Nat → Int32), k + m = 96 → cpk f g gk (0) (0) k → pm_WP PT fr lo 229 (2, [some (.ref 162), some (.int (nI k))], [], aset h 171 96 gk, 198, sl) Q := by
  intro m
  induction m with
  | zero =>
    intro k gk hk hc
    obtain rfl : k = 96 := by omega
    refine wp_i rfl rfl rfl rfl ?_
    refine wp_i rfl rfl rfl rfl ?_
    show pm_WP PT fr lo 229 (5, [some (.ref 162), some (.int (nI 96))], [.int 96, .int (nI 96)], (aset h 171 96 gk), 198, sl) _
    refine wp_icmp (c := .ge) (off := 21) (t := 26) rfl rfl (fun _ => ?_) (fun q => absurd (q.symm.trans ((hI_ge (b := 96) (by omega) (by omega)).trans (decide_eq_true (by omega)))) (by decide))
    show pm_WP PT fr lo 229 (26, [some (.ref 162), some (.int (nI 96))], [], (aset h 171 96 gk), 198, sl) _
    exact kk gk hc
  | succ m ih =>
    intro k gk hk hc
    refine wp_i rfl rfl rfl rfl ?_
    refine wp_i rfl rfl rfl rfl ?_
    show pm_WP PT fr lo 229 (5, [some (.ref 162), some (.int (nI k))], [.int 96, .int (nI k)], (aset h 171 96 gk), 198, sl) _
    refine wp_icmp (c := .ge) (off := 21) (t := 26) rfl rfl (fun q => absurd (q.symm.trans ((hI_ge (b := 96) (by omega) (by omega)).trans (decide_eq_false (by omega)))) (by decide)) (fun _ => ?_)
    refine wp_i rfl rfl rfl rfl ?_
    show pm_WP PT fr lo 229 (9, [some (.ref 162), some (.int (nI k))], [.ref 162], (aset h 171 96 gk), 198, sl) _
    refine wp_gfm rfl rfl (mF_as (by decide) h13) ?_
    refine wp_i rfl rfl rfl rfl ?_
    refine wp_i rfl rfl rfl rfl ?_
    show pm_WP PT fr lo 229 (14, [some (.ref 162), some (.int (nI k))], [.ref 162, .int (nI k), .ref 171], (aset h 171 96 gk), 198, sl) _
    refine wp_gfm rfl rfl (mF_as (by decide) h12) ?_
    refine wp_i rfl rfl rfl rfl ?_
    show pm_WP PT fr lo 229 (18, [some (.ref 162), some (.int (nI k))], [.int (nI k), .ref 170, .int (nI k), .ref 171], (aset h 171 96 gk), 198, sl) _
    refine wp_iam rfl (aset_ne (by decide) hN) (hI_in (by omega) (by omega)) (by decide) ?_
    rw [nI_clamp (by omega)]
    show pm_WP PT fr lo 229 (19, [some (.ref 162), some (.int (nI k))], [.int (f k), .int (nI k), .ref 171], (aset h 171 96 gk), 198, sl) _
    refine wp_ism rfl (aset_self _ _ _ _) (hI_in (by omega) (by omega)) (by decide) ?_
    rw [nI_clamp (by omega)]
    have e0 : upd gk k (f k) = upd gk (0 + k) (f (0 + k)) := by rw [Nat.zero_add]
    rw [e0]
    refine wp_i rfl rfl rfl rfl ?_
    refine wp_i rfl rfl rfl rfl ?_
    show pm_WP PT fr lo 229 (2, [some (.ref 162), some (.int (nI k + 1))], [], (aset (aset h 171 96 gk) 171 96 (upd gk (0 + k) (f (0 + k)))), 198, sl) _
    rw [nI_1 k, aset_aset]
    exact ih (k + 1) _ (by omega) (cpk_up hc)
theorem hd_copies {f g : Nat → Int32} (h13 : mF h 13 (.ref 171)) (h12 : mF h 12 (.ref 170)) (hN : h 170 = .inl (0, 96, .inl f)) (hT : h 171 = .inl (0, 96, .inl g)) : pm_WP PT fr lo 229 (0, pm_l0 [.ref 162] 2, [], h, 198, sl) (fun r => ∃ g2 : Nat → Int32, r = (none, aset h 171 96 g2, 198, sl) ∧ ∀ j, j < 96 → g2 j = f j) := by
  refine wp_i rfl rfl rfl rfl ?_
  refine wp_i rfl rfl rfl rfl ?_
  show pm_WP PT fr lo 229 (2, [some (.ref 162), some (.int 0)], [], h, 198, sl) _
  have key := cp_copies (fr := fr) (lo := lo) (sl := sl) (h := h) (g := g) (Q := fun r => ∃ g2 : Nat → Int32, r = (none, aset h 171 96 g2, 198, sl) ∧ ∀ j, j < 96 → g2 j = f j) h13 h12 hN (fun gk hc => wp_vret rfl rfl ⟨gk, rfl, fun j hj => by have := hc.1 j hj; rwa [Nat.zero_add] at this⟩) 96 0 g (by omega) (cpk_0 f g 0 0)
  rw [aset_same hT] at key
  exact key
theorem cp_putsBy {f g : Nat → Int32} {u : Nat} (h28 : mF h 28 (.ref 178)) (h12 : mF h 12 (.ref 170)) (h27 : mF h 27 (.int (nI u))) (hu : u ≤ 15) (hN : h 170 = .inl (0, 96, .inl f)) (kk : ∀ gk : Nat → Int32, cpk f g gk (0) (96 * u) 96 → pm_WP PT fr lo 211 (34, [some (.ref 162), some (.int (nI 96))], [], aset h 178 1536 gk, 198, sl) Q) : ∀ (m k : Nat) (gk : Nat → Int32), k + m = 96 → cpk f g gk (0) (96 * u) k → pm_WP PT fr lo 211 (2, [some (.ref 162), some (.int (nI k))], [], aset h 178 1536 gk, 198, sl) Q := by
  intro m
  induction m with
  | zero =>
    intro k gk hk hc
    obtain rfl : k = 96 := by omega
    refine wp_i rfl rfl rfl rfl ?_
    refine wp_i rfl rfl rfl rfl ?_
    show pm_WP PT fr lo 211 (5, [some (.ref 162), some (.int (nI 96))], [.int 96, .int (nI 96)], (aset h 178 1536 gk), 198, sl) _
    refine wp_icmp (c := .ge) (off := 29) (t := 34) rfl rfl (fun _ => ?_) (fun q => absurd (q.symm.trans ((hI_ge (b := 96) (by omega) (by omega)).trans (decide_eq_true (by omega)))) (by decide))
    show pm_WP PT fr lo 211 (34, [some (.ref 162), some (.int (nI 96))], [], (aset h 178 1536 gk), 198, sl) _
    exact kk gk hc
  | succ m ih =>
    intro k gk hk hc
    refine wp_i rfl rfl rfl rfl ?_
    refine wp_i rfl rfl rfl rfl ?_
    show pm_WP PT fr lo 211 (5, [some (.ref 162), some (.int (nI k))], [.int 96, .int (nI k)], (aset h 178 1536 gk), 198, sl) _
    refine wp_icmp (c := .ge) (off := 29) (t := 34) rfl rfl (fun q => absurd (q.symm.trans ((hI_ge (b := 96) (by omega) (by omega)).trans (decide_eq_false (by omega)))) (by decide)) (fun _ => ?_)
    refine wp_i rfl rfl rfl rfl ?_
    show pm_WP PT fr lo 211 (9, [some (.ref 162), some (.int (nI k))], [.ref 162], (aset h 178 1536 gk), 198, sl) _
    refine wp_gfm rfl rfl (mF_as (by decide) h28) ?_
    refine wp_i rfl rfl rfl rfl ?_
    refine wp_i rfl rfl rfl rfl ?_
    show pm_WP PT fr lo 211 (15, [some (.ref 162), some (.int (nI k))], [.ref 162, .int 96, .ref 178], (aset h 178 1536 gk), 198, sl) _
    refine wp_gfm rfl rfl (mF_as (by decide) h27) ?_
    refine wp_i rfl rfl rfl rfl ?_
    refine wp_i rfl rfl rfl rfl ?_
    refine wp_i rfl rfl rfl rfl ?_
    refine wp_i rfl rfl rfl rfl ?_
    show pm_WP PT fr lo 211 (22, [some (.ref 162), some (.int (nI k))], [.ref 162, .int ((96 * (nI u)) + (nI k)), .ref 178], (aset h 178 1536 gk), 198, sl) _
    refine wp_gfm rfl rfl (mF_as (by decide) h12) ?_
    refine wp_i rfl rfl rfl rfl ?_
    show pm_WP PT fr lo 211 (26, [some (.ref 162), some (.int (nI k))], [.int (nI k), .ref 170, .int ((96 * (nI u)) + (nI k)), .ref 178], (aset h 178 1536 gk), 198, sl) _
    refine wp_iam rfl (aset_ne (by decide) hN) (hI_in (by omega) (by omega)) (by decide) ?_
    rw [nI_clamp (by omega), ix96 u k]
    show pm_WP PT fr lo 211 (27, [some (.ref 162), some (.int (nI k))], [.int (f k), .int (nI (96 * u + k)), .ref 178], (aset h 178 1536 gk), 198, sl) _
    refine wp_ism rfl (aset_self _ _ _ _) (hI_in (by omega) (by omega)) (by decide) ?_
    rw [nI_clamp (by omega)]
    have e0 : upd gk (96 * u + k) (f k) = upd gk (96 * u + k) (f (0 + k)) := by rw [Nat.zero_add]
    rw [e0]
    refine wp_i rfl rfl rfl rfl ?_
    refine wp_i rfl rfl rfl rfl ?_
    show pm_WP PT fr lo 211 (2, [some (.ref 162), some (.int (nI k + 1))], [], (aset (aset h 178 1536 gk) 178 1536 (upd gk (96 * u + k) (f (0 + k)))), 198, sl) _
    rw [nI_1 k, aset_aset]
    exact ih (k + 1) _ (by omega) (cpk_up hc)
theorem hd_putsBy {f g : Nat → Int32} {u : Nat} (h28 : mF h 28 (.ref 178)) (h12 : mF h 12 (.ref 170)) (h27 : mF h 27 (.int (nI u))) (hu : u ≤ 15) (hN : h 170 = .inl (0, 96, .inl f)) (hU : h 178 = .inl (0, 1536, .inl g)) : pm_WP PT fr lo 211 (0, pm_l0 [.ref 162] 2, [], h, 198, sl) (fun r => ∃ g2 : Nat → Int32, r = (none, aset h 178 1536 g2, 198, sl) ∧ cpk f g g2 0 (96 * u) 96) := by
  refine wp_i rfl rfl rfl rfl ?_
  refine wp_i rfl rfl rfl rfl ?_
  show pm_WP PT fr lo 211 (2, [some (.ref 162), some (.int 0)], [], h, 198, sl) _
  have key := cp_putsBy (fr := fr) (lo := lo) (sl := sl) (h := h) (g := g) (Q := fun r => ∃ g2 : Nat → Int32, r = (none, aset h 178 1536 g2, 198, sl) ∧ cpk f g g2 0 (96 * u) 96) h28 h12 h27 hu hN (fun gk hc => wp_vret rfl rfl ⟨gk, rfl, hc⟩) 96 0 g (by omega) (cpk_0 f g 0 (96 * u))
  rw [aset_same hU] at key
  exact key
theorem cp_adds {g : Nat → Int32} {x : Int32} (h28 : mF h 28 (.ref 178)) (kk : ∀ gk : Nat → Int32, cpk g g gk (96) (0) 1440 → pm_WP PT fr lo 212 (49, [some (.ref 162), some (.int x), some (.int (nI 1440))], [], aset h 178 1536 gk, 198, sl) Q) : ∀ (m k : Nat) (gk : Nat → Int32), k + m = 1440 → cpk g g gk (96) (0) k → pm_WP PT fr lo 212 (21, [some (.ref 162), some (.int x), some (.int (nI k))], [], aset h 178 1536 gk, 198, sl) Q := by
  intro m
  induction m with
  | zero =>
    intro k gk hk hc
    obtain rfl : k = 1440 := by omega
    refine wp_i rfl rfl rfl rfl ?_
    refine wp_i rfl rfl rfl rfl ?_
    show pm_WP PT fr lo 212 (25, [some (.ref 162), some (.int x), some (.int (nI 1440))], [.int 1440, .int (nI 1440)], (aset h 178 1536 gk), 198, sl) _
    refine wp_icmp (c := .ge) (off := 24) (t := 49) rfl rfl (fun _ => ?_) (fun q => absurd (q.symm.trans ((hI_ge (b := 1440) (by omega) (by omega)).trans (decide_eq_true (by omega)))) (by decide))
    show pm_WP PT fr lo 212 (49, [some (.ref 162), some (.int x), some (.int (nI 1440))], [], (aset h 178 1536 gk), 198, sl) _
    exact kk gk hc
  | succ m ih =>
    intro k gk hk hc
    refine wp_i rfl rfl rfl rfl ?_
    refine wp_i rfl rfl rfl rfl ?_
    show pm_WP PT fr lo 212 (25, [some (.ref 162), some (.int x), some (.int (nI k))], [.int 1440, .int (nI k)], (aset h 178 1536 gk), 198, sl) _
    refine wp_icmp (c := .ge) (off := 24) (t := 49) rfl rfl (fun q => absurd (q.symm.trans ((hI_ge (b := 1440) (by omega) (by omega)).trans (decide_eq_false (by omega)))) (by decide)) (fun _ => ?_)
    refine wp_i rfl rfl rfl rfl ?_
    show pm_WP PT fr lo 212 (29, [some (.ref 162), some (.int x), some (.int (nI k))], [.ref 162], (aset h 178 1536 gk), 198, sl) _
    refine wp_gfm rfl rfl (mF_as (by decide) h28) ?_
    refine wp_i rfl rfl rfl rfl ?_
    refine wp_i rfl rfl rfl rfl ?_
    show pm_WP PT fr lo 212 (34, [some (.ref 162), some (.int x), some (.int (nI k))], [.ref 162, .int (nI k), .ref 178], (aset h 178 1536 gk), 198, sl) _
    refine wp_gfm rfl rfl (mF_as (by decide) h28) ?_
    refine wp_i rfl rfl rfl rfl ?_
    refine wp_i rfl rfl rfl rfl ?_
    refine wp_i rfl rfl rfl rfl ?_
    show pm_WP PT fr lo 212 (41, [some (.ref 162), some (.int x), some (.int (nI k))], [.int ((nI k) + 96), .ref 178, .int (nI k), .ref 178], (aset h 178 1536 gk), 198, sl) _
    rw [ixp k]
    show pm_WP PT fr lo 212 (41, [some (.ref 162), some (.int x), some (.int (nI k))], [.int (nI (k + 96)), .ref 178, .int (nI k), .ref 178], (aset h 178 1536 gk), 198, sl) _
    refine wp_iam rfl (aset_self _ _ _ _) (hI_in (by omega) (by omega)) (by decide) ?_
    rw [nI_clamp (by omega), hc.2 (k + 96) (by omega)]
    show pm_WP PT fr lo 212 (42, [some (.ref 162), some (.int x), some (.int (nI k))], [.int (g (k + 96)), .int (nI k), .ref 178], (aset h 178 1536 gk), 198, sl) _
    refine wp_ism rfl (aset_self _ _ _ _) (hI_in (by omega) (by omega)) (by decide) ?_
    rw [nI_clamp (by omega)]
    have e0 : upd gk k (g (k + 96)) = upd gk (0 + k) (g (96 + k)) := by rw [Nat.zero_add, Nat.add_comm]
    rw [e0]
    refine wp_i rfl rfl rfl rfl ?_
    refine wp_i rfl rfl rfl rfl ?_
    show pm_WP PT fr lo 212 (21, [some (.ref 162), some (.int x), some (.int (nI k + 1))], [], (aset (aset h 178 1536 gk) 178 1536 (upd gk (0 + k) (g (96 + k)))), 198, sl) _
    rw [nI_1 k, aset_aset]
    exact ih (k + 1) _ (by omega) (cpk_up hc)
theorem hd_adds {g : Nat → Int32} {u : Nat} (x : Int32) (h28 : mF h 28 (.ref 178)) (h27 : mF h 27 (.int (nI u))) (hu : u ≤ 15) (hU : h 178 = .inl (0, 1536, .inl g)) : pm_WP PT fr lo 212 (0, pm_l0 [.ref 162, .int x] 3, [], h, 198, sl) (fun r => ∃ (g2 : Nat → Int32) (u2 : Nat), r = (some (.int x), aset (mset h 27 (.int (nI u2))) 178 1536 g2, 198, sl) ∧ 1 ≤ u2 ∧ u2 ≤ 15 ∧ ((u < 15 ∧ u2 = u + 1 ∧ g2 = g) ∨ (u = 15 ∧ u2 = 15 ∧ cpk g g g2 96 0 1440))) := by
  refine wp_i rfl rfl rfl rfl ?_
  refine wp_i rfl rfl rfl rfl ?_
  show pm_WP PT fr lo 212 (2, [some (.ref 162), some (.int x), none], [.ref 162, .ref 162], h, 198, sl) _
  refine wp_gfm rfl rfl h27 ?_
  refine wp_i rfl rfl rfl rfl ?_
  refine wp_i rfl rfl rfl rfl ?_
  show pm_WP PT fr lo 212 (7, [some (.ref 162), some (.int x), none], [.int (nI u + 1), .ref 162], h, 198, sl) _
  rw [nI_1 u]
  show pm_WP PT fr lo 212 (7, [some (.ref 162), some (.int x), none], [.int (nI (u + 1)), .ref 162], h, 198, sl) _
  refine wp_pfm rfl rfl rfl (by decide) h27 ?_
  refine wp_i rfl rfl rfl rfl ?_
  show pm_WP PT fr lo 212 (11, [some (.ref 162), some (.int x), none], [.ref 162], (mset h 27 (.int (nI (u + 1)))), 198, sl) _
  refine wp_gfm rfl rfl (mF_self h27) ?_
  refine wp_i rfl rfl rfl rfl ?_
  show pm_WP PT fr lo 212 (16, [some (.ref 162), some (.int x), none], [.int 15, .int (nI (u + 1))], (mset h 27 (.int (nI (u + 1)))), 198, sl) _
  refine wp_icmp (c := .le) (off := 43) (t := 59) rfl rfl (fun q => ?_) (fun q => ?_)
  · have q : u + 1 ≤ 15 := of_decide_eq_true ((hI_le (b := 15) (by omega) (by omega)).symm.trans q)
    refine wp_i rfl rfl rfl rfl ?_
    show pm_WP PT fr lo 212 (60, [some (.ref 162), some (.int x), none], [.int x], (mset h 27 (.int (nI (u + 1)))), 198, sl) _
    refine wp_iret rfl rfl ⟨g, u + 1, ?_, by omega, by omega, Or.inl ⟨by omega, rfl, rfl⟩⟩
    rw [aset_same (mset_arr (by decide) hU)]
  · have q : ¬ u + 1 ≤ 15 := of_decide_eq_false ((hI_le (b := 15) (by omega) (by omega)).symm.trans q)
    refine wp_i rfl rfl rfl rfl ?_
    refine wp_i rfl rfl rfl rfl ?_
    show pm_WP PT fr lo 212 (21, [some (.ref 162), some (.int x), some (.int 0)], [], (mset h 27 (.int (nI (u + 1)))), 198, sl) _
    have e9 := aset_same (mset_arr (f := 27) (v := .int (nI (u + 1))) (by decide) hU)
    rw [← e9]
    refine cp_adds (g := g) (x := x) (mF_ne (by decide) h28) (fun gk hc => ?_) 1440 0 g (by omega) (cpk_0 g g 96 0)
    refine wp_i rfl rfl rfl rfl ?_
    refine wp_i rfl rfl rfl rfl ?_
    show pm_WP PT fr lo 212 (51, [some (.ref 162), some (.int x), some (.int (nI 1440))], [.ref 162, .ref 162], (aset (mset h 27 (.int (nI (u + 1)))) 178 1536 gk), 198, sl) _
    refine wp_gfm rfl rfl (mF_as (by decide) (mF_self h27)) ?_
    refine wp_i rfl rfl rfl rfl ?_
    refine wp_i rfl rfl rfl rfl ?_
    show pm_WP PT fr lo 212 (56, [some (.ref 162), some (.int x), some (.int (nI 1440))], [.int (nI (u + 1) - 1), .ref 162], (aset (mset h 27 (.int (nI (u + 1)))) 178 1536 gk), 198, sl) _
    rw [nI_pred u]
    show pm_WP PT fr lo 212 (56, [some (.ref 162), some (.int x), some (.int (nI 1440))], [.int (nI u), .ref 162], (aset (mset h 27 (.int (nI (u + 1)))) 178 1536 gk), 198, sl) _
    refine wp_pfm rfl rfl rfl (by decide) (mF_as (by decide) (mF_self h27)) ?_
    refine wp_i rfl rfl rfl rfl ?_
    show pm_WP PT fr lo 212 (60, [some (.ref 162), some (.int x), some (.int (nI 1440))], [.int x], (mset (aset (mset h 27 (.int (nI (u + 1)))) 178 1536 gk) 27 (.int (nI u))), 198, sl) _
    refine wp_iret rfl rfl ⟨gk, u, ?_, by omega, by omega, Or.inr ⟨by omega, by omega, hc⟩⟩
    rw [mset_aset, if_neg (by decide), mset_mset]
theorem cp_undo {f g : Nat → Int32} {u : Nat} (h12 : mF h 12 (.ref 170)) (h28 : mF h 28 (.ref 178)) (h27 : mF h 27 (.int (nI u))) (hu : u ≤ 15) (hU : h 178 = .inl (0, 1536, .inl f)) (kk : ∀ gk : Nat → Int32, cpk f g gk (96 * u) (0) 96 → pm_WP PT fr lo 214 (58, [some (.ref 162), some (.int (nI 96))], [], aset h 170 96 gk, 198, sl) Q) : ∀ (m k : Nat) (gk : Nat → Int32), k + m = 96 → cpk f g gk (96 * u) (0) k → pm_WP PT fr lo 214 (26, [some (.ref 162), some (.int (nI k))], [], aset h 170 96 gk, 198, sl) Q := by
  intro m
  induction m with
  | zero =>
    intro k gk hk hc
    obtain rfl : k = 96 := by omega
    refine wp_i rfl rfl rfl rfl ?_
    refine wp_i rfl rfl rfl rfl ?_
    show pm_WP PT fr lo 214 (29, [some (.ref 162), some (.int (nI 96))], [.int 96, .int (nI 96)], (aset h 170 96 gk), 198, sl) _
    refine wp_icmp (c := .ge) (off := 29) (t := 58) rfl rfl (fun _ => ?_) (fun q => absurd (q.symm.trans ((hI_ge (b := 96) (by omega) (by omega)).trans (decide_eq_true (by omega)))) (by decide))
    show pm_WP PT fr lo 214 (58, [some (.ref 162), some (.int (nI 96))], [], (aset h 170 96 gk), 198, sl) _
    exact kk gk hc
  | succ m ih =>
    intro k gk hk hc
    refine wp_i rfl rfl rfl rfl ?_
    refine wp_i rfl rfl rfl rfl ?_
    show pm_WP PT fr lo 214 (29, [some (.ref 162), some (.int (nI k))], [.int 96, .int (nI k)], (aset h 170 96 gk), 198, sl) _
    refine wp_icmp (c := .ge) (off := 29) (t := 58) rfl rfl (fun q => absurd (q.symm.trans ((hI_ge (b := 96) (by omega) (by omega)).trans (decide_eq_false (by omega)))) (by decide)) (fun _ => ?_)
    refine wp_i rfl rfl rfl rfl ?_
    show pm_WP PT fr lo 214 (33, [some (.ref 162), some (.int (nI k))], [.ref 162], (aset h 170 96 gk), 198, sl) _
    refine wp_gfm rfl rfl (mF_as (by decide) h12) ?_
    refine wp_i rfl rfl rfl rfl ?_
    refine wp_i rfl rfl rfl rfl ?_
    show pm_WP PT fr lo 214 (38, [some (.ref 162), some (.int (nI k))], [.ref 162, .int (nI k), .ref 170], (aset h 170 96 gk), 198, sl) _
    refine wp_gfm rfl rfl (mF_as (by decide) h28) ?_
    refine wp_i rfl rfl rfl rfl ?_
    refine wp_i rfl rfl rfl rfl ?_
    show pm_WP PT fr lo 214 (44, [some (.ref 162), some (.int (nI k))], [.ref 162, .int 96, .ref 178, .int (nI k), .ref 170], (aset h 170 96 gk), 198, sl) _
    refine wp_gfm rfl rfl (mF_as (by decide) h27) ?_
    refine wp_i rfl rfl rfl rfl ?_
    refine wp_i rfl rfl rfl rfl ?_
    refine wp_i rfl rfl rfl rfl ?_
    show pm_WP PT fr lo 214 (50, [some (.ref 162), some (.int (nI k))], [.int ((96 * (nI u)) + (nI k)), .ref 178, .int (nI k), .ref 170], (aset h 170 96 gk), 198, sl) _
    rw [ix96 u k]
    show pm_WP PT fr lo 214 (50, [some (.ref 162), some (.int (nI k))], [.int (nI (96 * u + k)), .ref 178, .int (nI k), .ref 170], (aset h 170 96 gk), 198, sl) _
    refine wp_iam rfl (aset_ne (by decide) hU) (hI_in (by omega) (by omega)) (by decide) ?_
    rw [nI_clamp (by omega)]
    show pm_WP PT fr lo 214 (51, [some (.ref 162), some (.int (nI k))], [.int (f (96 * u + k)), .int (nI k), .ref 170], (aset h 170 96 gk), 198, sl) _
    refine wp_ism rfl (aset_self _ _ _ _) (hI_in (by omega) (by omega)) (by decide) ?_
    rw [nI_clamp (by omega)]
    have e0 : upd gk k (f (96 * u + k)) = upd gk (0 + k) (f (96 * u + k)) := by rw [Nat.zero_add]
    rw [e0]
    refine wp_i rfl rfl rfl rfl ?_
    refine wp_i rfl rfl rfl rfl ?_
    show pm_WP PT fr lo 214 (26, [some (.ref 162), some (.int (nI k + 1))], [], (aset (aset h 170 96 gk) 170 96 (upd gk (0 + k) (f (96 * u + k)))), 198, sl) _
    rw [nI_1 k, aset_aset]
    exact ih (k + 1) _ (by omega) (cpk_up hc)
theorem hd_undo {f g : Nat → Int32} {u : Nat} {x0 : Value} (h0 : mF h 0 x0) (h12 : mF h 12 (.ref 170)) (h28 : mF h 28 (.ref 178)) (h27 : mF h 27 (.int (nI u))) (hu : u ≤ 15) (hU : h 178 = .inl (0, 1536, .inl f)) (hN : h 170 = .inl (0, 96, .inl g)) : pm_WP PT fr lo 214 (0, pm_l0 [.ref 162] 2, [], h, 198, sl) (fun r => (u = 0 ∧ r = (some (.int (-1)), mset h 0 (.int 0), 198, sl)) ∨ ∃ (v : Nat) (g2 : Nat → Int32), u = v + 1 ∧ r = (some (.int (nI v)), aset (mset (mset h 0 (.int 0)) 27 (.int (nI v))) 170 96 g2, 198, sl) ∧ ∀ j, j < 96 → g2 j = f (96 * v + j)) := by
  refine wp_i rfl rfl rfl rfl ?_
  refine wp_i rfl rfl rfl rfl ?_
  show pm_WP PT fr lo 214 (2, [some (.ref 162), none], [.int 0, .ref 162], h, 198, sl) _
  refine wp_pfm rfl rfl rfl (by decide) h0 ?_
  refine wp_i rfl rfl rfl rfl ?_
  show pm_WP PT fr lo 214 (6, [some (.ref 162), none], [.ref 162], (mset h 0 (.int 0)), 198, sl) _
  refine wp_gfm rfl rfl (mF_ne (by decide) h27) ?_
  show pm_WP PT fr lo 214 (9, [some (.ref 162), none], [.int (nI u)], (mset h 0 (.int 0)), 198, sl) _
  refine wp_if (c := .ne) (off := 5) (t := 14) rfl rfl (fun q => ?_) (fun q => ?_)
  · have q : ¬ u = 0 := of_decide_eq_true ((hI_ne (b := 0) (by omega) (by omega)).symm.trans q)
    obtain ⟨v, rfl⟩ : ∃ v, u = v + 1 := ⟨u - 1, by omega⟩
    refine wp_i rfl rfl rfl rfl ?_
    refine wp_i rfl rfl rfl rfl ?_
    show pm_WP PT fr lo 214 (16, [some (.ref 162), none], [.ref 162, .ref 162], (mset h 0 (.int 0)), 198, sl) _
    refine wp_gfm rfl rfl (mF_ne (by decide) h27) ?_
    refine wp_i rfl rfl rfl rfl ?_
    refine wp_i rfl rfl rfl rfl ?_
    show pm_WP PT fr lo 214 (21, [some (.ref 162), none], [.int (nI (v + 1) - 1), .ref 162], (mset h 0 (.int 0)), 198, sl) _
    rw [nI_pred v]
    show pm_WP PT fr lo 214 (21, [some (.ref 162), none], [.int (nI v), .ref 162], (mset h 0 (.int 0)), 198, sl) _
    refine wp_pfm rfl rfl rfl (by decide) (mF_ne (by decide) h27) ?_
    refine wp_i rfl rfl rfl rfl ?_
    refine wp_i rfl rfl rfl rfl ?_
    show pm_WP PT fr lo 214 (26, [some (.ref 162), some (.int 0)], [], (mset (mset h 0 (.int 0)) 27 (.int (nI v))), 198, sl) _
    have e9 := aset_same (mset_arr (f := 27) (v := .int (nI v)) (by decide) (mset_arr (f := 0) (v := .int 0) (by decide) hN))
    rw [← e9]
    refine cp_undo (f := f) (g := g) (u := v) (mF_ne (by decide) (mF_ne (by decide) h12)) (mF_ne (by decide) (mF_ne (by decide) h28)) (mF_self (mF_ne (by decide) h27)) (by omega) (mset_arr (by decide) (mset_arr (by decide) hU)) (fun gk hc => ?_) 96 0 g (by omega) (cpk_0 f g (96 * v) 0)
    refine wp_i rfl rfl rfl rfl ?_
    show pm_WP PT fr lo 214 (59, [some (.ref 162), some (.int (nI 96))], [.ref 162], (aset (mset (mset h 0 (.int 0)) 27 (.int (nI v))) 170 96 gk), 198, sl) _
    refine wp_gfm rfl rfl (mF_as (by decide) (mF_self (mF_ne (by decide) h27))) ?_
    show pm_WP PT fr lo 214 (62, [some (.ref 162), some (.int (nI 96))], [.int (nI v)], (aset (mset (mset h 0 (.int 0)) 27 (.int (nI v))) 170 96 gk), 198, sl) _
    exact wp_iret rfl rfl (Or.inr ⟨v, gk, rfl, rfl, fun j hj => by have := hc.1 j hj; rwa [Nat.zero_add] at this⟩)
  · have q : u = 0 := Decidable.not_not.mp (of_decide_eq_false ((hI_ne (b := 0) (by omega) (by omega)).symm.trans q))
    refine wp_i rfl rfl rfl rfl ?_
    show pm_WP PT fr lo 214 (13, [some (.ref 162), none], [.int (-1)], (mset h 0 (.int 0)), 198, sl) _
    exact wp_iret rfl rfl (Or.inl ⟨q, rfl⟩)
end CPY
