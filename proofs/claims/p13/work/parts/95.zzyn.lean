/-! courts of the class, told exactly behind what it reads -/
section CRX
variable {n fr lo sl n0 c N gc cq : Nat} {q : QT} {h g0 : pm_H} {R : pm_Rs}
theorem cx88 (hn : n0 ≤ 80) (hc : c ≤ 6) (hw : WT h) (h11 : Fi h 1 1 = nI n0) (h50 : Fi h 5 0 = nI c) (hh : pm_run PT n fr lo 88 (0, pm_l0 [.ref 0] 3, [], h, 198, sl) = some R) : ∃ h1 : pm_H, WT h1 ∧ (∀ i, i ≠ 6 → i ≠ 7 → h1 i = h i) ∧ vI c (Ar h 2) (Ar h 6) (Ar h 7) (Ar h1 6) (Ar h1 7) 0 0 ∧ ((∃ v : Int32, pm_cmp .le v 0 = true ∧ R = (some (.int v), fset h1 1 1 (.int (nI 0)), 198, sl)) ∨ ∃ N, 1 ≤ N ∧ c + N ≤ 6 ∧ vI c (Ar h 2) (Ar h 6) (Ar h 7) (Ar h1 6) (Ar h1 7) N 0 ∧ R = (some (.int (nI N)), (w88 q cq gc h1 N c).2, 198, sl) ∧ WT (w88 q cq gc h1 N c).2 ∧ frm [0, 1, 5, 14, 15, 25] [(0, 7), (1, 1), (5, 0), (25, 2)] h1 (w88 q cq gc h1 N c).2) := by
  have i5 : ∃ rs, h 5 = .inr (3, rs) ∧ rs[0]? = some (.int (nI c)) := by
    obtain ⟨rs, a, b⟩ := wt_i (c := 5) (g := 0) hw (by decide) rfl (by decide) rfl
    rw [h50] at b
    exact ⟨rs, a, b⟩
  have px : pX h n0 c (Ar h 2) := by
    obtain ⟨fs, a1, a2⟩ := wt_r (c := 0) (g := 0) (p := 1) hw (by decide) rfl (by decide) rfl rfl
    obtain ⟨fs', a3, a4⟩ := wt_r (c := 0) (g := 2) (p := 5) hw (by decide) rfl (by decide) rfl rfl
    obtain ⟨gs, b1, b2⟩ := wt_r (c := 1) (g := 0) (p := 2) hw (by decide) rfl (by decide) rfl rfl
    obtain ⟨gs', b3, b4⟩ := wt_i (c := 1) (g := 1) hw (by decide) rfl (by decide) rfl
    rw [h11] at b4
    rw [a1] at a3
    cases a3
    rw [b1] at b3
    cases b3
    exact ⟨⟨fs, a1, a2, a4⟩, ⟨gs, b1, b2, b4⟩, wt_a hw (by decide) rfl (by decide), i5⟩
  have sx : svX h h n0 c (Ar h 2) (Ar h 6) (Ar h 7) := by
    obtain ⟨rs, a1, a2⟩ := wt_r (c := 5) (g := 2) (p := 6) hw (by decide) rfl (by decide) rfl rfl
    obtain ⟨rs', a3, a4⟩ := wt_r (c := 5) (g := 3) (p := 7) hw (by decide) rfl (by decide) rfl rfl
    rw [a1] at a3
    cases a3
    exact ⟨px, ⟨rs, a1, a2, a4, hw, fun _ _ _ => rfl⟩, wt_a hw (by decide) rfl (by decide), wt_a hw (by decide) rfl (by decide)⟩
  obtain ⟨n, hh⟩ := rn_i rfl rfl rfl rfl hh
  obtain ⟨n, fr', lo', r1, hr1, hh⟩ := rn_call (w := 0) (t := 129) rfl rfl hh
  have hz := sz_run sQ_ok _ _ _ 129 _ r1 rfl hr1
  have hv := xr_run hn hc px hr1
  obtain ⟨A', B', x1, v0, vN⟩ := vx_run hn hc sx hr1
  obtain ⟨rv, h1, s1⟩ := r1
  dsimp only at hz hv x1 vN
  subst hz
  subst hv
  obtain ⟨-, ⟨rs, -, -, -, w1, f1⟩, k6, k7⟩ := x1
  have eA : Ar h1 6 = A' := by
    unfold Ar
    rw [k6]
  have eB : Ar h1 7 = B' := by
    unfold Ar
    rw [k7]
  rw [← eA, ← eB] at v0 vN
  obtain ⟨-, hN⟩ := cm_both (f := Ar h 2) (tp := Ar h 2) hn hc (fun _ _ => rfl)
  generalize xR n0 c (Ar h 2) = v at *
  have hh : pm_run PT n fr lo 88 (4, [some (.ref 0), none, none], [.int v], h1, 198, sl) = some R := hh
  obtain ⟨n, hh⟩ := rn_i rfl rfl rfl rfl hh
  have hh : pm_run PT n fr lo 88 (5, [some (.ref 0), some (.int v), none], [], h1, 198, sl) = some R := hh
  refine ⟨h1, w1, f1, v0, ?_⟩
  have no : pm_cmp .le v 0 = true → ∃ v : Int32, pm_cmp .le v 0 = true ∧ R = (some (.int v), fset h1 1 1 (.int (nI 0)), 198, sl) := fun hle => ⟨v, hle, (w88n_ok (q := q) (cc := cq) (gc := gc) w1 hle hh).1⟩
  rcases hN with ⟨e1, e2⟩ | ⟨e1, -⟩
  · generalize cmN (Ar h 2) n0 c = N at *
    by_cases z : N = 0
    · exact Or.inl (no (by rw [e1, z]; decide))
    · subst e1
      obtain ⟨a1, a2, a3⟩ := w88_ok (q := q) (cc := cq) (gc := gc) w1 (by omega) e2 ((Fi_e (f1 5 (by decide) (by decide))).trans h50) hh
      have en : (w88 q cq gc h1 N c).1 = nI N := by
        unfold w88
        cases decide (N ≤ 0) <;> rfl
      rw [en] at a1
      exact Or.inr ⟨N, by omega, e2, vN N (by omega) (by omega) rfl, a1, a2, a3⟩
  · exact Or.inl (no e1)
end CRX
