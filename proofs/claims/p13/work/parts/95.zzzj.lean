/-! year: both sides do the acts told -/
section YRL
variable {n fr lo sl n0 cc gc a b k kd t p c : Nat} {q : QT} {h h1 h2 H X M : pm_H} {d : Int32} {R : pm_Rs} {f : Nat → Int32}
/-- where the acts stand -/
def yPos (f : Nat → Int32) (t : Nat) : Nat → Nat
  | 0 => 0
  | k + 1 => (yA f t (yPos f t k)).2
def yd (f : Nat → Int32) (p : Nat) : Nat := (f p - nI 48).toNatClampNeg
def yKd (f : Nat → Int32) (t j : Nat) : Nat := (yL f t (yPos f t j)).getD 0
def yXj (q : QT) (cc gc : Nat) (f : Nat → Int32) (t j : Nat) (h : pm_H) : Bool × pm_H := yX q cc gc h (yKd f t j) (yd f (yPos f t j + 1)) (yd f (yPos f t j + 2)) (f (yPos f t j + 3) - nI 48)
def yMj (q : QT) (cc gc : Nat) (f : Nat → Int32) (t j : Nat) (h : pm_H) : Bool × pm_H := yM q cc gc h j (yKd f t j) (yd f (yPos f t j + 1)) (yd f (yPos f t j + 2))
/-- acts, until one doesn't go through: how many did -/
def yG (g : Nat → pm_H → Bool × pm_H) : Nat → Nat → pm_H → Nat × pm_H
  | 0, j, h => (j, h)
  | k + 1, j, h => cond (g j h).1 (yG g k (j + 1) (g j h).2) (j, (g j h).2)
def yOk (f : Nat → Int32) (t c : Nat) : Prop := ∀ j, j < c → (∃ kd, yL f t (yPos f t j) = some kd) ∧ (yA f t (yPos f t j)).1 = true
theorem y_dig (z : dg f p t = true) : f p - nI 48 = nI (yd f p) ∧ yd f p < 10 := by
  have v := dg_val z
  have v : 0 ≤ (f p - nI 48).toInt ∧ (f p - nI 48).toInt ≤ 9 := v
  obtain ⟨m, e, hm, ei⟩ := hI_of (x := f p - nI 48) v.1
  unfold yd
  rw [e, nI_clamp hm]
  exact ⟨rfl, by omega⟩
theorem y_act (e : yL f t p = some kd) (ok : (yA f t p).1 = true) : kd ≤ 4 ∧ p < t ∧ (yA f t p).2 = p + yS kd ∧ dg f (p + 1) t = true ∧ (kd ≠ 1 → dg f (p + 2) t = true) ∧ (3 ≤ kd → dg f (p + 3) t = true) := by
  have hs := yS_ge kd
  unfold yA at ok ⊢
  rw [e] at ok ⊢
  have ok : yD f t p (yS kd - 1) 1 = yS kd := of_decide_eq_true ok
  have dd := yD_lt (f := f) (t := t) (i := p) (yS kd - 1) 1 (by omega)
  refine ⟨yL_le e, yL_lt e, ?_, yB_dg (dd 1 (Nat.le_refl _) (by omega)), fun k1 => yB_dg (dd 2 (by omega) (by have := yS_n1 k1; omega)), fun k3 => yB_dg (dd 3 (by omega) (by rw [yS_3 k3]; decide))⟩
  show p + yD f t p (yS kd - 1) 1 = p + yS kd
  rw [ok]
theorem yK_iv {x : Int32} (e : yK x = some kd) : (kd = 0 ∧ x = nI 115) ∨ (kd = 1 ∧ x = nI 109) ∨ (kd = 2 ∧ x = nI 102) ∨ (kd = 3 ∧ x = nI 112) ∨ (kd = 4 ∧ x = nI 113) := by
  unfold yK at e
  by_cases e1 : x = nI 115
  · rw [if_pos e1] at e
    cases e
    exact Or.inl ⟨rfl, e1⟩
  · rw [if_neg e1] at e
    by_cases e2 : x = nI 109
    · rw [if_pos e2] at e
      cases e
      exact Or.inr (Or.inl ⟨rfl, e2⟩)
    · rw [if_neg e2] at e
      by_cases e3 : x = nI 102
      · rw [if_pos e3] at e
        cases e
        exact Or.inr (Or.inr (Or.inl ⟨rfl, e3⟩))
      · rw [if_neg e3] at e
        by_cases e4 : x = nI 112
        · rw [if_pos e4] at e
          cases e
          exact Or.inr (Or.inr (Or.inr (Or.inl ⟨rfl, e4⟩)))
        · rw [if_neg e4] at e
          by_cases e5 : x = nI 113
          · rw [if_pos e5] at e
            cases e
            exact Or.inr (Or.inr (Or.inr (Or.inr ⟨rfl, e5⟩)))
          · rw [if_neg e5] at e
            cases e
theorem yPos_le : ∀ c, yOk f t c → yPos f t c ≤ t ∧ 2 * c ≤ yPos f t c
  | 0, _ => ⟨Nat.zero_le _, Nat.le_refl _⟩
  | c + 1, z => by
    have ih := yPos_le c (fun j hj => z j (by omega))
    obtain ⟨⟨kd, e⟩, ok⟩ := z c (by omega)
    have y := yA_le (f := f) ih.1
    have y3 := y.2.2 ok
    show (yA f t (yPos f t c)).2 ≤ t ∧ 2 * (c + 1) ≤ (yA f t (yPos f t c)).2
    omega
/-- what the class's readers look at, by the counts -/
theorem pX_hc (hc : HC q cc gc h) (e11 : Fi h 1 1 = nI n0) : pX h n0 cc (Ar h 2) := by
  have hw := hc.wt
  have i5 : ∃ rs, h 5 = .inr (3, rs) ∧ rs[0]? = some (.int (nI cc)) := by
    obtain ⟨rs, a, b⟩ := wt_i (c := 5) (g := 0) hw (by decide) rfl (by decide) rfl
    rw [hc.x0] at b
    exact ⟨rs, a, b⟩
  obtain ⟨fs, a1, a2⟩ := wt_r (c := 0) (g := 0) (p := 1) hw (by decide) rfl (by decide) rfl rfl
  obtain ⟨fs', a3, a4⟩ := wt_r (c := 0) (g := 2) (p := 5) hw (by decide) rfl (by decide) rfl rfl
  obtain ⟨gs, b1, b2⟩ := wt_r (c := 1) (g := 0) (p := 2) hw (by decide) rfl (by decide) rfl rfl
  obtain ⟨gs', b3, b4⟩ := wt_i (c := 1) (g := 1) hw (by decide) rfl (by decide) rfl
  rw [e11] at b4
  rw [a1] at a3
  cases a3
  rw [b1] at b3
  cases b3
  exact ⟨⟨fs, a1, a2, a4⟩, ⟨gs, b1, b2, b4⟩, wt_a hw (by decide) rfl (by decide), i5⟩
/-- doAct -/
theorem yx_run (hn : n0 ≤ 80) (hc : HC q cc gc H) (na : NA H 17 0 8 6) (e11 : Fi H 1 1 = nI n0) (ef : Ar H 2 = f) (hp : p < 60) (e : yL f (min n0 60) p = some kd) (ok : (yA f (min n0 60) p).1 = true) (hh : pm_run PT n fr lo 141 (0, pm_l0 [.ref 0, .int (nI p)] 5, [], H, 198, sl) = some R) : R = (some (.int (cond (yX q cc gc H kd (yd f (p + 1)) (yd f (p + 2)) (f (p + 3) - nI 48)).1 1 0)), (yX q cc gc H kd (yd f (p + 1)) (yd f (p + 2)) (f (p + 3) - nI 48)).2, 198, sl) := by
  obtain ⟨k4, hlt, -, d1, d2, d3⟩ := y_act e ok
  have px := pX_hc hc e11
  have s0 : sgA f n0 p 60 = f p := by
    unfold sgA
    rw [decide_eq_true hlt]
    rfl
  have g1 : dgA f n0 (p + 1) 60 = nI (yd f (p + 1)) := ((dgA_B (f := f) (n0 := n0) (p := p) (j := 1)).1 d1).1.trans (y_dig d1).1
  have l1 := (y_dig d1).2
  have eK : yK (f p) = some kd := by
    unfold yL at e
    rw [if_pos hlt] at e
    exact e
  subst ef
  rcases yK_iv eK with ⟨rfl, es⟩ | ⟨rfl, es⟩ | ⟨rfl, es⟩ | ⟨rfl, es⟩ | ⟨rfl, es⟩
  · have dd2 := d2 (by decide)
    have g2 : dgA (Ar H 2) n0 (p + 2) 60 = nI (yd (Ar H 2) (p + 2)) := ((dgA_B (f := Ar H 2) (n0 := n0) (p := p) (j := 2)).1 dd2).1.trans (y_dig dd2).1
    exact (v141s_ok hc (by omega) hn px (s0.trans es) g1 l1 g2 (y_dig dd2).2 na hh).1
  · exact (v141m_ok hc (by omega) hn px (s0.trans es) g1 l1 na hh).1
  · have dd2 := d2 (by decide)
    have g2 : dgA (Ar H 2) n0 (p + 2) 60 = nI (yd (Ar H 2) (p + 2)) := ((dgA_B (f := Ar H 2) (n0 := n0) (p := p) (j := 2)).1 dd2).1.trans (y_dig dd2).1
    exact (v141f_ok hc (by omega) hn px (s0.trans es) g1 l1 g2 (y_dig dd2).2 na hh).1
  · have dd2 := d2 (by decide)
    have dd3 := d3 (by decide)
    have g2 : dgA (Ar H 2) n0 (p + 2) 60 = nI (yd (Ar H 2) (p + 2)) := ((dgA_B (f := Ar H 2) (n0 := n0) (p := p) (j := 2)).1 dd2).1.trans (y_dig dd2).1
    have g3 : dgA (Ar H 2) n0 (p + 3) 60 = Ar H 2 (p + 3) - nI 48 := ((dgA_B (f := Ar H 2) (n0 := n0) (p := p) (j := 3)).1 dd3).1
    have z := (v141p_ok hc (by omega) hn px (s0.trans es) g1 l1 g2 (y_dig dd2).2 na hh).1
    unfold v141p at z
    rw [g3] at z
    exact z
  · have dd2 := d2 (by decide)
    have dd3 := d3 (by decide)
    have g2 : dgA (Ar H 2) n0 (p + 2) 60 = nI (yd (Ar H 2) (p + 2)) := ((dgA_B (f := Ar H 2) (n0 := n0) (p := p) (j := 2)).1 dd2).1.trans (y_dig dd2).1
    have g3 : dgA (Ar H 2) n0 (p + 3) 60 = Ar H 2 (p + 3) - nI 48 := ((dgA_B (f := Ar H 2) (n0 := n0) (p := p) (j := 3)).1 dd3).1
    have z := (v141q_ok hc (by omega) hn px (s0.trans es) g1 l1 g2 (y_dig dd2).2 na hh).1
    unfold v141q at z
    rw [g3] at z
    exact z
/-- the HOLDERS stay small numbers -/
theorem yX_na (hc : HC q cc gc X) (na : NA X 17 0 8 6) : NA (yX q cc gc X kd a b d).2 17 0 8 6 := by
  have h6 := hc.cb
  unfold yX
  split
  · by_cases hb : b < cc
    · unfold v142
      cases pm_cmp .ge (v136 q cc gc (Ar X 17) a b) 0 with
      | false => exact na
      | true =>
        obtain ⟨c39, f39⟩ := v39_fr (g := a) (c := b) hc
        show NA (v40 q cc gc (v39 q cc gc X a b).2 a b (v39 q cc gc X a b).1) 17 0 8 6
        have e := (v40_ar (q := q) (cc := cc) (gc := gc) (h := (v39 q cc gc X a b).2) (g := a) (c := b) (V := (v39 q cc gc X a b).1)).2.2.1
        have z : NAf (upd (Ar X 17) a (nI b)) 0 8 6 := NAf_up (Or.inl ⟨b, by omega, rfl⟩) (by decide) na
        have e2 : Ar (v40 q cc gc (v39 q cc gc X a b).2 a b (v39 q cc gc X a b).1) 17 = upd (Ar X 17) a (nI b) := by
          rw [e, Ar_e (f39.1 17 rfl)]
        intro j h1 h2
        rw [e2]
        exact z j h1 h2
    · have ev : v136 q cc gc (Ar X 17) a b = Int32.ofInt (-1) := by
        unfold v136
        rw [decide_eq_false hb]
        cases decide (a < gc) <;> rfl
      unfold v142
      rw [ev, n1_ge]
      exact na
  · split
    · exact NA_e (Ar_e ((v140_fr (m := a) hc).2.1 17 rfl)) na
    · split
      · exact NA_e (Ar_e ((v143_fr (a := a) (b := b) hc).2.1 17 rfl)) na
      · split
        · exact NA_e (Ar_e ((v144_fr (a := a) (b := b) (m := d) hc).2.1 17 rfl)) na
        · exact NA_e (Ar_e ((v144_fr (a := a) (b := b) (m := -d) hc).2.1 17 rfl)) na
/-- the class's acts -/
theorem yl_loop {v1 : Int32} (hn : n0 ≤ 80) (ok : yOk f (min n0 60) c) (hend : yPos f (min n0 60) c = n0) : ∀ (k j n : Nat) (H : pm_H), j + k = c → HC q cc gc H → NA H 17 0 8 6 → Fi H 1 1 = nI n0 → Ar H 2 = f → pm_run PT n fr lo 100 (42, [some (.ref 0), some (.int v1), some (.int (nI j)), some (.int 0), some (.int (nI (yPos f (min n0 60) j))), some (.int (nI j))], [], H, 198, sl) = some R → ∃ m s p i, pm_run PT m fr lo 100 (107, [some (.ref 0), some (.int v1), some (.int (nI (yG (yXj q cc gc f (min n0 60)) k j H).1)), some (.int s), some (.int p), some (.int i)], [], (yG (yXj q cc gc f (min n0 60)) k j H).2, 198, sl) = some R
  | 0, j, n, H, e, hc, na, e11, ef, hh => by
    have hj : j = c := e
    subst hj
    have hle := yPos_le j ok
    obtain ⟨n, hh⟩ := rn_i rfl rfl rfl rfl hh
    obtain ⟨n, hh⟩ := rn_i rfl rfl rfl rfl hh
    obtain ⟨n, hh⟩ := rn_icmp (cc := .ge) (off := 61) (t := 107) rfl rfl hh
    rw [show pm_cmp .ge (nI j) (Int8.ofInt 60).toInt32 = decide (60 ≤ j) from hI_ge (b := 60) (by omega) (by omega), decide_eq_false (by omega)] at hh
    have hh : pm_run PT n fr lo 100 (49, [some (.ref 0), some (.int v1), some (.int (nI j)), some (.int 0), some (.int (nI (yPos f (min n0 60) j))), some (.int (nI j))], [], H, 198, sl) = some R := hh
    obtain ⟨n, hh⟩ := rn_i rfl rfl rfl rfl hh
    obtain ⟨n, hh⟩ := rn_i rfl rfl rfl rfl hh
    have hh : pm_run PT n fr lo 100 (52, [some (.ref 0), some (.int v1), some (.int (nI j)), some (.int 0), some (.int (nI (yPos f (min n0 60) j))), some (.int (nI j))], [.ref 0, .int (nI (yPos f (min n0 60) j))], H, 198, sl) = some R := hh
    obtain ⟨n, hh⟩ := rn_gr hc.wt rfl rfl (by decide) rfl (by decide) (show _ = some (2, ((1 : Nat) : Int), 1) from rfl) rfl hh
    obtain ⟨n, hh⟩ := rn_gi (x := nI n0) hc.wt rfl rfl (by decide) rfl (by decide) rfl e11 hh
    obtain ⟨n, hh⟩ := rn_icmp (cc := .ge) (off := 49) (t := 107) rfl rfl hh
    rw [hI_ge (by omega) (by omega), decide_eq_true (by omega)] at hh
    exact ⟨n, _, _, _, hh⟩
  | k + 1, j, n, H, e, hc, na, e11, ef, hh => by
    have hle := yPos_le j (fun i hi => ok i (by omega))
    obtain ⟨⟨kd, eL⟩, oj⟩ := ok j (by omega)
    obtain ⟨k4, hlt, eA, -⟩ := y_act eL oj
    have hk : yKd f (min n0 60) j = kd := by
      unfold yKd
      rw [eL]
      rfl
    obtain ⟨n, hh⟩ := rn_i rfl rfl rfl rfl hh
    obtain ⟨n, hh⟩ := rn_i rfl rfl rfl rfl hh
    obtain ⟨n, hh⟩ := rn_icmp (cc := .ge) (off := 61) (t := 107) rfl rfl hh
    rw [show pm_cmp .ge (nI j) (Int8.ofInt 60).toInt32 = decide (60 ≤ j) from hI_ge (b := 60) (by omega) (by omega), decide_eq_false (by omega)] at hh
    have hh : pm_run PT n fr lo 100 (49, [some (.ref 0), some (.int v1), some (.int (nI j)), some (.int 0), some (.int (nI (yPos f (min n0 60) j))), some (.int (nI j))], [], H, 198, sl) = some R := hh
    obtain ⟨n, hh⟩ := rn_i rfl rfl rfl rfl hh
    obtain ⟨n, hh⟩ := rn_i rfl rfl rfl rfl hh
    have hh : pm_run PT n fr lo 100 (52, [some (.ref 0), some (.int v1), some (.int (nI j)), some (.int 0), some (.int (nI (yPos f (min n0 60) j))), some (.int (nI j))], [.ref 0, .int (nI (yPos f (min n0 60) j))], H, 198, sl) = some R := hh
    obtain ⟨n, hh⟩ := rn_gr hc.wt rfl rfl (by decide) rfl (by decide) (show _ = some (2, ((1 : Nat) : Int), 1) from rfl) rfl hh
    obtain ⟨n, hh⟩ := rn_gi (x := nI n0) hc.wt rfl rfl (by decide) rfl (by decide) rfl e11 hh
    obtain ⟨n, hh⟩ := rn_icmp (cc := .ge) (off := 49) (t := 107) rfl rfl hh
    rw [hI_ge (by omega) (by omega), decide_eq_false (by omega)] at hh
    have hh : pm_run PT n fr lo 100 (61, [some (.ref 0), some (.int v1), some (.int (nI j)), some (.int 0), some (.int (nI (yPos f (min n0 60) j))), some (.int (nI j))], [], H, 198, sl) = some R := hh
    obtain ⟨n, hh⟩ := rn_i rfl rfl rfl rfl hh
    obtain ⟨n, hh⟩ := rn_if (cc := .ne) (off := 45) (t := 107) rfl rfl hh
    rw [show pm_cmp .ne (0 : Int32) 0 = false by decide] at hh
    have hh : pm_run PT n fr lo 100 (65, [some (.ref 0), some (.int v1), some (.int (nI j)), some (.int 0), some (.int (nI (yPos f (min n0 60) j))), some (.int (nI j))], [], H, 198, sl) = some R := hh
    obtain ⟨n, hh⟩ := rn_i rfl rfl rfl rfl hh
    obtain ⟨n, hh⟩ := rn_i rfl rfl rfl rfl hh
    have hh : pm_run PT n fr lo 100 (68, [some (.ref 0), some (.int v1), some (.int (nI j)), some (.int 0), some (.int (nI (yPos f (min n0 60) j))), some (.int (nI j))], [.int (nI (yPos f (min n0 60) j)), .ref 0], H, 198, sl) = some R := hh
    obtain ⟨n, fr', lo', r1, hr1, hh⟩ := rn_call (w := 0) (t := 141) rfl rfl hh
    have er := yx_run hn hc na e11 ef (by omega) eL oj hr1
    have eX : yXj q cc gc f (min n0 60) j H = yX q cc gc H kd (yd f (yPos f (min n0 60) j + 1)) (yd f (yPos f (min n0 60) j + 2)) (f (yPos f (min n0 60) j + 3) - nI 48) := by
      unfold yXj
      rw [hk]
    rw [← eX] at er
    subst er
    obtain ⟨c2, f2⟩ := yX_fr (kd := kd) (a := yd f (yPos f (min n0 60) j + 1)) (b := yd f (yPos f (min n0 60) j + 2)) (d := f (yPos f (min n0 60) j + 3) - nI 48) hc
    have na2 := yX_na (kd := kd) (a := yd f (yPos f (min n0 60) j + 1)) (b := yd f (yPos f (min n0 60) j + 2)) (d := f (yPos f (min n0 60) j + 3) - nI 48) hc na
    rw [← eX] at c2 f2 na2
    have eG : yG (yXj q cc gc f (min n0 60)) (k + 1) j H = cond (yXj q cc gc f (min n0 60) j H).1 (yG (yXj q cc gc f (min n0 60)) k (j + 1) (yXj q cc gc f (min n0 60) j H).2) (j, (yXj q cc gc f (min n0 60) j H).2) := rfl
    have e11b : Fi (yXj q cc gc f (min n0 60) j H).2 1 1 = nI n0 := (Fi_e (f2.1 1 rfl)).trans e11
    have efb : Ar (yXj q cc gc f (min n0 60) j H).2 2 = f := (Ar_e (f2.1 2 rfl)).trans ef
    rw [eG]
    have ePos : yPos f (min n0 60) (j + 1) = yPos f (min n0 60) j + yS kd := eA
    generalize yXj q cc gc f (min n0 60) j H = z at *
    obtain ⟨zb, zh⟩ := z
    dsimp only at hh c2 f2 na2 e11b efb ⊢
    have px := pX_hc c2 e11b
    have sgn : ∀ (n : Nat) (cnt flag : Int32), pm_run PT n fr lo 100 (82, [some (.ref 0), some (.int v1), some (.int cnt), some (.int flag), some (.int (nI (yPos f (min n0 60) j))), some (.int (nI j))], [], zh, 198, sl) = some R → ∃ m, pm_run PT m fr lo 100 (42, [some (.ref 0), some (.int v1), some (.int cnt), some (.int flag), some (.int (nI (yPos f (min n0 60) (j + 1)))), some (.int (nI (j + 1)))], [], zh, 198, sl) = some R := by
      intro n cnt flag hh
      obtain ⟨n, hh⟩ := rn_i rfl rfl rfl rfl hh
      obtain ⟨n, hh⟩ := rn_i rfl rfl rfl rfl hh
      have hh : pm_run PT n fr lo 100 (85, [some (.ref 0), some (.int v1), some (.int cnt), some (.int flag), some (.int (nI (yPos f (min n0 60) j))), some (.int (nI j))], [.ref 0, .int (nI (yPos f (min n0 60) j))], zh, 198, sl) = some R := hh
      obtain ⟨n, hh⟩ := rn_gr c2.wt rfl rfl (by decide) rfl (by decide) (show _ = some (2, ((1 : Nat) : Int), 1) from rfl) rfl hh
      obtain ⟨n, hh⟩ := rn_i rfl rfl rfl rfl hh
      obtain ⟨n, hh⟩ := rn_i rfl rfl rfl rfl hh
      have hh : pm_run PT n fr lo 100 (92, [some (.ref 0), some (.int v1), some (.int cnt), some (.int flag), some (.int (nI (yPos f (min n0 60) j))), some (.int (nI j))], [.int (nI 60), .int (nI (yPos f (min n0 60) j)), .ref 1, .int (nI (yPos f (min n0 60) j))], zh, 198, sl) = some R := hh
      obtain ⟨n, fr', lo', r1, hr1, hh⟩ := rn_call (w := 0) (t := 80) rfl rfl hh
      have er := sgA_run hn (by decide) (by omega) px hr1
      rw [efb] at er
      subst er
      have hh : pm_run PT n fr lo 100 (95, [some (.ref 0), some (.int v1), some (.int cnt), some (.int flag), some (.int (nI (yPos f (min n0 60) j))), some (.int (nI j))], [.int (sgA f n0 (yPos f (min n0 60) j) 60), .int (nI (yPos f (min n0 60) j))], zh, 198, sl) = some R := hh
      obtain ⟨n, fr', lo', r1, hr1, hh⟩ := rn_call (w := 2) (t := 135) rfl rfl hh
      have er := v135_ok c2 hr1
      rw [sgA_K, eL] at er
      subst er
      have hh : pm_run PT n fr lo 100 (98, [some (.ref 0), some (.int v1), some (.int cnt), some (.int flag), some (.int (nI (yPos f (min n0 60) j))), some (.int (nI j))], [.int (nI (yS kd)), .int (nI (yPos f (min n0 60) j))], zh, 198, sl) = some R := hh
      obtain ⟨n, hh⟩ := en_add rfl hh
      obtain ⟨n, hh⟩ := rn_i rfl rfl rfl rfl hh
      have hh : pm_run PT n fr lo 100 (101, [some (.ref 0), some (.int v1), some (.int cnt), some (.int flag), some (.int (nI (yPos f (min n0 60) j + yS kd))), some (.int (nI j))], [], zh, 198, sl) = some R := hh
      obtain ⟨n, hh⟩ := en_inc (x := j) (c := 1) (j := 5) rfl rfl (by decide) hh
      obtain ⟨n, hh⟩ := rn_i rfl rfl rfl rfl hh
      have hh : pm_run PT n fr lo 100 (42, [some (.ref 0), some (.int v1), some (.int cnt), some (.int flag), some (.int (nI (yPos f (min n0 60) j + yS kd))), some (.int (nI (j + 1)))], [], zh, 198, sl) = some R := hh
      rw [ePos]
      exact ⟨n, hh⟩
    have hh : pm_run PT n fr lo 100 (71, [some (.ref 0), some (.int v1), some (.int (nI j)), some (.int 0), some (.int (nI (yPos f (min n0 60) j))), some (.int (nI j))], [.int (cond zb 1 0)], zh, 198, sl) = some R := hh
    obtain ⟨n, hh⟩ := rn_if (cc := .eq) (off := 9) (t := 80) rfl rfl hh
    cases zb with
    | true =>
      rw [show pm_cmp .eq (cond true 1 0 : Int32) 0 = false by decide] at hh
      have hh : pm_run PT n fr lo 100 (74, [some (.ref 0), some (.int v1), some (.int (nI j)), some (.int 0), some (.int (nI (yPos f (min n0 60) j))), some (.int (nI j))], [], zh, 198, sl) = some R := hh
      obtain ⟨n, hh⟩ := en_inc (x := j) (c := 1) (j := 2) rfl rfl (by decide) hh
      obtain ⟨n, hh⟩ := rn_i rfl rfl rfl rfl hh
      have hh : pm_run PT n fr lo 100 (82, [some (.ref 0), some (.int v1), some (.int (nI (j + 1))), some (.int 0), some (.int (nI (yPos f (min n0 60) j))), some (.int (nI j))], [], zh, 198, sl) = some R := hh
      obtain ⟨n, hh⟩ := sgn n _ _ hh
      exact yl_loop hn ok hend k (j + 1) n zh (by omega) c2 na2 e11b efb hh
    | false =>
      rw [show pm_cmp .eq (cond false 1 0 : Int32) 0 = true by decide] at hh
      have hh : pm_run PT n fr lo 100 (80, [some (.ref 0), some (.int v1), some (.int (nI j)), some (.int 0), some (.int (nI (yPos f (min n0 60) j))), some (.int (nI j))], [], zh, 198, sl) = some R := hh
      obtain ⟨n, hh⟩ := rn_i rfl rfl rfl rfl hh
      obtain ⟨n, hh⟩ := rn_i rfl rfl rfl rfl hh
      have hh : pm_run PT n fr lo 100 (82, [some (.ref 0), some (.int v1), some (.int (nI j)), some (.int 1), some (.int (nI (yPos f (min n0 60) j))), some (.int (nI j))], [], zh, 198, sl) = some R := hh
      obtain ⟨n, hh⟩ := sgn n _ _ hh
      obtain ⟨n, hh⟩ := rn_i rfl rfl rfl rfl hh
      obtain ⟨n, hh⟩ := rn_i rfl rfl rfl rfl hh
      obtain ⟨n, hh⟩ := rn_icmp (cc := .ge) (off := 61) (t := 107) rfl rfl hh
      rw [show pm_cmp .ge (nI (j + 1)) (Int8.ofInt 60).toInt32 = decide (60 ≤ j + 1) from hI_ge (b := 60) (by omega) (by omega), decide_eq_false (by omega)] at hh
      have hh : pm_run PT n fr lo 100 (49, [some (.ref 0), some (.int v1), some (.int (nI j)), some (.int 1), some (.int (nI (yPos f (min n0 60) (j + 1)))), some (.int (nI (j + 1)))], [], zh, 198, sl) = some R := hh
      obtain ⟨n, hh⟩ := rn_i rfl rfl rfl rfl hh
      obtain ⟨n, hh⟩ := rn_i rfl rfl rfl rfl hh
      have hh : pm_run PT n fr lo 100 (52, [some (.ref 0), some (.int v1), some (.int (nI j)), some (.int 1), some (.int (nI (yPos f (min n0 60) (j + 1)))), some (.int (nI (j + 1)))], [.ref 0, .int (nI (yPos f (min n0 60) (j + 1)))], zh, 198, sl) = some R := hh
      obtain ⟨n, hh⟩ := rn_gr c2.wt rfl rfl (by decide) rfl (by decide) (show _ = some (2, ((1 : Nat) : Int), 1) from rfl) rfl hh
      obtain ⟨n, hh⟩ := rn_gi (x := nI n0) c2.wt rfl rfl (by decide) rfl (by decide) rfl e11b hh
      obtain ⟨n, hh⟩ := rn_icmp (cc := .ge) (off := 49) (t := 107) rfl rfl hh
      cases ec : pm_cmp .ge (nI (yPos f (min n0 60) (j + 1))) (nI n0) with
      | true =>
        rw [ec] at hh
        exact ⟨n, _, _, _, hh⟩
      | false =>
        rw [ec] at hh
        have hh : pm_run PT n fr lo 100 (61, [some (.ref 0), some (.int v1), some (.int (nI j)), some (.int 1), some (.int (nI (yPos f (min n0 60) (j + 1)))), some (.int (nI (j + 1)))], [], zh, 198, sl) = some R := hh
        obtain ⟨n, hh⟩ := rn_i rfl rfl rfl rfl hh
        obtain ⟨n, hh⟩ := rn_if (cc := .ne) (off := 45) (t := 107) rfl rfl hh
        rw [show pm_cmp .ne (1 : Int32) 0 = true by decide] at hh
        exact ⟨n, _, _, _, hh⟩
end YRL
