/-! year: SR is kept, both sides answer alike -/
section YRE
variable {n fr lo sl n0 cc gc k t c u fi si : Nat} {q : QT} {h h1 h2 H X M X1 M1 : pm_H} {v w : Int32} {f g : Nat → Int32} {R : pm_Rs} {W : List Nat} {V : List (Nat × Nat)}
/-- both readers see the same signs -/
theorem cg_L (e : ∀ j, j < t → f j = g j) (p : Nat) : yL f t p = yL g t p := by
  unfold yL
  by_cases y : p < t
  · rw [if_pos y, if_pos y, e p y]
  · rw [if_neg y, if_neg y]
theorem cg_B (e : ∀ j, j < t → f j = g j) (p j : Nat) : yB f t p j = yB g t p j := by
  unfold yB
  rw [dg_cg e (p + j)]
  cases z : dg g (p + j) t with
  | false => rfl
  | true => rw [e (p + j) (dg_lt z)]
theorem cg_D (e : ∀ j, j < t → f j = g j) (p : Nat) : ∀ k j, yD f t p k j = yD g t p k j
  | 0, _ => rfl
  | k + 1, j => by
    show cond (yB f t p j) (yD f t p k (j + 1)) j = cond (yB g t p j) (yD g t p k (j + 1)) j
    rw [cg_B e p j, cg_D e p k (j + 1)]
theorem cg_A (e : ∀ j, j < t → f j = g j) (p : Nat) : yA f t p = yA g t p := by
  unfold yA
  rw [cg_L e p]
  cases yL g t p with
  | none => rfl
  | some kd =>
    show (decide (yD f t p (yS kd - 1) 1 = yS kd), p + yD f t p (yS kd - 1) 1) = (decide (yD g t p (yS kd - 1) 1 = yS kd), p + yD g t p (yS kd - 1) 1)
    rw [cg_D e p]
theorem cg_R (e : ∀ j, j < t → f j = g j) : ∀ k p, yR f t k p = yR g t k p
  | 0, _ => rfl
  | k + 1, p => by
    have e1 : yR f t (k + 1) p = if p < t then (cond (yA f t p).1 (yR f t k (yA f t p).2) (yA f t p)) else (true, p) := rfl
    have e2 : yR g t (k + 1) p = if p < t then (cond (yA g t p).1 (yR g t k (yA g t p).2) (yA g t p)) else (true, p) := rfl
    rw [e1, e2, cg_A e p, cg_R e k]
theorem cg_P (e : ∀ j, j < t → f j = g j) : ∀ j, yPos f t j = yPos g t j
  | 0 => rfl
  | j + 1 => by
    show (yA f t (yPos f t j)).2 = (yA g t (yPos g t j)).2
    rw [cg_P e j, cg_A e]
theorem cg_K (e : ∀ j, j < t → f j = g j) (j : Nat) : yKd f t j = yKd g t j := by
  unfold yKd
  rw [cg_P e j, cg_L e]
theorem cg_ok (e : ∀ j, j < t → f j = g j) (z : yOk f t c) : yOk g t c := by
  intro j hj
  have y := z j hj
  rw [cg_P e j, cg_L e, cg_A e] at y
  exact y
theorem cg_told (e : ∀ j, j < t → f j = g j) (ok : yOk f t c) (z : yTold h f t c) : yTold h g t c := by
  intro j hj
  obtain ⟨⟨kd, eL⟩, oA⟩ := ok j hj
  obtain ⟨k4, -, -, d1, d2, d3⟩ := y_act eL oA
  have hk : yKd f t j = kd := by
    unfold yKd
    rw [eL]
    rfl
  obtain ⟨z1, z2, z3, z4⟩ := z j hj
  have hk2 : yKd g t j = kd := (cg_K e j).symm.trans hk
  have a1 : f (yPos f t j + 1) = g (yPos f t j + 1) := e _ (dg_lt d1)
  rw [hk] at z1 z3 z4
  rw [hk2, ← cg_P e j]
  refine ⟨z1, ?_, fun y => ?_, fun y => ?_⟩
  · rw [z2]
    unfold yd
    rw [a1]
  · rw [z3 y]
    unfold yd
    rw [e _ (dg_lt (d2 y))]
  · rw [z4 y, e _ (dg_lt (d3 y))]
/-- the class's end of a year -/
def yEnd (q : QT) (cc gc : Nat) (h : pm_H) (fi si k : Nat) (A B : Int64) : pm_H := v56 q cc gc (cond (decide (k ≤ 0)) (fset h 1 1 (.int (nI 0))) (v17 q cc gc (fset h 1 1 (.int (nI 0))) fi si)) A B
theorem v100e_is {a s p i : Int32} : ∃ A B, v100e q cc gc h fi si a k s p i = (nI k, yEnd q cc gc h fi si k A B) := by
  unfold v100e yEnd
  cases decide (k ≤ 0) with
  | true =>
    rw [cond_true, cond_true]
    cases pm_cmp .eq s 0 with
    | true =>
      rw [cond_true]
      exact ⟨_, _, rfl⟩
    | false =>
      rw [cond_false]
      exact ⟨_, _, rfl⟩
  | false =>
    rw [cond_false, cond_false]
    cases pm_cmp .eq s 0 with
    | true =>
      rw [cond_true]
      exact ⟨_, _, rfl⟩
    | false =>
      rw [cond_false]
      exact ⟨_, _, rfl⟩
/-- what stands before the reference's 'adds' -/
def yMid (q : QT) (cc gc : Nat) (h : pm_H) (A B : Int64) : pm_H := v167 q cc gc (v167 q cc gc (fset h 162 1 (.int (nI 0))) A) B
theorem v228e_is {a b d : Int32} : ∃ A B, v228e q cc gc h c u a b d k = cond (decide (k ≤ 0)) (nI 0, yMid q cc gc h A B) ((v212 q cc gc (yMid q cc gc h A B) u (nI k)).1, (v212 q cc gc (yMid q cc gc h A B) u (nI k)).2) := ⟨_, _, rfl⟩
theorem v212_1 : (v212 q cc gc h u v).1 = v := by
  unfold v212
  cases decide (u + 1 ≤ 15) <;> rfl
/-- the class's year -/
theorem yc_run (hn : n0 ≤ 80) (hc : HC q cc gc h) (t1 : Fi h 1 1 = nI n0) (na : NA h 17 0 8 6) (hfi : fi < 16) (hsi : si ≤ 15) (e1 : Fi h 25 1 = nI fi) (e2 : Fi h 25 2 = nI si) (hh : pm_run PT n fr lo 100 (0, pm_l0 [.ref 0] 6, [], h, 198, sl) = some R) : (yGood n0 (yR (Ar h 2) (min n0 60) 61 0) = false ∧ R = (some (.int (Int32.ofInt (-1) - nI (yR (Ar h 2) (min n0 60) 61 0).2)), fset h 1 1 (.int (nI 0)), 198, sl)) ∨ (yGood n0 (yR (Ar h 2) (min n0 60) 61 0) = true ∧ ∀ c, yOk (Ar h 2) (min n0 60) c → yPos (Ar h 2) (min n0 60) c = n0 → ∃ A B, R = (some (.int (nI (yG (yXj q cc gc (Ar h 2) (min n0 60)) c 0 (v16 q cc gc h fi si)).1)), yEnd q cc gc (yG (yXj q cc gc (Ar h 2) (min n0 60)) c 0 (v16 q cc gc h fi si)).2 fi si (yG (yXj q cc gc (Ar h 2) (min n0 60)) c 0 (v16 q cc gc h fi si)).1 A B, 198, sl)) := by
  have px := pX_hc hc t1
  obtain ⟨n, hh⟩ := rn_i rfl rfl rfl rfl hh
  have hh : pm_run PT n fr lo 100 (1, [some (.ref 0), none, none, none, none, none], [.ref 0], h, 198, sl) = some R := hh
  obtain ⟨n, fr', lo', r1, hr1, hh⟩ := rn_call (w := 0) (t := 134) rfl rfl hh
  have er := yf_run hn hc px hr1
  subst er
  have hr := yR_le (f := Ar h 2) (t := min n0 60) 61 0 (Nat.zero_le _)
  generalize yR (Ar h 2) (min n0 60) 61 0 = r at *
  obtain ⟨rb, rp⟩ := r
  unfold yO at hh
  unfold yGood
  dsimp only at hh hr ⊢
  have hh : pm_run PT n fr lo 100 (4, [some (.ref 0), none, none, none, none, none], [.int (cond (rb && decide (rp = n0)) (Int32.ofInt (-1)) (nI rp))], h, 198, sl) = some R := hh
  obtain ⟨n, hh⟩ := rn_i rfl rfl rfl rfl hh
  obtain ⟨n, hh⟩ := rn_i rfl rfl rfl rfl hh
  have hh : pm_run PT n fr lo 100 (6, [some (.ref 0), some (.int (cond (rb && decide (rp = n0)) (Int32.ofInt (-1)) (nI rp))), none, none, none, none], [.int (cond (rb && decide (rp = n0)) (Int32.ofInt (-1)) (nI rp))], h, 198, sl) = some R := hh
  obtain ⟨n, hh⟩ := rn_if (cc := .lt) (off := 15) (t := 21) rfl rfl hh
  cases y : rb && decide (rp = n0) with
  | false =>
    rw [y, cond_false, show pm_cmp .lt (nI rp) 0 = false from lt0_val (by rw [nI_toInt (by omega)]; omega)] at hh
    have hh : pm_run PT n fr lo 100 (9, [some (.ref 0), some (.int (nI rp)), none, none, none, none], [], h, 198, sl) = some R := hh
    obtain ⟨n, hh⟩ := rn_i rfl rfl rfl rfl hh
    have hh : pm_run PT n fr lo 100 (10, [some (.ref 0), some (.int (nI rp)), none, none, none, none], [.ref 0], h, 198, sl) = some R := hh
    obtain ⟨n, hh⟩ := rn_gr hc.wt rfl rfl (by decide) rfl (by decide) (show _ = some (2, ((1 : Nat) : Int), 1) from rfl) rfl hh
    obtain ⟨n, hh⟩ := rn_i rfl rfl rfl rfl hh
    have hh : pm_run PT n fr lo 100 (14, [some (.ref 0), some (.int (nI rp)), none, none, none, none], [.int (nI 0), .ref 1], h, 198, sl) = some R := hh
    obtain ⟨n, hh⟩ := rn_pi hc.wt rfl rfl (by decide) rfl (by decide) rfl hh
    obtain ⟨n, hh⟩ := rn_i rfl rfl rfl rfl hh
    obtain ⟨n, hh⟩ := rn_i rfl rfl rfl rfl hh
    obtain ⟨n, hh⟩ := rn_i rfl rfl rfl rfl hh
    have hh : pm_run PT n fr lo 100 (20, [some (.ref 0), some (.int (nI rp)), none, none, none, none], [.int (Int32.ofInt (-1) - nI rp)], fset h 1 1 (.int (nI 0)), 198, sl) = some R := hh
    exact Or.inl ⟨rfl, (rn_ret rfl (Or.inl rfl) hh).2⟩
  | true =>
    refine Or.inr ⟨rfl, fun c ok hend => ?_⟩
    rw [y, cond_true, show pm_cmp .lt (Int32.ofInt (-1)) 0 = true by decide] at hh
    have hh : pm_run PT n fr lo 100 (21, [some (.ref 0), some (.int (Int32.ofInt (-1))), none, none, none, none], [], h, 198, sl) = some R := hh
    obtain ⟨n, hh⟩ := rn_i rfl rfl rfl rfl hh
    have hh : pm_run PT n fr lo 100 (22, [some (.ref 0), some (.int (Int32.ofInt (-1))), none, none, none, none], [.ref 0], h, 198, sl) = some R := hh
    obtain ⟨n, hh⟩ := rn_gr hc.wt rfl rfl (by decide) rfl (by decide) (show _ = some (2, ((25 : Nat) : Int), 1) from rfl) rfl hh
    obtain ⟨n, hh⟩ := rn_i rfl rfl rfl rfl hh
    have hh : pm_run PT n fr lo 100 (26, [some (.ref 0), some (.int (Int32.ofInt (-1))), none, none, none, none], [.ref 0, .ref 25], h, 198, sl) = some R := hh
    obtain ⟨n, hh⟩ := rn_gr hc.wt rfl rfl (by decide) rfl (by decide) (show _ = some (2, ((13 : Nat) : Int), 1) from rfl) rfl hh
    have hh : pm_run PT n fr lo 100 (29, [some (.ref 0), some (.int (Int32.ofInt (-1))), none, none, none, none], [.ref 13, .ref 25], h, 198, sl) = some R := hh
    obtain ⟨n, fr', lo', r1, hr1, hh⟩ := rn_call (w := 0) (t := 16) rfl rfl hh
    obtain ⟨er, c0, f0⟩ := v16_ok hc hfi hsi e1 e2 hr1
    subst er
    have g1 : v16 q cc gc h fi si 1 = h 1 := f0.1 1 rfl
    have g2 : v16 q cc gc h fi si 2 = h 2 := f0.1 2 rfl
    have g17 : v16 q cc gc h fi si 17 = h 17 := f0.1 17 rfl
    have g25 : v16 q cc gc h fi si 25 = h 25 := f0.1 25 rfl
    have hh : pm_run PT n fr lo 100 (32, [some (.ref 0), some (.int (Int32.ofInt (-1))), none, none, none, none], [], v16 q cc gc h fi si, 198, sl) = some R := hh
    generalize v16 q cc gc h fi si = X0 at *
    have hh : pm_run PT n fr lo 100 (32, [some (.ref 0), some (.int (Int32.ofInt (-1))), none, none, none, none], [], X0, 198, sl) = some R := hh
    obtain ⟨n, hh⟩ := rn_i rfl rfl rfl rfl hh
    obtain ⟨n, hh⟩ := rn_i rfl rfl rfl rfl hh
    obtain ⟨n, hh⟩ := rn_i rfl rfl rfl rfl hh
    obtain ⟨n, hh⟩ := rn_i rfl rfl rfl rfl hh
    obtain ⟨n, hh⟩ := rn_i rfl rfl rfl rfl hh
    obtain ⟨n, hh⟩ := rn_i rfl rfl rfl rfl hh
    obtain ⟨n, hh⟩ := rn_i rfl rfl rfl rfl hh
    obtain ⟨n, hh⟩ := rn_i rfl rfl rfl rfl hh
    have hh : pm_run PT n fr lo 100 (42, [some (.ref 0), some (.int (Int32.ofInt (-1))), some (.int (nI 0)), some (.int 0), some (.int (nI (yPos (Ar h 2) (min n0 60) 0))), some (.int (nI 0))], [], X0, 198, sl) = some R := hh
    obtain ⟨m, s, p, i, hm⟩ := yl_loop (q := q) (cc := cc) (gc := gc) hn ok hend c 0 n X0 (Nat.zero_add c) c0 (NA_e (Ar_e g17) na) ((Fi_e g1).trans t1) (Ar_e g2) hh
    obtain ⟨cX, fX⟩ := yGX_fr (f := Ar h 2) (t := min n0 60) c 0 X0 c0
    have hk := yG_le (yXj q cc gc (Ar h 2) (min n0 60)) c 0 X0
    have hle := yPos_le c ok
    have x25 : (yG (yXj q cc gc (Ar h 2) (min n0 60)) c 0 X0).2 25 = h 25 := (fX.1 25 rfl).trans g25
    generalize yG (yXj q cc gc (Ar h 2) (min n0 60)) c 0 X0 = z at *
    obtain ⟨kk, Xe⟩ := z
    dsimp only at hm cX fX hk x25 ⊢
    obtain ⟨er, -, -⟩ := v100e_ok cX (by omega) hfi hsi ((Fi_e x25).trans e1) ((Fi_e x25).trans e2) hm
    obtain ⟨A, B, eE⟩ := v100e_is (q := q) (cc := cc) (gc := gc) (h := Xe) (fi := fi) (si := si) (k := kk) (a := Int32.ofInt (-1)) (s := s) (p := p) (i := i)
    rw [eE] at er
    exact ⟨A, B, er⟩
end YRE
