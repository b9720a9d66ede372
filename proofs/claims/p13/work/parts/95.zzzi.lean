/-! year: one act of both sides; all acts -/
section YRS
variable {n fr lo sl n0 cc gc a b k kd t : Nat} {q : QT} {h h1 h2 X M : pm_H} {d : Int32} {R : pm_Rs} {f : Nat → Int32}
/-- an act of the class -/
def yX (q : QT) (cc gc : Nat) (h : pm_H) (kd a b : Nat) (d : Int32) : Bool × pm_H := if kd = 0 then v142 q cc gc h a b else if kd = 1 then (true, v140 q cc gc h a) else if kd = 2 then v143 q cc gc h a b else if kd = 3 then v144 q cc gc h a b d else v144 q cc gc h a b (-d)
/-- an act of the reference -/
def yM (q : QT) (cc gc : Nat) (h : pm_H) (k kd a b : Nat) : Bool × pm_H := if kd = 1 then v227m q cc gc h k a else v227 q cc gc h k kd a b
def yWX : List Nat := [12, 13, 14, 15, 16, 17, 18, 142, 144, 145, 147]
def yVX : List (Nat × Nat) := [(13, 5), (13, 6), (142, 3), (145, 3)]
def yWM : List Nat := [162, 170, 176, 177]
def yVM : List (Nat × Nat) := [(162, 29), (162, 30)]
theorem yX_fr (hc : HC q cc gc h) : HC q cc gc (yX q cc gc h kd a b d).2 ∧ frm yWX yVX h (yX q cc gc h kd a b d).2 := by
  unfold yX
  split
  · obtain ⟨x, y⟩ := v142_fr (g := a) (c := b) hc
    exact ⟨x, fr_g rfl rfl y fr_0⟩
  · split
    · obtain ⟨x, y⟩ := v140_fr (m := a) hc
      exact ⟨x, fr_g rfl rfl y fr_0⟩
    · split
      · obtain ⟨x, y⟩ := v143_fr (a := a) (b := b) hc
        exact ⟨x, fr_g rfl rfl y fr_0⟩
      · split
        · obtain ⟨x, y⟩ := v144_fr (a := a) (b := b) (m := d) hc
          exact ⟨x, fr_g rfl rfl y fr_0⟩
        · obtain ⟨x, y⟩ := v144_fr (a := a) (b := b) (m := -d) hc
          exact ⟨x, fr_g rfl rfl y fr_0⟩
theorem VE_mk (z : VE q cc gc X M) {X' M' : pm_H} (c1 : HC q cc gc X') (c2 : HC q cc gc M') (f1 : frm yWX yVX X X') (f2 : frm yWM yVM M M') (s : RS cc gc (Ar X' 14) (Ar X' 15) (Ar X' 16) (Ar X' 17) (Ar X' 18) (Fi X' 13 5) (Fi X' 13 6) (Ar M' 170)) (r : RI cc gc (Ar M' 170)) : VE q cc gc X' M' := by
  obtain ⟨⟨z1, z2⟩, z3, z4, -, -⟩ := z
  have eq1 : Ar X' (q.1 + 1) = Ar X (q.1 + 1) := by
    rcases z1.qq with e | e
    · rw [e]
      exact Ar_e (f1.1 143 rfl)
    · rw [e]
      exact Ar_e (f1.1 146 rfl)
  refine ⟨⟨c1, c2⟩, ?_, ?_, s, r⟩
  · rw [eq1, Ar_e (f2.1 174 rfl)]
    exact z3
  · unfold RMm
    rw [Ar_e (f1.1 6 rfl), Ar_e (f1.1 7 rfl), Ar_e (f1.1 9 rfl), Ar_e (f1.1 10 rfl), Ar_e (f1.1 11 rfl), Ar_e (f2.1 164 rfl), Ar_e (f2.1 165 rfl), Ar_e (f2.1 166 rfl), Ar_e (f2.1 167 rfl), Ar_e (f2.1 168 rfl)]
    exact z4
theorem lt_tt {x : Int32} (e : 0 ≤ x.toInt) : pm_cmp .lt x 0 = false := lt0_val e
/-- send -/
theorem ys_send (z : VE q cc gc X M) (g c : Nat) : (v142 q cc gc X g c).1 = (cond (pm_cmp .lt (v217 q cc gc M g c).1 0) false true) ∧ VE q cc gc (v142 q cc gc X g c).2 (v217 q cc gc M g c).2 := by
  obtain ⟨⟨c1, c2⟩, z3, z4, z5, z6⟩ := id z
  have h6 := c1.cb
  have h8 := c1.gb
  have lt1 : pm_cmp .lt (Int32.ofInt (-1)) 0 = true := by decide
  have no : (v136 q cc gc (Ar X 17) g c = Int32.ofInt (-1) ∨ v136 q cc gc (Ar X 17) g c = Int32.ofInt (-2)) → v142 q cc gc X g c = (false, X) := by
    intro e
    unfold v142
    rcases e with e | e
    · rw [e, n1_ge]
      rfl
    · rw [e, n2_ge]
      rfl
  by_cases hg : g < gc
  · by_cases hc : c < cc
    · obtain ⟨F, hF, eF⟩ := z6.2.2.2.1 g hg
      have eX : Ar X 17 g = nI F := (z5.2.2.2.1 g hg).trans eF
      by_cases hn : F = c
      · subst hn
        have ev : v136 q cc gc (Ar X 17) g F = Int32.ofInt (-2) := by
          unfold v136
          rw [decide_eq_true hg, decide_eq_true hc, eX, ne_ff]
          rfl
        have e217 : v217 q cc gc M g F = (Int32.ofInt (-2), M) := by
          unfold v217
          rw [decide_eq_true hg, decide_eq_true hc, eF, nI_clamp (by omega), decide_eq_false (fun z : ¬ F = F => z rfl)]
          rfl
        rw [no (Or.inr ev), e217]
        dsimp only
        rw [n2_lt]
        exact ⟨rfl, z⟩
      · have ev : v136 q cc gc (Ar X 17) g c = nI 0 := by
          unfold v136
          rw [decide_eq_true hg, decide_eq_true hc, eX, ne_tt (fun y => hn (nI_ij (by omega) (by omega) y))]
          rfl
        have e142 : v142 q cc gc X g c = (true, v40 q cc gc (v39 q cc gc X g c).2 g c (v39 q cc gc X g c).1) := by
          unfold v142
          rw [ev, z0_ge]
          rfl
        obtain ⟨c39, f39⟩ := v39_fr (g := g) (c := c) c1
        obtain ⟨c40, f40⟩ := v40_fr (g := g) (c := c) (v := (v39 q cc gc X g c).1) c39
        have hV := VE_val z hg hc
        have ea : ∀ a, (List.elem a [12, 142, 144, 145, 147]) = false → Ar (v39 q cc gc X g c).2 a = Ar X a := fun a e => Ar_e (f39.1 a e)
        have ef : ∀ k, Fi (v39 q cc gc X g c).2 13 k = Fi X 13 k := fun k => Fi_e (f39.1 13 rfl)
        have r5 : RS cc gc (Ar (v39 q cc gc X g c).2 14) (Ar (v39 q cc gc X g c).2 15) (Ar (v39 q cc gc X g c).2 16) (Ar (v39 q cc gc X g c).2 17) (Ar (v39 q cc gc X g c).2 18) (Fi (v39 q cc gc X g c).2 13 5) (Fi (v39 q cc gc X g c).2 13 6) (Ar M 170) := by
          rw [ea 14 rfl, ea 15 rfl, ea 16 rfl, ea 17 rfl, ea 18 rfl, ef, ef]
          exact z5
        obtain ⟨n1, n2, n3, n4⟩ := send_rel c39 r5 z6 hV hg hc hF eF hn
        obtain ⟨cM, fM⟩ := v217_fr (g := g) (c := c) c2
        rw [e142, lt_tt n4]
        refine ⟨rfl, VE_mk z c40 cM (fr_g rfl rfl f40 (fr_g rfl rfl f39 fr_0)) (fr_g rfl rfl fM fr_0) ?_ n2⟩
        show RS cc gc (Ar (v40 q cc gc (v39 q cc gc X g c).2 g c (v39 q cc gc X g c).1) 14) _ _ _ _ (Fi (v40 q cc gc (v39 q cc gc X g c).2 g c (v39 q cc gc X g c).1) 13 5) (Fi (v40 q cc gc (v39 q cc gc X g c).2 g c (v39 q cc gc X g c).1) 13 6) _
        rw [Ar_e (f40.1 14 rfl), Fi_e (f40.1 13 rfl), Fi_e (f40.1 13 rfl)]
        exact n1
    · have ev : v136 q cc gc (Ar X 17) g c = Int32.ofInt (-1) := by
        unfold v136
        rw [decide_eq_true hg, decide_eq_false hc]
        rfl
      have e217 : v217 q cc gc M g c = (Int32.ofInt (-1), M) := by
        unfold v217
        rw [decide_eq_true hg, decide_eq_false hc]
        rfl
      rw [no (Or.inl ev), e217]
      dsimp only
      rw [lt1]
      exact ⟨rfl, z⟩
  · have ev : v136 q cc gc (Ar X 17) g c = Int32.ofInt (-1) := by
      unfold v136
      rw [decide_eq_false hg]
      rfl
    have e217 : v217 q cc gc M g c = (Int32.ofInt (-1), M) := by
      unfold v217
      rw [decide_eq_false hg]
      rfl
    rw [no (Or.inl ev), e217]
    dsimp only
    rw [lt1]
    exact ⟨rfl, z⟩
/-- months -/
theorem ys_mon (z : VE q cc gc X M) (m : Nat) : VE q cc gc (v140 q cc gc X m) (lp (fun _ a => v219 q cc gc a) m 0 M) := by
  have j := mon_lp z.1.1 z.1.2 z.2.2.2.1 z.2.2.2.2 z.2.2.1 m
  have j : MJ q cc gc X M (0 + m) (v140 q cc gc X m) (lp (fun _ a => v219 q cc gc a) m 0 M) := j
  obtain ⟨⟨j1, j2⟩, ⟨j3, j4⟩, j5, j6⟩ := j
  exact VE_mk z j1 j2 (fr_g rfl rfl j3 fr_0) (fr_g rfl rfl j4 fr_0) j5 j6
theorem cB_lt (ha : a < 10) (e : cB cc (nI a) = true) : a < cc := by
  rw [cB_n (by omega)] at e
  exact of_decide_eq_true e
/-- forgive -/
theorem ys_fgv (z : VE q cc gc X M) (ha : a < 10) (hb : b < 10) : (v143 q cc gc X a b).1 = (cond (pm_cmp .lt (v221 q cc gc M a b).1 0) false true) ∧ VE q cc gc (v143 q cc gc X a b).2 (v221 q cc gc M a b).2 := by
  obtain ⟨⟨c1, c2⟩, z3, z4, z5, z6⟩ := id z
  have h6 := c1.cb
  have lt1 : pm_cmp .lt (Int32.ofInt (-1)) 0 = true := by decide
  cases zp : pP cc (nI a) (nI b) with
  | false =>
    have e1 : v143 q cc gc X a b = (false, X) := by
      unfold v143 v139
      rw [zp, show (cond false (cond (pm_cmp .ne (Ar X 16 (a * 6 + b)) 0) (nI 0) (Int32.ofInt (-2))) (Int32.ofInt (-1))) = Int32.ofInt (-1) from rfl, n1_ge]
      rfl
    have e2 : v221 q cc gc M a b = (Int32.ofInt (-1), M) := by
      unfold v221
      rw [zp]
      rfl
    rw [e1, e2]
    dsimp only
    rw [lt1]
    exact ⟨rfl, z⟩
  | true =>
    have hab : a < cc ∧ b < cc := by
      unfold pP at zp
      rw [Bool.and_eq_true, Bool.and_eq_true] at zp
      exact ⟨cB_lt ha zp.1, cB_lt hb zp.2.1⟩
    have e16 : Ar X 16 (a * 6 + b) = Ar M 170 (42 + 6 * a + b) := z5.2.2.1 a b (by omega) (by omega)
    obtain ⟨n1, n2⟩ := fgv_rel c1.cb c1.gb z5 z6 hab.1 hab.2
    have cX : HC q cc gc (aset X 16 36 (upd (Ar X 16) (a * 6 + b) (nI 0))) := hc_a rfl rfl c1
    have cM : HC q cc gc (aset M 170 96 (upd (Ar M 170) (42 + 6 * a + b) (nI 0))) := hc_a rfl rfl c2
    have e2 : v221 q cc gc M a b = (cond (pm_cmp .ne (Ar M 170 (42 + 6 * a + b)) 0) (Ar M 170 (42 + 6 * a + b)) (Int32.ofInt (-2)), aset M 170 96 (upd (Ar M 170) (42 + 6 * a + b) (nI 0))) := by
      unfold v221
      rw [zp]
      rfl
    cases zm : pm_cmp .ne (Ar X 16 (a * 6 + b)) 0 with
    | false =>
      have z0 : Ar X 16 (a * 6 + b) = nI 0 := by
        have z : ¬ (Ar X 16 (a * 6 + b) ≠ 0) := of_decide_eq_false zm
        exact Decidable.not_not.mp z
      have e1 : v143 q cc gc X a b = (false, X) := by
        unfold v143 v139
        rw [zp, zm, show (cond true (cond false (nI 0) (Int32.ofInt (-2))) (Int32.ofInt (-1))) = Int32.ofInt (-2) from rfl, n2_ge]
        rfl
      rw [e1, e2, ← e16, zm]
      dsimp only [cond]
      rw [n2_lt]
      refine ⟨rfl, VE_mk z c1 cM fr_0 (fr_a rfl rfl fr_0) ?_ ?_⟩
      · rw [Ar_s, up_id (e16.symm.trans z0)]
        exact z5
      · rw [Ar_s, up_id (e16.symm.trans z0)]
        exact z6
    | true =>
      have e1 : v143 q cc gc X a b = (true, aset X 16 36 (upd (Ar X 16) (a * 6 + b) (nI 0))) := by
        unfold v143 v139
        rw [zp, zm, show (cond true (cond true (nI 0) (Int32.ofInt (-2))) (Int32.ofInt (-1))) = nI 0 from rfl, z0_ge]
        rfl
      have i16 := (z6.2.2.1 a b (by omega) (by omega)).1.1
      rw [e1, e2, ← e16, zm]
      dsimp only [cond]
      rw [lt_tt (by rw [e16]; exact i16)]
      refine ⟨rfl, VE_mk z cX cM (fr_a rfl rfl fr_0) (fr_a rfl rfl fr_0) ?_ ?_⟩
      · rw [Ar_s, Ar_s, Ar_n (by decide), Ar_n (by decide), Ar_n (by decide), Ar_n (by decide), Fi_a (by decide), Fi_a (by decide)]
        exact n1
      · rw [Ar_s]
        exact n2
/-- envoy -/
theorem ys_env (z : VE q cc gc X M) (ha : a < 10) (hb : b < 10) (m : Int32) : (v144 q cc gc X a b m).1 = (cond (pm_cmp .lt (v220 q cc gc M a b m).1 0) false true) ∧ VE q cc gc (v144 q cc gc X a b m).2 (v220 q cc gc M a b m).2 := by
  obtain ⟨⟨c1, c2⟩, z3, z4, z5, z6⟩ := id z
  have h6 := c1.cb
  have lt1 : pm_cmp .lt (Int32.ofInt (-1)) 0 = true := by decide
  have bad : v137 q cc gc a b m = true → v220 q cc gc M a b m = (Int32.ofInt (-1), M) → (v144 q cc gc X a b m).1 = (cond (pm_cmp .lt (v220 q cc gc M a b m).1 0) false true) ∧ VE q cc gc (v144 q cc gc X a b m).2 (v220 q cc gc M a b m).2 := by
    intro e1 e2
    have e3 : v144 q cc gc X a b m = (false, X) := by
      unfold v144
      rw [e1]
      rfl
    rw [e2, e3]
    dsimp only
    rw [lt1]
    exact ⟨rfl, z⟩
  cases zp : pP cc (nI a) (nI b) with
  | false =>
    refine bad ?_ ?_
    · unfold v137
      rw [zp]
      rfl
    · unfold v220
      rw [zp]
      rfl
  | true =>
    have ei := env_in (q := q) (gc := gc) (m := m) zp
    cases zi : in_b m.toInt64 (-9 : Int64) (9 : Int64) && pm_cmp .ne m 0 with
    | false =>
      rw [zi] at ei
      refine bad ei ?_
      unfold v220
      rw [zp]
      cases y1 : in_b m.toInt64 (-9 : Int64) (9 : Int64) with
      | false => rfl
      | true =>
        rw [y1, Bool.true_and] at zi
        rw [zi]
        rfl
    | true =>
      rw [zi] at ei
      rw [Bool.and_eq_true] at zi
      have hab : a < cc ∧ b < cc ∧ a ≠ b := by
        unfold pP at zp
        rw [Bool.and_eq_true, Bool.and_eq_true] at zp
        refine ⟨cB_lt ha zp.1, cB_lt hb zp.2.1, fun e => ?_⟩
        have y := zp.2.2
        rw [e, decide_eq_true rfl] at y
        cases y
      obtain ⟨n1, n2⟩ := env_rel (y := m) c1.cb c1.gb z5 z6 hab.1 hab.2.1 hab.2.2
      have e3 : v144 q cc gc X a b m = (true, v138 q cc gc X a b m) := by
        unfold v144
        rw [ei]
        rfl
      have e4 : v138 q cc gc X a b m = aset X 15 36 (upd (Ar X 15) (a * 6 + b) (imax (nI 0) (imin (nI 20) (Ar X 15 (a * 6 + b) + m)))) := rfl
      have e5 : v220 q cc gc M a b m = (imax (nI 0) (imin (nI 20) (Ar M 170 (6 + 6 * a + b) + m)), aset M 170 96 (upd (Ar M 170) (6 + 6 * a + b) (imax (nI 0) (imin (nI 20) (Ar M 170 (6 + 6 * a + b) + m))))) := by
        unfold v220
        rw [zp, zi.1, zi.2]
        show (upd (Ar M 170) (6 + 6 * a + b) (imax (nI 0) (imin (nI 20) (Ar M 170 (6 + 6 * a + b) + m))) (6 + 6 * a + b), _) = _
        rw [up_e rfl]
      rw [e3, e4, e5]
      dsimp only
      rw [lt_tt (clamp_i (by decide)).1]
      have cX : HC q cc gc (aset X 15 36 (upd (Ar X 15) (a * 6 + b) (imax (nI 0) (imin (nI 20) (Ar X 15 (a * 6 + b) + m))))) := hc_a rfl rfl c1
      have cM : HC q cc gc (aset M 170 96 (upd (Ar M 170) (6 + 6 * a + b) (imax (nI 0) (imin (nI 20) (Ar M 170 (6 + 6 * a + b) + m))))) := hc_a rfl rfl c2
      refine ⟨rfl, VE_mk z cX cM (fr_a rfl rfl fr_0) (fr_a rfl rfl fr_0) ?_ ?_⟩
      · rw [Ar_s, Ar_s, Ar_n (by decide), Ar_n (by decide), Ar_n (by decide), Ar_n (by decide), Fi_a (by decide), Fi_a (by decide)]
        exact n1
      · rw [Ar_s]
        exact n2
/-- one act of both -/
theorem y_step (z : VE q cc gc X M) (ha : a < 10) (hb : b < 10) (hk : kd ≤ 4) (e1 : 3 ≤ kd → Ar M 182 k = d) : (yX q cc gc X kd a b d).1 = (yM q cc gc M k kd a b).1 ∧ VE q cc gc (yX q cc gc X kd a b d).2 (yM q cc gc M k kd a b).2 := by
  rcases (by omega : kd = 0 ∨ kd = 1 ∨ kd = 2 ∨ kd = 3 ∨ kd = 4) with rfl | rfl | rfl | rfl | rfl
  · exact ys_send z a b
  · exact ⟨rfl, ys_mon z a⟩
  · exact ys_fgv z ha hb
  · have e := e1 (by decide)
    have y := ys_env z ha hb d
    rw [← e] at y
    rw [← e]
    exact y
  · have e := e1 (by decide)
    have y := ys_env z ha hb (-d)
    rw [← e] at y
    rw [← e]
    exact y
theorem yM_fr (hc : HC q cc gc h) (h1 : Ar h 179 k = nI kd) (h2 : Ar h 180 k = nI a) (h3 : kd ≠ 1 → Ar h 181 k = nI b) (hk : kd < 10) (ha : a < 10) (hb : b < 10) : HC q cc gc (yM q cc gc h k kd a b).2 ∧ frm yWM yVM h (yM q cc gc h k kd a b).2 := by
  unfold yM
  by_cases e : kd = 1
  · rw [if_pos e]
    subst e
    obtain ⟨x, y⟩ := v227m_fr (k := k) (a := a) hc h1 h2 ha
    exact ⟨x, fr_g rfl rfl y fr_0⟩
  · rw [if_neg e]
    exact v227_fr (k := k) (kd := kd) (a := a) (b := b) hc h1 h2 (h3 e) hk ha hb
end YRS
