/-! what is kept beside mInv: how much was heard -/
section REL
variable {P : pm_St → Prop} {sl bS Ln i pc : Nat} {xs : Nat → Int32} {L : pm_L} {h h1 : pm_H}
/-- the fields of which the relation speaks: Clues.size, heardMany -/
def sP (ci f : Nat) : Bool := (Nat.beq ci 0 && Nat.beq f 0) || (Nat.beq ci 11 && Nat.beq f 47)
def sfN : List Nat := [0, 1, 118, 119, 251, 252]
def sfI : List Nat := [6, 10, 13, 15, 17, 20, 22, 26, 39, 42, 62, 73, 78, 84, 85, 150, 161]
def cl_F (h : pm_H) (v : Value) : Prop := ∃ fs, h 159 = .inr (0, fs) ∧ fs[0]? = some v
def REL (h : pm_H) : Prop := ∃ c : Nat, c ≤ 12 ∧ cl_F h (.int (nI c)) ∧ mF h 47 (.int (nI c))
def LI (h : pm_H) : Prop := mInv h ∧ REL h
theorem REL_fm (q : fm (sfF sP) h h1) (r : REL h) : REL h1 := by
  obtain ⟨c, hc, ⟨fs, e1, e2⟩, gs, g1, g2⟩ := r
  obtain ⟨fs', a1, -, a2⟩ := q.2 159 0 fs e1
  obtain ⟨gs', b1, -, b2⟩ := q.2 162 11 gs g1
  exact ⟨c, hc, ⟨fs', a1, (a2 0 rfl).trans e2⟩, gs', b1, (b2 47 rfl).trans g2⟩
theorem twX_LI (hI : LI h) (q : twX h h1) : LI h1 := by
  refine ⟨twX_inv hI.1 q, ?_⟩
  obtain ⟨c, hc, ⟨fs, e1, e2⟩, gs, g1, g2⟩ := hI.2
  exact ⟨c, hc, ⟨fs, (q.1 159 (by decide)).trans e1, e2⟩, gs, (q.1 162 (by decide)).trans g1, g2⟩
def sfK : Nat → Bool := sf_X [0, 1, 6, 15, 22, 45, 52, 57, 72, 78, 82, 85, 91, 92, 93, 118, 119, 128, 161, 251, 252]
theorem sfK_all : ((List.range 271).filter (fun k => !([0, 1, 6, 15, 22, 45, 52, 57, 72, 78, 82, 85, 91, 92, 93, 118, 119, 128, 161, 251, 252].any (fun x => Nat.beq x k)))).all (sf_b sP sfK) = true := by decide +kernel
theorem sfK_ok : sf_ok sP sfK := sf_of sf_X_in sfK_all
/-- one turn: two calls, their answers thrown away, the relation kept -/
theorem op_pairR (H : lc_Cl 198 sl bS Ln xs P) {n kx km pe : Nat} (hc : lc_twp pc n kx km pe = true) (hL : lc_L bS i L) (hb : i + 1 + n ≤ Ln) (hI : LI h) {c : con} (hx : con_ok PT bB 198 cxF cxQ c) (ek : c.1 = kx) (ec : cx_int c n = true) {A : Option Value → Prop} (hA : ∀ v, A v → ∃ x : Int32, v = some (.int x)) (hm : ∀ h1, mInv h1 → pm_WP PT 2047 (84000 - (19 + pm_max PT km)) km (0, pm_l0 (.ref 162 :: (lc_vals xs i n 1).map Value.int) (pm_max PT km), [], h1, 198, sl) (mPost A h1 sl)) (sx : sfK kx = true) (sm : sfK km = true) (kk : ∀ h2, LI h2 → P (pe, L, [], h2, 198, sl)) : P (pc, L, [], h, 198, sl) := by
  subst ek
  unfold cx_int at ec
  simp only [Bool.and_eq_true] at ec
  obtain ⟨e1, e2, e3, e4, e5, e6, e7, e8⟩ := ec
  have e1 := of_decide_eq_true e1
  have e2 := of_decide_eq_true e2
  have e4 := of_decide_eq_true e4
  have e5 := Nat.le_of_ble_eq_true e5
  have e6 := Nat.le_of_ble_eq_true e6
  have e8 := Nat.le_of_ble_eq_true e8
  have e7 : c.2.2.2.2.2.2.2 = false := by simpa using e7
  obtain ⟨f1, o1⟩ := ty_0 hI.1.1
  have hlen := lc_vals_len xs i n 1
  refine lc_twp_ok H hc hL hb (by decide) o1 (wp_mono (sf_wp sfK_ok sx (hx (.ref 0 :: (lc_vals xs i n 1).map Value.int) h 2047 (84000 - (19 + pm_max PT c.1)) sl ?_ ?_ trivial e5 (by omega))) ?_)
  · rw [e1]
    refine ⟨⟨rfl, List.mem_singleton_self _⟩, ?_⟩
    have := as_top (lc_vals xs i n 1)
    rw [hlen] at this
    exact this
  · rw [e2]; exact hI.1.1
  · rintro ⟨rv, h1, s1⟩ ⟨⟨⟨a, ha, hv⟩, q1, ⟨q2, -⟩, q3⟩, q4⟩
    rw [e7, e4] at q3
    dsimp only [cond] at hv q1 q2 q3 q4
    cases q1
    have hI1 := cx_inv hI.1 q2 q3
    refine ⟨rfl, ?_, ty_162 hI1.1, wp_mono (sf_wp sfK_ok sm (hm h1 hI1)) ?_⟩
    · have ea := List.all_eq_true.mp e3 a ha
      cases a with
      | none => cases ea
      | some b =>
        cases rv with
        | none => exact hv.elim
        | some v =>
          obtain ⟨x, rfl, -⟩ := av_int (Nat.eq_of_beq_eq_true ea) hv
          exact ⟨x, rfl⟩
    · rintro ⟨rv2, h2, s2⟩ ⟨⟨p1, p2, p3, p4⟩, p5⟩
      dsimp only at p1 p2 p4 p5
      cases p2
      exact ⟨hA _ p1, rfl, kk h2 ⟨p4, REL_fm p5 (REL_fm q4 hI.2)⟩⟩
end REL
