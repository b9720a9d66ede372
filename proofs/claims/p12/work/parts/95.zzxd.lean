/-! runs told exactly, written by ext.py -/
section EB
def v173 (q : QT) (cc gc : Nat) (d0 : Nat → Int32) (g : Nat) : Bool := v164 q cc gc ((d0) 94) (nI g)
theorem v173_ok {n fr lo sl cc gc : Nat} {q : QT} {h : pm_H} {R : pm_Rs} {g : Nat} (hw : HC q cc gc h) (h_g : g < 10000) (hh : pm_run PT n fr lo 173 (0, pm_l0 [.ref 170, .int (nI g)] 2, [], h, 198, sl) = some R) : R = (some (.int (cond (v173 q cc gc (Ar h 170) g) 1 0)), h, 198, sl) := by
  have hcc := hw.cb
  have hgc := hw.gb
  have hzr := hw.zr
  obtain ⟨n, hh⟩ := rn_i rfl rfl rfl rfl hh
  obtain ⟨n, hh⟩ := rn_i rfl rfl rfl rfl hh
  have hh : pm_run PT n fr lo 173 (3, [some (.ref 170), some (.int (nI g))], [.int (nI 94), .ref 170], h, 198, sl) = some R := hh
  obtain ⟨n, hx1, hh⟩ := en_lu (t := 94) (f := Ar h 170) (w := (Ar h 170) 94) (nI_clamp (by omega)) hw.wt rfl (by decide) rfl (by decide) rfl (fun _ => rfl) hh
  obtain ⟨n, hh⟩ := rn_i rfl rfl rfl rfl hh
  have hh : pm_run PT n fr lo 173 (5, [some (.ref 170), some (.int (nI g))], [.int (nI g), .int ((Ar h 170) 94)], h, 198, sl) = some R := hh
  obtain ⟨n, fr1, lo1, r1, hh1, hh⟩ := rn_call (w := 2) (t := 164) rfl rfl hh
  have er2 := v164_ok (a := ((Ar h 170) 94)) (b := (nI g)) hw hh1
  subst er2
  have hh : pm_run PT n fr lo 173 (8, [some (.ref 170), some (.int (nI g))], [.int (cond (v164 q cc gc ((Ar h 170) 94) (nI g)) 1 0)], h, 198, sl) = some R := hh
  have er3 : R = (some (.int (cond (v164 q cc gc ((Ar h 170) 94) (nI g)) 1 0)), h, 198, sl) := (rn_ret rfl (Or.inr rfl) hh).2
  have ed : v173 q cc gc (Ar h 170) g = v164 q cc gc ((Ar h 170) 94) (nI g) := rfl
  rw [ed]
  exact er3
def v175 (q : QT) (cc gc : Nat) (d0 : Nat → Int32) (a : Nat) (b : Nat) : Bool := cond (decide (a = b)) false (cond (pm_cmp .lt ((d0) (6 + 6 * a + b)) (nI 15)) false (cond (pm_cmp .lt ((d0) (6 + 6 * b + a)) (nI 15)) false true))
theorem v175_ok {n fr lo sl cc gc : Nat} {q : QT} {h : pm_H} {R : pm_Rs} {a : Nat} {b : Nat} (hw : HC q cc gc h) (h_a : a < 10000) (h_b : b < 10000) (hh : pm_run PT n fr lo 175 (0, pm_l0 [.ref 170, .int (nI a), .int (nI b)] 3, [], h, 198, sl) = some R) : R = (some (.int (cond (v175 q cc gc (Ar h 170) a b) 1 0)), h, 198, sl) := by
  have hcc := hw.cb
  have hgc := hw.gb
  have hzr := hw.zr
  obtain ⟨n, hh⟩ := rn_i rfl rfl rfl rfl hh
  obtain ⟨n, hh⟩ := rn_i rfl rfl rfl rfl hh
  have hh : pm_run PT n fr lo 175 (2, [some (.ref 170), some (.int (nI a)), some (.int (nI b))], [.int (nI b), .int (nI a)], h, 198, sl) = some R := hh
  obtain ⟨n, hh⟩ := en_cn (cc := .eq) (off := 29) (t := 31) (b := decide (a = b)) (hI_eq (by omega) (by omega)) rfl rfl hh
  have hj10 : ∃ mJ, pm_run PT mJ fr lo 175 (cond (decide (a = b)) (32, [some (.ref 170), some (.int (nI a)), some (.int (nI b))], [.int (nI 0)], h, 198, sl) (32, [some (.ref 170), some (.int (nI a)), some (.int (nI b))], [.int (cond (cond (pm_cmp .lt ((Ar h 170) (6 + 6 * a + b)) (nI 15)) false (cond (pm_cmp .lt ((Ar h 170) (6 + 6 * b + a)) (nI 15)) false true)) 1 0)], h, 198, sl)) = some R := en_J (fun z1 => by
      have hh := en_t z1 hh
      have hh : pm_run PT n fr lo 175 (31, [some (.ref 170), some (.int (nI a)), some (.int (nI b))], [], h, 198, sl) = some R := hh
      have y_z1 := of_decide_eq_true z1
      obtain ⟨n, hh⟩ := rn_i rfl rfl rfl rfl hh
      exact ⟨n, hh⟩) (fun z1 => by
      have hh := en_f z1 hh
      have hh : pm_run PT n fr lo 175 (5, [some (.ref 170), some (.int (nI a)), some (.int (nI b))], [], h, 198, sl) = some R := hh
      have y_z1 := of_decide_eq_false z1
      obtain ⟨n, hh⟩ := rn_i rfl rfl rfl rfl hh
      obtain ⟨n, hh⟩ := rn_i rfl rfl rfl rfl hh
      obtain ⟨n, hh⟩ := rn_i rfl rfl rfl rfl hh
      have hh : pm_run PT n fr lo 175 (8, [some (.ref 170), some (.int (nI a)), some (.int (nI b))], [.int (nI b), .int (nI a), .ref 170], h, 198, sl) = some R := hh
      obtain ⟨n, fr1, lo1, r1, hh1, hh⟩ := rn_call (w := 2) (t := 171) rfl rfl hh
      have hh1 : pm_run PT n fr1 lo1 171 (0, [some (.ref 170), some (.int (nI a)), some (.int (nI b))], [], h, 198, sl) = some r1 := hh1
      obtain ⟨n1, hh1⟩ := rn_i rfl rfl rfl rfl hh1
      obtain ⟨n1, hh1⟩ := rn_i rfl rfl rfl rfl hh1
      obtain ⟨n1, hh1⟩ := rn_i rfl rfl rfl rfl hh1
      obtain ⟨n1, hh1⟩ := rn_i rfl rfl rfl rfl hh1
      have hh1 : pm_run PT n1 fr1 lo1 171 (6, [some (.ref 170), some (.int (nI a)), some (.int (nI b))], [.int (nI a), .int (nI 6), .int (nI 6), .ref 170], h, 198, sl) = some r1 := hh1
      obtain ⟨n1, hh1⟩ := en_mul rfl hh1
      have hh1 : pm_run PT n1 fr1 lo1 171 (7, [some (.ref 170), some (.int (nI a)), some (.int (nI b))], [.int (nI (6 * a)), .int (nI 6), .ref 170], h, 198, sl) = some r1 := hh1
      have hh1 : pm_run PT n1 fr1 lo1 171 (7, [some (.ref 170), some (.int (nI a)), some (.int (nI b))], [.int (nI (6 * a)), .int (nI 6), .ref 170], h, 198, sl) = some r1 := hh1
      obtain ⟨n1, hh1⟩ := en_add rfl hh1
      have hh1 : pm_run PT n1 fr1 lo1 171 (8, [some (.ref 170), some (.int (nI a)), some (.int (nI b))], [.int (nI (6 + 6 * a)), .ref 170], h, 198, sl) = some r1 := hh1
      obtain ⟨n1, hh1⟩ := rn_i rfl rfl rfl rfl hh1
      have hh1 : pm_run PT n1 fr1 lo1 171 (9, [some (.ref 170), some (.int (nI a)), some (.int (nI b))], [.int (nI b), .int (nI (6 + 6 * a)), .ref 170], h, 198, sl) = some r1 := hh1
      obtain ⟨n1, hh1⟩ := en_add rfl hh1
      have hh1 : pm_run PT n1 fr1 lo1 171 (10, [some (.ref 170), some (.int (nI a)), some (.int (nI b))], [.int (nI (6 + 6 * a + b)), .ref 170], h, 198, sl) = some r1 := hh1
      have hh1 : pm_run PT n1 fr1 lo1 171 (10, [some (.ref 170), some (.int (nI a)), some (.int (nI b))], [.int (nI (6 + 6 * a + b)), .ref 170], h, 198, sl) = some r1 := hh1
      obtain ⟨n1, hx2, hh1⟩ := en_lu (t := 6 + 6 * a + b) (f := Ar h 170) (w := (Ar h 170) (6 + 6 * a + b)) (nI_clamp (by omega)) hw.wt rfl (by decide) rfl (by decide) rfl (fun _ => rfl) hh1
      have hh1 : pm_run PT n1 fr1 lo1 171 (11, [some (.ref 170), some (.int (nI a)), some (.int (nI b))], [.int ((Ar h 170) (6 + 6 * a + b))], h, 198, sl) = some r1 := hh1
      have er3 : r1 = (some (.int ((Ar h 170) (6 + 6 * a + b))), h, 198, sl) := (rn_ret rfl (Or.inl rfl) hh1).2
      subst er3
      obtain ⟨n, hh⟩ := rn_i rfl rfl rfl rfl hh
      have hh : pm_run PT n fr lo 175 (13, [some (.ref 170), some (.int (nI a)), some (.int (nI b))], [.int (nI 15), .int ((Ar h 170) (6 + 6 * a + b))], h, 198, sl) = some R := hh
      obtain ⟨n, hh⟩ := en_cn (cc := .lt) (off := 18) (t := 31) (b := pm_cmp .lt ((Ar h 170) (6 + 6 * a + b)) (nI 15)) rfl rfl rfl hh
      have hj9 : ∃ mJ, pm_run PT mJ fr lo 175 (cond (pm_cmp .lt ((Ar h 170) (6 + 6 * a + b)) (nI 15)) (32, [some (.ref 170), some (.int (nI a)), some (.int (nI b))], [.int (nI 0)], h, 198, sl) (32, [some (.ref 170), some (.int (nI a)), some (.int (nI b))], [.int (cond (cond (pm_cmp .lt ((Ar h 170) (6 + 6 * b + a)) (nI 15)) false true) 1 0)], h, 198, sl)) = some R := en_J (fun z4 => by
          have hh := en_t z4 hh
          have hh : pm_run PT n fr lo 175 (31, [some (.ref 170), some (.int (nI a)), some (.int (nI b))], [], h, 198, sl) = some R := hh
          obtain ⟨n, hh⟩ := rn_i rfl rfl rfl rfl hh
          exact ⟨n, hh⟩) (fun z4 => by
          have hh := en_f z4 hh
          have hh : pm_run PT n fr lo 175 (16, [some (.ref 170), some (.int (nI a)), some (.int (nI b))], [], h, 198, sl) = some R := hh
          obtain ⟨n, hh⟩ := rn_i rfl rfl rfl rfl hh
          obtain ⟨n, hh⟩ := rn_i rfl rfl rfl rfl hh
          obtain ⟨n, hh⟩ := rn_i rfl rfl rfl rfl hh
          have hh : pm_run PT n fr lo 175 (19, [some (.ref 170), some (.int (nI a)), some (.int (nI b))], [.int (nI a), .int (nI b), .ref 170], h, 198, sl) = some R := hh
          obtain ⟨n, fr1, lo1, r1, hh1, hh⟩ := rn_call (w := 2) (t := 171) rfl rfl hh
          have hh1 : pm_run PT n fr1 lo1 171 (0, [some (.ref 170), some (.int (nI b)), some (.int (nI a))], [], h, 198, sl) = some r1 := hh1
          obtain ⟨n1, hh1⟩ := rn_i rfl rfl rfl rfl hh1
          obtain ⟨n1, hh1⟩ := rn_i rfl rfl rfl rfl hh1
          obtain ⟨n1, hh1⟩ := rn_i rfl rfl rfl rfl hh1
          obtain ⟨n1, hh1⟩ := rn_i rfl rfl rfl rfl hh1
          have hh1 : pm_run PT n1 fr1 lo1 171 (6, [some (.ref 170), some (.int (nI b)), some (.int (nI a))], [.int (nI b), .int (nI 6), .int (nI 6), .ref 170], h, 198, sl) = some r1 := hh1
          obtain ⟨n1, hh1⟩ := en_mul rfl hh1
          have hh1 : pm_run PT n1 fr1 lo1 171 (7, [some (.ref 170), some (.int (nI b)), some (.int (nI a))], [.int (nI (6 * b)), .int (nI 6), .ref 170], h, 198, sl) = some r1 := hh1
          have hh1 : pm_run PT n1 fr1 lo1 171 (7, [some (.ref 170), some (.int (nI b)), some (.int (nI a))], [.int (nI (6 * b)), .int (nI 6), .ref 170], h, 198, sl) = some r1 := hh1
          obtain ⟨n1, hh1⟩ := en_add rfl hh1
          have hh1 : pm_run PT n1 fr1 lo1 171 (8, [some (.ref 170), some (.int (nI b)), some (.int (nI a))], [.int (nI (6 + 6 * b)), .ref 170], h, 198, sl) = some r1 := hh1
          obtain ⟨n1, hh1⟩ := rn_i rfl rfl rfl rfl hh1
          have hh1 : pm_run PT n1 fr1 lo1 171 (9, [some (.ref 170), some (.int (nI b)), some (.int (nI a))], [.int (nI a), .int (nI (6 + 6 * b)), .ref 170], h, 198, sl) = some r1 := hh1
          obtain ⟨n1, hh1⟩ := en_add rfl hh1
          have hh1 : pm_run PT n1 fr1 lo1 171 (10, [some (.ref 170), some (.int (nI b)), some (.int (nI a))], [.int (nI (6 + 6 * b + a)), .ref 170], h, 198, sl) = some r1 := hh1
          have hh1 : pm_run PT n1 fr1 lo1 171 (10, [some (.ref 170), some (.int (nI b)), some (.int (nI a))], [.int (nI (6 + 6 * b + a)), .ref 170], h, 198, sl) = some r1 := hh1
          obtain ⟨n1, hx5, hh1⟩ := en_lu (t := 6 + 6 * b + a) (f := Ar h 170) (w := (Ar h 170) (6 + 6 * b + a)) (nI_clamp (by omega)) hw.wt rfl (by decide) rfl (by decide) rfl (fun _ => rfl) hh1
          have hh1 : pm_run PT n1 fr1 lo1 171 (11, [some (.ref 170), some (.int (nI b)), some (.int (nI a))], [.int ((Ar h 170) (6 + 6 * b + a))], h, 198, sl) = some r1 := hh1
          have er6 : r1 = (some (.int ((Ar h 170) (6 + 6 * b + a))), h, 198, sl) := (rn_ret rfl (Or.inl rfl) hh1).2
          subst er6
          obtain ⟨n, hh⟩ := rn_i rfl rfl rfl rfl hh
          have hh : pm_run PT n fr lo 175 (24, [some (.ref 170), some (.int (nI a)), some (.int (nI b))], [.int (nI 15), .int ((Ar h 170) (6 + 6 * b + a))], h, 198, sl) = some R := hh
          obtain ⟨n, hh⟩ := en_cn (cc := .lt) (off := 7) (t := 31) (b := pm_cmp .lt ((Ar h 170) (6 + 6 * b + a)) (nI 15)) rfl rfl rfl hh
          have hj8 : ∃ mJ, pm_run PT mJ fr lo 175 (cond (pm_cmp .lt ((Ar h 170) (6 + 6 * b + a)) (nI 15)) (32, [some (.ref 170), some (.int (nI a)), some (.int (nI b))], [.int (nI 0)], h, 198, sl) (32, [some (.ref 170), some (.int (nI a)), some (.int (nI b))], [.int (nI 1)], h, 198, sl)) = some R := en_J (fun z7 => by
              have hh := en_t z7 hh
              have hh : pm_run PT n fr lo 175 (31, [some (.ref 170), some (.int (nI a)), some (.int (nI b))], [], h, 198, sl) = some R := hh
              obtain ⟨n, hh⟩ := rn_i rfl rfl rfl rfl hh
              exact ⟨n, hh⟩) (fun z7 => by
              have hh := en_f z7 hh
              have hh : pm_run PT n fr lo 175 (27, [some (.ref 170), some (.int (nI a)), some (.int (nI b))], [], h, 198, sl) = some R := hh
              obtain ⟨n, hh⟩ := rn_i rfl rfl rfl rfl hh
              obtain ⟨n, hh⟩ := rn_i rfl rfl rfl rfl hh
              exact ⟨n, hh⟩)
          obtain ⟨n, hh⟩ := hj8
          rw [show (cond (pm_cmp .lt ((Ar h 170) (6 + 6 * b + a)) (nI 15)) (32, [some (.ref 170), some (.int (nI a)), some (.int (nI b))], [.int (nI 0)], h, 198, sl) (32, [some (.ref 170), some (.int (nI a)), some (.int (nI b))], [.int (nI 1)], h, 198, sl) : pm_St) = (32, [some (.ref 170), some (.int (nI a)), some (.int (nI b))], [.int (cond (cond (pm_cmp .lt ((Ar h 170) (6 + 6 * b + a)) (nI 15)) false true) 1 0)], h, 198, sl) from by cases (pm_cmp .lt ((Ar h 170) (6 + 6 * b + a)) (nI 15)) <;> rfl] at hh
          exact ⟨n, hh⟩)
      obtain ⟨n, hh⟩ := hj9
      rw [show (cond (pm_cmp .lt ((Ar h 170) (6 + 6 * a + b)) (nI 15)) (32, [some (.ref 170), some (.int (nI a)), some (.int (nI b))], [.int (nI 0)], h, 198, sl) (32, [some (.ref 170), some (.int (nI a)), some (.int (nI b))], [.int (cond (cond (pm_cmp .lt ((Ar h 170) (6 + 6 * b + a)) (nI 15)) false true) 1 0)], h, 198, sl) : pm_St) = (32, [some (.ref 170), some (.int (nI a)), some (.int (nI b))], [.int (cond (cond (pm_cmp .lt ((Ar h 170) (6 + 6 * a + b)) (nI 15)) false (cond (pm_cmp .lt ((Ar h 170) (6 + 6 * b + a)) (nI 15)) false true)) 1 0)], h, 198, sl) from by cases (pm_cmp .lt ((Ar h 170) (6 + 6 * a + b)) (nI 15)) <;> rfl] at hh
      exact ⟨n, hh⟩)
  obtain ⟨n, hh⟩ := hj10
  rw [show (cond (decide (a = b)) (32, [some (.ref 170), some (.int (nI a)), some (.int (nI b))], [.int (nI 0)], h, 198, sl) (32, [some (.ref 170), some (.int (nI a)), some (.int (nI b))], [.int (cond (cond (pm_cmp .lt ((Ar h 170) (6 + 6 * a + b)) (nI 15)) false (cond (pm_cmp .lt ((Ar h 170) (6 + 6 * b + a)) (nI 15)) false true)) 1 0)], h, 198, sl) : pm_St) = (32, [some (.ref 170), some (.int (nI a)), some (.int (nI b))], [.int (cond (cond (decide (a = b)) false (cond (pm_cmp .lt ((Ar h 170) (6 + 6 * a + b)) (nI 15)) false (cond (pm_cmp .lt ((Ar h 170) (6 + 6 * b + a)) (nI 15)) false true))) 1 0)], h, 198, sl) from by cases (decide (a = b)) <;> rfl] at hh
  have hh : pm_run PT n fr lo 175 (32, [some (.ref 170), some (.int (nI a)), some (.int (nI b))], [.int (cond (cond (decide (a = b)) false (cond (pm_cmp .lt ((Ar h 170) (6 + 6 * a + b)) (nI 15)) false (cond (pm_cmp .lt ((Ar h 170) (6 + 6 * b + a)) (nI 15)) false true))) 1 0)], h, 198, sl) = some R := hh
  have er11 : R = (some (.int (cond (cond (decide (a = b)) false (cond (pm_cmp .lt ((Ar h 170) (6 + 6 * a + b)) (nI 15)) false (cond (pm_cmp .lt ((Ar h 170) (6 + 6 * b + a)) (nI 15)) false true))) 1 0)), h, 198, sl) := (rn_ret rfl (Or.inr rfl) hh).2
  have ed : v175 q cc gc (Ar h 170) a b = cond (decide (a = b)) false (cond (pm_cmp .lt ((Ar h 170) (6 + 6 * a + b)) (nI 15)) false (cond (pm_cmp .lt ((Ar h 170) (6 + 6 * b + a)) (nI 15)) false true)) := rfl
  rw [ed]
  exact er11
def v176 (q : QT) (cc gc : Nat) (d0 : Nat → Int32) (a : Nat) (b : Nat) : Bool := cond (decide (a = b)) false (cond (pm_cmp .eq ((d0) (6 + 6 * a + b)) 0) true (cond (pm_cmp .ne ((d0) (6 + 6 * b + a)) 0) false true))
theorem v176_ok {n fr lo sl cc gc : Nat} {q : QT} {h : pm_H} {R : pm_Rs} {a : Nat} {b : Nat} (hw : HC q cc gc h) (h_a : a < 10000) (h_b : b < 10000) (hh : pm_run PT n fr lo 176 (0, pm_l0 [.ref 170, .int (nI a), .int (nI b)] 3, [], h, 198, sl) = some R) : R = (some (.int (cond (v176 q cc gc (Ar h 170) a b) 1 0)), h, 198, sl) := by
  have hcc := hw.cb
  have hgc := hw.gb
  have hzr := hw.zr
  obtain ⟨n, hh⟩ := rn_i rfl rfl rfl rfl hh
  obtain ⟨n, hh⟩ := rn_i rfl rfl rfl rfl hh
  have hh : pm_run PT n fr lo 176 (2, [some (.ref 170), some (.int (nI a)), some (.int (nI b))], [.int (nI b), .int (nI a)], h, 198, sl) = some R := hh
  obtain ⟨n, hh⟩ := en_cn (cc := .eq) (off := 25) (t := 27) (b := decide (a = b)) (hI_eq (by omega) (by omega)) rfl rfl hh
  have hj10 : ∃ mJ, pm_run PT mJ fr lo 176 (cond (decide (a = b)) (28, [some (.ref 170), some (.int (nI a)), some (.int (nI b))], [.int (nI 0)], h, 198, sl) (28, [some (.ref 170), some (.int (nI a)), some (.int (nI b))], [.int (cond (cond (pm_cmp .eq ((Ar h 170) (6 + 6 * a + b)) 0) true (cond (pm_cmp .ne ((Ar h 170) (6 + 6 * b + a)) 0) false true)) 1 0)], h, 198, sl)) = some R := en_J (fun z1 => by
      have hh := en_t z1 hh
      have hh : pm_run PT n fr lo 176 (27, [some (.ref 170), some (.int (nI a)), some (.int (nI b))], [], h, 198, sl) = some R := hh
      have y_z1 := of_decide_eq_true z1
      obtain ⟨n, hh⟩ := rn_i rfl rfl rfl rfl hh
      exact ⟨n, hh⟩) (fun z1 => by
      have hh := en_f z1 hh
      have hh : pm_run PT n fr lo 176 (5, [some (.ref 170), some (.int (nI a)), some (.int (nI b))], [], h, 198, sl) = some R := hh
      have y_z1 := of_decide_eq_false z1
      obtain ⟨n, hh⟩ := rn_i rfl rfl rfl rfl hh
      obtain ⟨n, hh⟩ := rn_i rfl rfl rfl rfl hh
      obtain ⟨n, hh⟩ := rn_i rfl rfl rfl rfl hh
      have hh : pm_run PT n fr lo 176 (8, [some (.ref 170), some (.int (nI a)), some (.int (nI b))], [.int (nI b), .int (nI a), .ref 170], h, 198, sl) = some R := hh
      obtain ⟨n, fr1, lo1, r1, hh1, hh⟩ := rn_call (w := 2) (t := 171) rfl rfl hh
      have hh1 : pm_run PT n fr1 lo1 171 (0, [some (.ref 170), some (.int (nI a)), some (.int (nI b))], [], h, 198, sl) = some r1 := hh1
      obtain ⟨n1, hh1⟩ := rn_i rfl rfl rfl rfl hh1
      obtain ⟨n1, hh1⟩ := rn_i rfl rfl rfl rfl hh1
      obtain ⟨n1, hh1⟩ := rn_i rfl rfl rfl rfl hh1
      obtain ⟨n1, hh1⟩ := rn_i rfl rfl rfl rfl hh1
      have hh1 : pm_run PT n1 fr1 lo1 171 (6, [some (.ref 170), some (.int (nI a)), some (.int (nI b))], [.int (nI a), .int (nI 6), .int (nI 6), .ref 170], h, 198, sl) = some r1 := hh1
      obtain ⟨n1, hh1⟩ := en_mul rfl hh1
      have hh1 : pm_run PT n1 fr1 lo1 171 (7, [some (.ref 170), some (.int (nI a)), some (.int (nI b))], [.int (nI (6 * a)), .int (nI 6), .ref 170], h, 198, sl) = some r1 := hh1
      have hh1 : pm_run PT n1 fr1 lo1 171 (7, [some (.ref 170), some (.int (nI a)), some (.int (nI b))], [.int (nI (6 * a)), .int (nI 6), .ref 170], h, 198, sl) = some r1 := hh1
      obtain ⟨n1, hh1⟩ := en_add rfl hh1
      have hh1 : pm_run PT n1 fr1 lo1 171 (8, [some (.ref 170), some (.int (nI a)), some (.int (nI b))], [.int (nI (6 + 6 * a)), .ref 170], h, 198, sl) = some r1 := hh1
      obtain ⟨n1, hh1⟩ := rn_i rfl rfl rfl rfl hh1
      have hh1 : pm_run PT n1 fr1 lo1 171 (9, [some (.ref 170), some (.int (nI a)), some (.int (nI b))], [.int (nI b), .int (nI (6 + 6 * a)), .ref 170], h, 198, sl) = some r1 := hh1
      obtain ⟨n1, hh1⟩ := en_add rfl hh1
      have hh1 : pm_run PT n1 fr1 lo1 171 (10, [some (.ref 170), some (.int (nI a)), some (.int (nI b))], [.int (nI (6 + 6 * a + b)), .ref 170], h, 198, sl) = some r1 := hh1
      have hh1 : pm_run PT n1 fr1 lo1 171 (10, [some (.ref 170), some (.int (nI a)), some (.int (nI b))], [.int (nI (6 + 6 * a + b)), .ref 170], h, 198, sl) = some r1 := hh1
      obtain ⟨n1, hx2, hh1⟩ := en_lu (t := 6 + 6 * a + b) (f := Ar h 170) (w := (Ar h 170) (6 + 6 * a + b)) (nI_clamp (by omega)) hw.wt rfl (by decide) rfl (by decide) rfl (fun _ => rfl) hh1
      have hh1 : pm_run PT n1 fr1 lo1 171 (11, [some (.ref 170), some (.int (nI a)), some (.int (nI b))], [.int ((Ar h 170) (6 + 6 * a + b))], h, 198, sl) = some r1 := hh1
      have er3 : r1 = (some (.int ((Ar h 170) (6 + 6 * a + b))), h, 198, sl) := (rn_ret rfl (Or.inl rfl) hh1).2
      subst er3
      have hh : pm_run PT n fr lo 176 (11, [some (.ref 170), some (.int (nI a)), some (.int (nI b))], [.int ((Ar h 170) (6 + 6 * a + b))], h, 198, sl) = some R := hh
      obtain ⟨n, hh⟩ := en_zn (cc := .eq) (off := 12) (t := 23) (b := pm_cmp .eq ((Ar h 170) (6 + 6 * a + b)) 0) rfl rfl rfl hh
      have hj9 : ∃ mJ, pm_run PT mJ fr lo 176 (cond (pm_cmp .eq ((Ar h 170) (6 + 6 * a + b)) 0) (28, [some (.ref 170), some (.int (nI a)), some (.int (nI b))], [.int (nI 1)], h, 198, sl) (28, [some (.ref 170), some (.int (nI a)), some (.int (nI b))], [.int (cond (cond (pm_cmp .ne ((Ar h 170) (6 + 6 * b + a)) 0) false true) 1 0)], h, 198, sl)) = some R := en_J (fun z4 => by
          have hh := en_t z4 hh
          have hh : pm_run PT n fr lo 176 (23, [some (.ref 170), some (.int (nI a)), some (.int (nI b))], [], h, 198, sl) = some R := hh
          obtain ⟨n, hh⟩ := rn_i rfl rfl rfl rfl hh
          obtain ⟨n, hh⟩ := rn_i rfl rfl rfl rfl hh
          exact ⟨n, hh⟩) (fun z4 => by
          have hh := en_f z4 hh
          have hh : pm_run PT n fr lo 176 (14, [some (.ref 170), some (.int (nI a)), some (.int (nI b))], [], h, 198, sl) = some R := hh
          obtain ⟨n, hh⟩ := rn_i rfl rfl rfl rfl hh
          obtain ⟨n, hh⟩ := rn_i rfl rfl rfl rfl hh
          obtain ⟨n, hh⟩ := rn_i rfl rfl rfl rfl hh
          have hh : pm_run PT n fr lo 176 (17, [some (.ref 170), some (.int (nI a)), some (.int (nI b))], [.int (nI a), .int (nI b), .ref 170], h, 198, sl) = some R := hh
          obtain ⟨n, fr1, lo1, r1, hh1, hh⟩ := rn_call (w := 2) (t := 171) rfl rfl hh
          have hh1 : pm_run PT n fr1 lo1 171 (0, [some (.ref 170), some (.int (nI b)), some (.int (nI a))], [], h, 198, sl) = some r1 := hh1
          obtain ⟨n1, hh1⟩ := rn_i rfl rfl rfl rfl hh1
          obtain ⟨n1, hh1⟩ := rn_i rfl rfl rfl rfl hh1
          obtain ⟨n1, hh1⟩ := rn_i rfl rfl rfl rfl hh1
          obtain ⟨n1, hh1⟩ := rn_i rfl rfl rfl rfl hh1
          have hh1 : pm_run PT n1 fr1 lo1 171 (6, [some (.ref 170), some (.int (nI b)), some (.int (nI a))], [.int (nI b), .int (nI 6), .int (nI 6), .ref 170], h, 198, sl) = some r1 := hh1
          obtain ⟨n1, hh1⟩ := en_mul rfl hh1
          have hh1 : pm_run PT n1 fr1 lo1 171 (7, [some (.ref 170), some (.int (nI b)), some (.int (nI a))], [.int (nI (6 * b)), .int (nI 6), .ref 170], h, 198, sl) = some r1 := hh1
          have hh1 : pm_run PT n1 fr1 lo1 171 (7, [some (.ref 170), some (.int (nI b)), some (.int (nI a))], [.int (nI (6 * b)), .int (nI 6), .ref 170], h, 198, sl) = some r1 := hh1
          obtain ⟨n1, hh1⟩ := en_add rfl hh1
          have hh1 : pm_run PT n1 fr1 lo1 171 (8, [some (.ref 170), some (.int (nI b)), some (.int (nI a))], [.int (nI (6 + 6 * b)), .ref 170], h, 198, sl) = some r1 := hh1
          obtain ⟨n1, hh1⟩ := rn_i rfl rfl rfl rfl hh1
          have hh1 : pm_run PT n1 fr1 lo1 171 (9, [some (.ref 170), some (.int (nI b)), some (.int (nI a))], [.int (nI a), .int (nI (6 + 6 * b)), .ref 170], h, 198, sl) = some r1 := hh1
          obtain ⟨n1, hh1⟩ := en_add rfl hh1
          have hh1 : pm_run PT n1 fr1 lo1 171 (10, [some (.ref 170), some (.int (nI b)), some (.int (nI a))], [.int (nI (6 + 6 * b + a)), .ref 170], h, 198, sl) = some r1 := hh1
          have hh1 : pm_run PT n1 fr1 lo1 171 (10, [some (.ref 170), some (.int (nI b)), some (.int (nI a))], [.int (nI (6 + 6 * b + a)), .ref 170], h, 198, sl) = some r1 := hh1
          obtain ⟨n1, hx5, hh1⟩ := en_lu (t := 6 + 6 * b + a) (f := Ar h 170) (w := (Ar h 170) (6 + 6 * b + a)) (nI_clamp (by omega)) hw.wt rfl (by decide) rfl (by decide) rfl (fun _ => rfl) hh1
          have hh1 : pm_run PT n1 fr1 lo1 171 (11, [some (.ref 170), some (.int (nI b)), some (.int (nI a))], [.int ((Ar h 170) (6 + 6 * b + a))], h, 198, sl) = some r1 := hh1
          have er6 : r1 = (some (.int ((Ar h 170) (6 + 6 * b + a))), h, 198, sl) := (rn_ret rfl (Or.inl rfl) hh1).2
          subst er6
          have hh : pm_run PT n fr lo 176 (20, [some (.ref 170), some (.int (nI a)), some (.int (nI b))], [.int ((Ar h 170) (6 + 6 * b + a))], h, 198, sl) = some R := hh
          obtain ⟨n, hh⟩ := en_zn (cc := .ne) (off := 7) (t := 27) (b := pm_cmp .ne ((Ar h 170) (6 + 6 * b + a)) 0) rfl rfl rfl hh
          have hj8 : ∃ mJ, pm_run PT mJ fr lo 176 (cond (pm_cmp .ne ((Ar h 170) (6 + 6 * b + a)) 0) (28, [some (.ref 170), some (.int (nI a)), some (.int (nI b))], [.int (nI 0)], h, 198, sl) (28, [some (.ref 170), some (.int (nI a)), some (.int (nI b))], [.int (nI 1)], h, 198, sl)) = some R := en_J (fun z7 => by
              have hh := en_t z7 hh
              have hh : pm_run PT n fr lo 176 (27, [some (.ref 170), some (.int (nI a)), some (.int (nI b))], [], h, 198, sl) = some R := hh
              obtain ⟨n, hh⟩ := rn_i rfl rfl rfl rfl hh
              exact ⟨n, hh⟩) (fun z7 => by
              have hh := en_f z7 hh
              have hh : pm_run PT n fr lo 176 (23, [some (.ref 170), some (.int (nI a)), some (.int (nI b))], [], h, 198, sl) = some R := hh
              obtain ⟨n, hh⟩ := rn_i rfl rfl rfl rfl hh
              obtain ⟨n, hh⟩ := rn_i rfl rfl rfl rfl hh
              exact ⟨n, hh⟩)
          obtain ⟨n, hh⟩ := hj8
          rw [show (cond (pm_cmp .ne ((Ar h 170) (6 + 6 * b + a)) 0) (28, [some (.ref 170), some (.int (nI a)), some (.int (nI b))], [.int (nI 0)], h, 198, sl) (28, [some (.ref 170), some (.int (nI a)), some (.int (nI b))], [.int (nI 1)], h, 198, sl) : pm_St) = (28, [some (.ref 170), some (.int (nI a)), some (.int (nI b))], [.int (cond (cond (pm_cmp .ne ((Ar h 170) (6 + 6 * b + a)) 0) false true) 1 0)], h, 198, sl) from by cases (pm_cmp .ne ((Ar h 170) (6 + 6 * b + a)) 0) <;> rfl] at hh
          exact ⟨n, hh⟩)
      obtain ⟨n, hh⟩ := hj9
      rw [show (cond (pm_cmp .eq ((Ar h 170) (6 + 6 * a + b)) 0) (28, [some (.ref 170), some (.int (nI a)), some (.int (nI b))], [.int (nI 1)], h, 198, sl) (28, [some (.ref 170), some (.int (nI a)), some (.int (nI b))], [.int (cond (cond (pm_cmp .ne ((Ar h 170) (6 + 6 * b + a)) 0) false true) 1 0)], h, 198, sl) : pm_St) = (28, [some (.ref 170), some (.int (nI a)), some (.int (nI b))], [.int (cond (cond (pm_cmp .eq ((Ar h 170) (6 + 6 * a + b)) 0) true (cond (pm_cmp .ne ((Ar h 170) (6 + 6 * b + a)) 0) false true)) 1 0)], h, 198, sl) from by cases (pm_cmp .eq ((Ar h 170) (6 + 6 * a + b)) 0) <;> rfl] at hh
      exact ⟨n, hh⟩)
  obtain ⟨n, hh⟩ := hj10
  rw [show (cond (decide (a = b)) (28, [some (.ref 170), some (.int (nI a)), some (.int (nI b))], [.int (nI 0)], h, 198, sl) (28, [some (.ref 170), some (.int (nI a)), some (.int (nI b))], [.int (cond (cond (pm_cmp .eq ((Ar h 170) (6 + 6 * a + b)) 0) true (cond (pm_cmp .ne ((Ar h 170) (6 + 6 * b + a)) 0) false true)) 1 0)], h, 198, sl) : pm_St) = (28, [some (.ref 170), some (.int (nI a)), some (.int (nI b))], [.int (cond (cond (decide (a = b)) false (cond (pm_cmp .eq ((Ar h 170) (6 + 6 * a + b)) 0) true (cond (pm_cmp .ne ((Ar h 170) (6 + 6 * b + a)) 0) false true))) 1 0)], h, 198, sl) from by cases (decide (a = b)) <;> rfl] at hh
  have hh : pm_run PT n fr lo 176 (28, [some (.ref 170), some (.int (nI a)), some (.int (nI b))], [.int (cond (cond (decide (a = b)) false (cond (pm_cmp .eq ((Ar h 170) (6 + 6 * a + b)) 0) true (cond (pm_cmp .ne ((Ar h 170) (6 + 6 * b + a)) 0) false true))) 1 0)], h, 198, sl) = some R := hh
  have er11 : R = (some (.int (cond (cond (decide (a = b)) false (cond (pm_cmp .eq ((Ar h 170) (6 + 6 * a + b)) 0) true (cond (pm_cmp .ne ((Ar h 170) (6 + 6 * b + a)) 0) false true))) 1 0)), h, 198, sl) := (rn_ret rfl (Or.inr rfl) hh).2
  have ed : v176 q cc gc (Ar h 170) a b = cond (decide (a = b)) false (cond (pm_cmp .eq ((Ar h 170) (6 + 6 * a + b)) 0) true (cond (pm_cmp .ne ((Ar h 170) (6 + 6 * b + a)) 0) false true)) := rfl
  rw [ed]
  exact er11
def v174_5b (q : QT) (cc gc : Nat) (d0 : Nat → Int32) (m2 : Nat) (i : Nat) (x3 : Int32) : Int32 := x3 ||| (cond (pm_cmp .ne ((d0) (78 + i)) (nI m2)) (nI 0) (shl (nI 1) (nI i)))
def v174_5 (q : QT) (cc gc : Nat) (d0 : Nat → Int32) (m2 : Nat) (j i : Nat) (a : Int32) : Int32 := lp (fun i a => v174_5b q cc gc d0 m2 i a) j i a
theorem v174_5_e {n fr lo sl cc gc : Nat} {q : QT} {h : pm_H} {R : pm_Rs} {m2 : Nat} {i : Nat} {x3 : Int32} (hw : HC q cc gc h) (h_m2 : m2 < 10000) (hi : gc ≤ i) (hI : i < 1000000) (hh : pm_run PT n fr lo 174 (5, [some (.ref 162), some (.ref 170), some (.int (nI m2)), some (.int x3), some (.int (nI i))], [], h, 198, sl) = some R) : ∃ m, pm_run PT m fr lo 174 (42, [some (.ref 162), some (.ref 170), some (.int (nI m2)), some (.int x3), some (.int (nI i))], [], h, 198, sl) = some R := by
  have hcc := hw.cb
  have hgc := hw.gb
  have hzr := hw.zr
  obtain ⟨n, hh⟩ := rn_i rfl rfl rfl rfl hh
  obtain ⟨n, hh⟩ := rn_i rfl rfl rfl rfl hh
  have hh : pm_run PT n fr lo 174 (8, [some (.ref 162), some (.ref 170), some (.int (nI m2)), some (.int x3), some (.int (nI i))], [.ref 162, .int (nI i)], h, 198, sl) = some R := hh
  obtain ⟨n, hh⟩ := rn_gi (x := nI gc) hw.wt rfl rfl (by decide) rfl (by decide) rfl hw.m4 hh
  have hh : pm_run PT n fr lo 174 (11, [some (.ref 162), some (.ref 170), some (.int (nI m2)), some (.int x3), some (.int (nI i))], [.int (nI gc), .int (nI i)], h, 198, sl) = some R := hh
  obtain ⟨n, hh⟩ := en_cn (cc := .ge) (off := 31) (t := 42) (b := decide (gc ≤ i)) (hI_ge (by omega) (by omega)) rfl rfl hh
  have hh := en_t (show decide (gc ≤ i) = true from decide_eq_true (by omega)) hh
  have hh : pm_run PT n fr lo 174 (42, [some (.ref 162), some (.ref 170), some (.int (nI m2)), some (.int x3), some (.int (nI i))], [], h, 198, sl) = some R := hh
  exact ⟨n, hh⟩
theorem v174_5_s {n fr lo sl cc gc : Nat} {q : QT} {h : pm_H} {R : pm_Rs} {m2 : Nat} {i : Nat} {x3 : Int32} (hw : HC q cc gc h) (h_m2 : m2 < 10000) (hi : i < gc) (hI : i < 1000000) (hh : pm_run PT n fr lo 174 (5, [some (.ref 162), some (.ref 170), some (.int (nI m2)), some (.int x3), some (.int (nI i))], [], h, 198, sl) = some R) : ∃ m, pm_run PT m fr lo 174 (5, [some (.ref 162), some (.ref 170), some (.int (nI m2)), some (.int (v174_5b q cc gc (Ar h 170) m2 i x3)), some (.int (nI (i + 1)))], [], h, 198, sl) = some R := by
  have hcc := hw.cb
  have hgc := hw.gb
  have hzr := hw.zr
  obtain ⟨n, hh⟩ := rn_i rfl rfl rfl rfl hh
  obtain ⟨n, hh⟩ := rn_i rfl rfl rfl rfl hh
  have hh : pm_run PT n fr lo 174 (8, [some (.ref 162), some (.ref 170), some (.int (nI m2)), some (.int x3), some (.int (nI i))], [.ref 162, .int (nI i)], h, 198, sl) = some R := hh
  obtain ⟨n, hh⟩ := rn_gi (x := nI gc) hw.wt rfl rfl (by decide) rfl (by decide) rfl hw.m4 hh
  have hh : pm_run PT n fr lo 174 (11, [some (.ref 162), some (.ref 170), some (.int (nI m2)), some (.int x3), some (.int (nI i))], [.int (nI gc), .int (nI i)], h, 198, sl) = some R := hh
  obtain ⟨n, hh⟩ := en_cn (cc := .ge) (off := 31) (t := 42) (b := decide (gc ≤ i)) (hI_ge (by omega) (by omega)) rfl rfl hh
  have hh := en_f (show decide (gc ≤ i) = false from decide_eq_false (by omega)) hh
  have hh : pm_run PT n fr lo 174 (14, [some (.ref 162), some (.ref 170), some (.int (nI m2)), some (.int x3), some (.int (nI i))], [], h, 198, sl) = some R := hh
  obtain ⟨n, hh⟩ := rn_i rfl rfl rfl rfl hh
  obtain ⟨n, hh⟩ := rn_i rfl rfl rfl rfl hh
  obtain ⟨n, hh⟩ := rn_i rfl rfl rfl rfl hh
  obtain ⟨n, hh⟩ := rn_i rfl rfl rfl rfl hh
  have hh : pm_run PT n fr lo 174 (20, [some (.ref 162), some (.ref 170), some (.int (nI m2)), some (.int x3), some (.int (nI i))], [.int (nI i), .int (nI 78), .ref 170, .int x3], h, 198, sl) = some R := hh
  obtain ⟨n, hh⟩ := en_add rfl hh
  have hh : pm_run PT n fr lo 174 (21, [some (.ref 162), some (.ref 170), some (.int (nI m2)), some (.int x3), some (.int (nI i))], [.int (nI (78 + i)), .ref 170, .int x3], h, 198, sl) = some R := hh
  have hh : pm_run PT n fr lo 174 (21, [some (.ref 162), some (.ref 170), some (.int (nI m2)), some (.int x3), some (.int (nI i))], [.int (nI (78 + i)), .ref 170, .int x3], h, 198, sl) = some R := hh
  obtain ⟨n, hx1, hh⟩ := en_lu (t := 78 + i) (f := Ar h 170) (w := (Ar h 170) (78 + i)) (nI_clamp (by omega)) hw.wt rfl (by decide) rfl (by decide) rfl (fun _ => rfl) hh
  obtain ⟨n, hh⟩ := rn_i rfl rfl rfl rfl hh
  have hh : pm_run PT n fr lo 174 (23, [some (.ref 162), some (.ref 170), some (.int (nI m2)), some (.int x3), some (.int (nI i))], [.int (nI m2), .int ((Ar h 170) (78 + i)), .int x3], h, 198, sl) = some R := hh
  obtain ⟨n, hh⟩ := en_cn (cc := .ne) (off := 10) (t := 33) (b := pm_cmp .ne ((Ar h 170) (78 + i)) (nI m2)) rfl rfl rfl hh
  have hj3 : ∃ mJ, pm_run PT mJ fr lo 174 (cond (pm_cmp .ne ((Ar h 170) (78 + i)) (nI m2)) (34, [some (.ref 162), some (.ref 170), some (.int (nI m2)), some (.int x3), some (.int (nI i))], [.int (nI 0), .int x3], h, 198, sl) (34, [some (.ref 162), some (.ref 170), some (.int (nI m2)), some (.int x3), some (.int (nI i))], [.int (shl (nI 1) (nI i)), .int x3], h, 198, sl)) = some R := en_J (fun z2 => by
      have hh := en_t z2 hh
      have hh : pm_run PT n fr lo 174 (33, [some (.ref 162), some (.ref 170), some (.int (nI m2)), some (.int x3), some (.int (nI i))], [.int x3], h, 198, sl) = some R := hh
      obtain ⟨n, hh⟩ := rn_i rfl rfl rfl rfl hh
      exact ⟨n, hh⟩) (fun z2 => by
      have hh := en_f z2 hh
      have hh : pm_run PT n fr lo 174 (26, [some (.ref 162), some (.ref 170), some (.int (nI m2)), some (.int x3), some (.int (nI i))], [.int x3], h, 198, sl) = some R := hh
      obtain ⟨n, hh⟩ := rn_i rfl rfl rfl rfl hh
      obtain ⟨n, hh⟩ := rn_i rfl rfl rfl rfl hh
      obtain ⟨n, hh⟩ := rn_i rfl rfl rfl rfl hh
      obtain ⟨n, hh⟩ := rn_i rfl rfl rfl rfl hh
      exact ⟨n, hh⟩)
  obtain ⟨n, hh⟩ := hj3
  rw [show (cond (pm_cmp .ne ((Ar h 170) (78 + i)) (nI m2)) (34, [some (.ref 162), some (.ref 170), some (.int (nI m2)), some (.int x3), some (.int (nI i))], [.int (nI 0), .int x3], h, 198, sl) (34, [some (.ref 162), some (.ref 170), some (.int (nI m2)), some (.int x3), some (.int (nI i))], [.int (shl (nI 1) (nI i)), .int x3], h, 198, sl) : pm_St) = (34, [some (.ref 162), some (.ref 170), some (.int (nI m2)), some (.int x3), some (.int (nI i))], [.int (cond (pm_cmp .ne ((Ar h 170) (78 + i)) (nI m2)) (nI 0) (shl (nI 1) (nI i))), .int x3], h, 198, sl) from by cases (pm_cmp .ne ((Ar h 170) (78 + i)) (nI m2)) <;> rfl] at hh
  obtain ⟨n, hh⟩ := rn_i rfl rfl rfl rfl hh
  obtain ⟨n, hh⟩ := rn_i rfl rfl rfl rfl hh
  have hh : pm_run PT n fr lo 174 (36, [some (.ref 162), some (.ref 170), some (.int (nI m2)), some (.int (x3 ||| (cond (pm_cmp .ne ((Ar h 170) (78 + i)) (nI m2)) (nI 0) (shl (nI 1) (nI i))))), some (.int (nI i))], [], h, 198, sl) = some R := hh
  obtain ⟨n, hh⟩ := en_inc (x := i) (c := 1) (j := 4) rfl rfl (by decide) hh
  have hh : pm_run PT n fr lo 174 (39, [some (.ref 162), some (.ref 170), some (.int (nI m2)), some (.int (x3 ||| (cond (pm_cmp .ne ((Ar h 170) (78 + i)) (nI m2)) (nI 0) (shl (nI 1) (nI i))))), some (.int (nI (i + 1)))], [], h, 198, sl) = some R := hh
  obtain ⟨n, hh⟩ := rn_i rfl rfl rfl rfl hh
  have ed : v174_5b q cc gc (Ar h 170) m2 i x3 = x3 ||| (cond (pm_cmp .ne ((Ar h 170) (78 + i)) (nI m2)) (nI 0) (shl (nI 1) (nI i))) := rfl
  rw [ed]
  exact ⟨n, hh⟩
theorem v174_5_ok {fr lo sl cc gc : Nat} {q : QT} {R : pm_Rs} {m2 : Nat} : ∀ {j i : Nat} {x3 : Int32} {h : pm_H} {n : Nat}, gc - i = j → i + j < 1000000 → HC q cc gc h → m2 < 10000 → pm_run PT n fr lo 174 (5, [some (.ref 162), some (.ref 170), some (.int (nI m2)), some (.int x3), some (.int (nI i))], [], h, 198, sl) = some R → ∃ m wc, pm_run PT m fr lo 174 (42, [some (.ref 162), some (.ref 170), some (.int (nI m2)), some (.int (v174_5 q cc gc (Ar h 170) m2 j i x3)), wc], [], h, 198, sl) = some R := by
  intro j
  induction j with
  | zero =>
    intro i x3 h n e eI hw h_m2 hh
    obtain ⟨n, hh⟩ := v174_5_e hw h_m2 (by omega) (by omega) hh
    exact ⟨n, _, hh⟩
  | succ j ih =>
    intro i x3 h n e eI hw h_m2 hh
    obtain ⟨n, hh⟩ := v174_5_s hw h_m2 (by omega) (by omega) hh
    obtain ⟨n, wc, hh⟩ := ih (by omega) (by omega) hw h_m2 hh
    exact ⟨n, wc, hh⟩
def v174 (q : QT) (cc gc : Nat) (d0 : Nat → Int32) (c : Nat) : Int32 := (v174_5 q cc gc (d0) c gc 0 (nI 0))
theorem v174_ok {n fr lo sl cc gc : Nat} {q : QT} {h : pm_H} {R : pm_Rs} {c : Nat} (hw : HC q cc gc h) (h_c : c < 10000) (hh : pm_run PT n fr lo 174 (0, pm_l0 [.ref 162, .ref 170, .int (nI c)] 5, [], h, 198, sl) = some R) : R = (some (.int (v174 q cc gc (Ar h 170) c)), h, 198, sl) := by
  have hcc := hw.cb
  have hgc := hw.gb
  have hzr := hw.zr
  obtain ⟨n, hh⟩ := rn_i rfl rfl rfl rfl hh
  obtain ⟨n, hh⟩ := rn_i rfl rfl rfl rfl hh
  obtain ⟨n, hh⟩ := rn_i rfl rfl rfl rfl hh
  obtain ⟨n, hh⟩ := rn_i rfl rfl rfl rfl hh
  have hh : pm_run PT n fr lo 174 (5, [some (.ref 162), some (.ref 170), some (.int (nI c)), some (.int (nI 0)), some (.int (nI 0))], [], h, 198, sl) = some R := hh
  obtain ⟨n, u1, hh⟩ := v174_5_ok (m2 := c)  (i := 0) (x3 := (nI 0)) (j := gc) (by omega) (by omega) hw (by omega) hh
  have hh : pm_run PT n fr lo 174 (42, [some (.ref 162), some (.ref 170), some (.int (nI c)), some (.int (v174_5 q cc gc (Ar h 170) c gc 0 (nI 0))), u1], [], h, 198, sl) = some R := hh
  obtain ⟨n, hh⟩ := rn_i rfl rfl rfl rfl hh
  have hh : pm_run PT n fr lo 174 (43, [some (.ref 162), some (.ref 170), some (.int (nI c)), some (.int (v174_5 q cc gc (Ar h 170) c gc 0 (nI 0))), u1], [.int (v174_5 q cc gc (Ar h 170) c gc 0 (nI 0))], h, 198, sl) = some R := hh
  have er2 : R = (some (.int (v174_5 q cc gc (Ar h 170) c gc 0 (nI 0))), h, 198, sl) := (rn_ret rfl (Or.inl rfl) hh).2
  have ed : v174 q cc gc (Ar h 170) c = (v174_5 q cc gc (Ar h 170) c gc 0 (nI 0)) := rfl
  rw [ed]
  exact er2
def v177_4b (q : QT) (cc gc : Nat) (d0 : Nat → Int32) (i : Nat) (x2 : Int32) : Int32 := x2 + ((d0) i)
def v177_4 (q : QT) (cc gc : Nat) (d0 : Nat → Int32) (j i : Nat) (a : Int32) : Int32 := lp (fun i a => v177_4b q cc gc d0 i a) j i a
theorem v177_4_e {n fr lo sl cc gc : Nat} {q : QT} {h : pm_H} {R : pm_Rs} {i : Nat} {x2 : Int32} (hw : HC q cc gc h) (hi : cc ≤ i) (hI : i < 1000000) (hh : pm_run PT n fr lo 177 (4, [some (.ref 162), some (.ref 170), some (.int x2), some (.int (nI i))], [], h, 198, sl) = some R) : ∃ m, pm_run PT m fr lo 177 (24, [some (.ref 162), some (.ref 170), some (.int x2), some (.int (nI i))], [], h, 198, sl) = some R := by
  have hcc := hw.cb
  have hgc := hw.gb
  have hzr := hw.zr
  obtain ⟨n, hh⟩ := rn_i rfl rfl rfl rfl hh
  obtain ⟨n, hh⟩ := rn_i rfl rfl rfl rfl hh
  have hh : pm_run PT n fr lo 177 (6, [some (.ref 162), some (.ref 170), some (.int x2), some (.int (nI i))], [.ref 162, .int (nI i)], h, 198, sl) = some R := hh
  obtain ⟨n, hh⟩ := rn_gi (x := nI cc) hw.wt rfl rfl (by decide) rfl (by decide) rfl hw.m3 hh
  have hh : pm_run PT n fr lo 177 (9, [some (.ref 162), some (.ref 170), some (.int x2), some (.int (nI i))], [.int (nI cc), .int (nI i)], h, 198, sl) = some R := hh
  obtain ⟨n, hh⟩ := en_cn (cc := .ge) (off := 15) (t := 24) (b := decide (cc ≤ i)) (hI_ge (by omega) (by omega)) rfl rfl hh
  have hh := en_t (show decide (cc ≤ i) = true from decide_eq_true (by omega)) hh
  have hh : pm_run PT n fr lo 177 (24, [some (.ref 162), some (.ref 170), some (.int x2), some (.int (nI i))], [], h, 198, sl) = some R := hh
  exact ⟨n, hh⟩
theorem v177_4_s {n fr lo sl cc gc : Nat} {q : QT} {h : pm_H} {R : pm_Rs} {i : Nat} {x2 : Int32} (hw : HC q cc gc h) (hi : i < cc) (hI : i < 1000000) (hh : pm_run PT n fr lo 177 (4, [some (.ref 162), some (.ref 170), some (.int x2), some (.int (nI i))], [], h, 198, sl) = some R) : ∃ m, pm_run PT m fr lo 177 (4, [some (.ref 162), some (.ref 170), some (.int (v177_4b q cc gc (Ar h 170) i x2)), some (.int (nI (i + 1)))], [], h, 198, sl) = some R := by
  have hcc := hw.cb
  have hgc := hw.gb
  have hzr := hw.zr
  obtain ⟨n, hh⟩ := rn_i rfl rfl rfl rfl hh
  obtain ⟨n, hh⟩ := rn_i rfl rfl rfl rfl hh
  have hh : pm_run PT n fr lo 177 (6, [some (.ref 162), some (.ref 170), some (.int x2), some (.int (nI i))], [.ref 162, .int (nI i)], h, 198, sl) = some R := hh
  obtain ⟨n, hh⟩ := rn_gi (x := nI cc) hw.wt rfl rfl (by decide) rfl (by decide) rfl hw.m3 hh
  have hh : pm_run PT n fr lo 177 (9, [some (.ref 162), some (.ref 170), some (.int x2), some (.int (nI i))], [.int (nI cc), .int (nI i)], h, 198, sl) = some R := hh
  obtain ⟨n, hh⟩ := en_cn (cc := .ge) (off := 15) (t := 24) (b := decide (cc ≤ i)) (hI_ge (by omega) (by omega)) rfl rfl hh
  have hh := en_f (show decide (cc ≤ i) = false from decide_eq_false (by omega)) hh
  have hh : pm_run PT n fr lo 177 (12, [some (.ref 162), some (.ref 170), some (.int x2), some (.int (nI i))], [], h, 198, sl) = some R := hh
  obtain ⟨n, hh⟩ := rn_i rfl rfl rfl rfl hh
  obtain ⟨n, hh⟩ := rn_i rfl rfl rfl rfl hh
  obtain ⟨n, hh⟩ := rn_i rfl rfl rfl rfl hh
  have hh : pm_run PT n fr lo 177 (15, [some (.ref 162), some (.ref 170), some (.int x2), some (.int (nI i))], [.int (nI i), .ref 170, .int x2], h, 198, sl) = some R := hh
  obtain ⟨n, hx1, hh⟩ := en_lu (t := i) (f := Ar h 170) (w := (Ar h 170) i) (nI_clamp (by omega)) hw.wt rfl (by decide) rfl (by decide) rfl (fun _ => rfl) hh
  obtain ⟨n, hh⟩ := rn_i rfl rfl rfl rfl hh
  obtain ⟨n, hh⟩ := rn_i rfl rfl rfl rfl hh
  have hh : pm_run PT n fr lo 177 (18, [some (.ref 162), some (.ref 170), some (.int (x2 + ((Ar h 170) i))), some (.int (nI i))], [], h, 198, sl) = some R := hh
  obtain ⟨n, hh⟩ := en_inc (x := i) (c := 1) (j := 3) rfl rfl (by decide) hh
  have hh : pm_run PT n fr lo 177 (21, [some (.ref 162), some (.ref 170), some (.int (x2 + ((Ar h 170) i))), some (.int (nI (i + 1)))], [], h, 198, sl) = some R := hh
  obtain ⟨n, hh⟩ := rn_i rfl rfl rfl rfl hh
  have ed : v177_4b q cc gc (Ar h 170) i x2 = x2 + ((Ar h 170) i) := rfl
  rw [ed]
  exact ⟨n, hh⟩
theorem v177_4_ok {fr lo sl cc gc : Nat} {q : QT} {R : pm_Rs} : ∀ {j i : Nat} {x2 : Int32} {h : pm_H} {n : Nat}, cc - i = j → i + j < 1000000 → HC q cc gc h → pm_run PT n fr lo 177 (4, [some (.ref 162), some (.ref 170), some (.int x2), some (.int (nI i))], [], h, 198, sl) = some R → ∃ m wc, pm_run PT m fr lo 177 (24, [some (.ref 162), some (.ref 170), some (.int (v177_4 q cc gc (Ar h 170) j i x2)), wc], [], h, 198, sl) = some R := by
  intro j
  induction j with
  | zero =>
    intro i x2 h n e eI hw hh
    obtain ⟨n, hh⟩ := v177_4_e hw (by omega) (by omega) hh
    exact ⟨n, _, hh⟩
  | succ j ih =>
    intro i x2 h n e eI hw hh
    obtain ⟨n, hh⟩ := v177_4_s hw (by omega) (by omega) hh
    obtain ⟨n, wc, hh⟩ := ih (by omega) (by omega) hw hh
    exact ⟨n, wc, hh⟩
def v177 (q : QT) (cc gc : Nat) (d0 : Nat → Int32) : Int32 := (v177_4 q cc gc (d0) cc 0 (nI 0))
theorem v177_ok {n fr lo sl cc gc : Nat} {q : QT} {h : pm_H} {R : pm_Rs} (hw : HC q cc gc h) (hh : pm_run PT n fr lo 177 (0, pm_l0 [.ref 162, .ref 170] 4, [], h, 198, sl) = some R) : R = (some (.int (v177 q cc gc (Ar h 170))), h, 198, sl) := by
  have hcc := hw.cb
  have hgc := hw.gb
  have hzr := hw.zr
  obtain ⟨n, hh⟩ := rn_i rfl rfl rfl rfl hh
  obtain ⟨n, hh⟩ := rn_i rfl rfl rfl rfl hh
  obtain ⟨n, hh⟩ := rn_i rfl rfl rfl rfl hh
  obtain ⟨n, hh⟩ := rn_i rfl rfl rfl rfl hh
  have hh : pm_run PT n fr lo 177 (4, [some (.ref 162), some (.ref 170), some (.int (nI 0)), some (.int (nI 0))], [], h, 198, sl) = some R := hh
  obtain ⟨n, u1, hh⟩ := v177_4_ok  (i := 0) (x2 := (nI 0)) (j := cc) (by omega) (by omega) hw hh
  have hh : pm_run PT n fr lo 177 (24, [some (.ref 162), some (.ref 170), some (.int (v177_4 q cc gc (Ar h 170) cc 0 (nI 0))), u1], [], h, 198, sl) = some R := hh
  obtain ⟨n, hh⟩ := rn_i rfl rfl rfl rfl hh
  have hh : pm_run PT n fr lo 177 (25, [some (.ref 162), some (.ref 170), some (.int (v177_4 q cc gc (Ar h 170) cc 0 (nI 0))), u1], [.int (v177_4 q cc gc (Ar h 170) cc 0 (nI 0))], h, 198, sl) = some R := hh
  have er2 : R = (some (.int (v177_4 q cc gc (Ar h 170) cc 0 (nI 0))), h, 198, sl) := (rn_ret rfl (Or.inl rfl) hh).2
  have ed : v177 q cc gc (Ar h 170) = (v177_4 q cc gc (Ar h 170) cc 0 (nI 0)) := rfl
  rw [ed]
  exact er2
theorem v173t_ok {n fr lo sl cc gc : Nat} {q : QT} {h : pm_H} {R : pm_Rs} {g : Nat} (hw : HC q cc gc h) (h_g : g < 10000) (hh : pm_run PT n fr lo 173 (0, pm_l0 [.ref 171, .int (nI g)] 2, [], h, 198, sl) = some R) : R = (some (.int (cond (v173 q cc gc (Ar h 171) g) 1 0)), h, 198, sl) := by
  have hcc := hw.cb
  have hgc := hw.gb
  have hzr := hw.zr
  obtain ⟨n, hh⟩ := rn_i rfl rfl rfl rfl hh
  obtain ⟨n, hh⟩ := rn_i rfl rfl rfl rfl hh
  have hh : pm_run PT n fr lo 173 (3, [some (.ref 171), some (.int (nI g))], [.int (nI 94), .ref 171], h, 198, sl) = some R := hh
  obtain ⟨n, hx1, hh⟩ := en_lu (t := 94) (f := Ar h 171) (w := (Ar h 171) 94) (nI_clamp (by omega)) hw.wt rfl (by decide) rfl (by decide) rfl (fun _ => rfl) hh
  obtain ⟨n, hh⟩ := rn_i rfl rfl rfl rfl hh
  have hh : pm_run PT n fr lo 173 (5, [some (.ref 171), some (.int (nI g))], [.int (nI g), .int ((Ar h 171) 94)], h, 198, sl) = some R := hh
  obtain ⟨n, fr1, lo1, r1, hh1, hh⟩ := rn_call (w := 2) (t := 164) rfl rfl hh
  have er2 := v164_ok (a := ((Ar h 171) 94)) (b := (nI g)) hw hh1
  subst er2
  have hh : pm_run PT n fr lo 173 (8, [some (.ref 171), some (.int (nI g))], [.int (cond (v164 q cc gc ((Ar h 171) 94) (nI g)) 1 0)], h, 198, sl) = some R := hh
  have er3 : R = (some (.int (cond (v164 q cc gc ((Ar h 171) 94) (nI g)) 1 0)), h, 198, sl) := (rn_ret rfl (Or.inr rfl) hh).2
  have ed : v173 q cc gc (Ar h 171) g = v164 q cc gc ((Ar h 171) 94) (nI g) := rfl
  rw [ed]
  exact er3
theorem v175t_ok {n fr lo sl cc gc : Nat} {q : QT} {h : pm_H} {R : pm_Rs} {a : Nat} {b : Nat} (hw : HC q cc gc h) (h_a : a < 10000) (h_b : b < 10000) (hh : pm_run PT n fr lo 175 (0, pm_l0 [.ref 171, .int (nI a), .int (nI b)] 3, [], h, 198, sl) = some R) : R = (some (.int (cond (v175 q cc gc (Ar h 171) a b) 1 0)), h, 198, sl) := by
  have hcc := hw.cb
  have hgc := hw.gb
  have hzr := hw.zr
  obtain ⟨n, hh⟩ := rn_i rfl rfl rfl rfl hh
  obtain ⟨n, hh⟩ := rn_i rfl rfl rfl rfl hh
  have hh : pm_run PT n fr lo 175 (2, [some (.ref 171), some (.int (nI a)), some (.int (nI b))], [.int (nI b), .int (nI a)], h, 198, sl) = some R := hh
  obtain ⟨n, hh⟩ := en_cn (cc := .eq) (off := 29) (t := 31) (b := decide (a = b)) (hI_eq (by omega) (by omega)) rfl rfl hh
  have hj10 : ∃ mJ, pm_run PT mJ fr lo 175 (cond (decide (a = b)) (32, [some (.ref 171), some (.int (nI a)), some (.int (nI b))], [.int (nI 0)], h, 198, sl) (32, [some (.ref 171), some (.int (nI a)), some (.int (nI b))], [.int (cond (cond (pm_cmp .lt ((Ar h 171) (6 + 6 * a + b)) (nI 15)) false (cond (pm_cmp .lt ((Ar h 171) (6 + 6 * b + a)) (nI 15)) false true)) 1 0)], h, 198, sl)) = some R := en_J (fun z1 => by
      have hh := en_t z1 hh
      have hh : pm_run PT n fr lo 175 (31, [some (.ref 171), some (.int (nI a)), some (.int (nI b))], [], h, 198, sl) = some R := hh
      have y_z1 := of_decide_eq_true z1
      obtain ⟨n, hh⟩ := rn_i rfl rfl rfl rfl hh
      exact ⟨n, hh⟩) (fun z1 => by
      have hh := en_f z1 hh
      have hh : pm_run PT n fr lo 175 (5, [some (.ref 171), some (.int (nI a)), some (.int (nI b))], [], h, 198, sl) = some R := hh
      have y_z1 := of_decide_eq_false z1
      obtain ⟨n, hh⟩ := rn_i rfl rfl rfl rfl hh
      obtain ⟨n, hh⟩ := rn_i rfl rfl rfl rfl hh
      obtain ⟨n, hh⟩ := rn_i rfl rfl rfl rfl hh
      have hh : pm_run PT n fr lo 175 (8, [some (.ref 171), some (.int (nI a)), some (.int (nI b))], [.int (nI b), .int (nI a), .ref 171], h, 198, sl) = some R := hh
      obtain ⟨n, fr1, lo1, r1, hh1, hh⟩ := rn_call (w := 2) (t := 171) rfl rfl hh
      have hh1 : pm_run PT n fr1 lo1 171 (0, [some (.ref 171), some (.int (nI a)), some (.int (nI b))], [], h, 198, sl) = some r1 := hh1
      obtain ⟨n1, hh1⟩ := rn_i rfl rfl rfl rfl hh1
      obtain ⟨n1, hh1⟩ := rn_i rfl rfl rfl rfl hh1
      obtain ⟨n1, hh1⟩ := rn_i rfl rfl rfl rfl hh1
      obtain ⟨n1, hh1⟩ := rn_i rfl rfl rfl rfl hh1
      have hh1 : pm_run PT n1 fr1 lo1 171 (6, [some (.ref 171), some (.int (nI a)), some (.int (nI b))], [.int (nI a), .int (nI 6), .int (nI 6), .ref 171], h, 198, sl) = some r1 := hh1
      obtain ⟨n1, hh1⟩ := en_mul rfl hh1
      have hh1 : pm_run PT n1 fr1 lo1 171 (7, [some (.ref 171), some (.int (nI a)), some (.int (nI b))], [.int (nI (6 * a)), .int (nI 6), .ref 171], h, 198, sl) = some r1 := hh1
      have hh1 : pm_run PT n1 fr1 lo1 171 (7, [some (.ref 171), some (.int (nI a)), some (.int (nI b))], [.int (nI (6 * a)), .int (nI 6), .ref 171], h, 198, sl) = some r1 := hh1
      obtain ⟨n1, hh1⟩ := en_add rfl hh1
      have hh1 : pm_run PT n1 fr1 lo1 171 (8, [some (.ref 171), some (.int (nI a)), some (.int (nI b))], [.int (nI (6 + 6 * a)), .ref 171], h, 198, sl) = some r1 := hh1
      obtain ⟨n1, hh1⟩ := rn_i rfl rfl rfl rfl hh1
      have hh1 : pm_run PT n1 fr1 lo1 171 (9, [some (.ref 171), some (.int (nI a)), some (.int (nI b))], [.int (nI b), .int (nI (6 + 6 * a)), .ref 171], h, 198, sl) = some r1 := hh1
      obtain ⟨n1, hh1⟩ := en_add rfl hh1
      have hh1 : pm_run PT n1 fr1 lo1 171 (10, [some (.ref 171), some (.int (nI a)), some (.int (nI b))], [.int (nI (6 + 6 * a + b)), .ref 171], h, 198, sl) = some r1 := hh1
      have hh1 : pm_run PT n1 fr1 lo1 171 (10, [some (.ref 171), some (.int (nI a)), some (.int (nI b))], [.int (nI (6 + 6 * a + b)), .ref 171], h, 198, sl) = some r1 := hh1
      obtain ⟨n1, hx2, hh1⟩ := en_lu (t := 6 + 6 * a + b) (f := Ar h 171) (w := (Ar h 171) (6 + 6 * a + b)) (nI_clamp (by omega)) hw.wt rfl (by decide) rfl (by decide) rfl (fun _ => rfl) hh1
      have hh1 : pm_run PT n1 fr1 lo1 171 (11, [some (.ref 171), some (.int (nI a)), some (.int (nI b))], [.int ((Ar h 171) (6 + 6 * a + b))], h, 198, sl) = some r1 := hh1
      have er3 : r1 = (some (.int ((Ar h 171) (6 + 6 * a + b))), h, 198, sl) := (rn_ret rfl (Or.inl rfl) hh1).2
      subst er3
      obtain ⟨n, hh⟩ := rn_i rfl rfl rfl rfl hh
      have hh : pm_run PT n fr lo 175 (13, [some (.ref 171), some (.int (nI a)), some (.int (nI b))], [.int (nI 15), .int ((Ar h 171) (6 + 6 * a + b))], h, 198, sl) = some R := hh
      obtain ⟨n, hh⟩ := en_cn (cc := .lt) (off := 18) (t := 31) (b := pm_cmp .lt ((Ar h 171) (6 + 6 * a + b)) (nI 15)) rfl rfl rfl hh
      have hj9 : ∃ mJ, pm_run PT mJ fr lo 175 (cond (pm_cmp .lt ((Ar h 171) (6 + 6 * a + b)) (nI 15)) (32, [some (.ref 171), some (.int (nI a)), some (.int (nI b))], [.int (nI 0)], h, 198, sl) (32, [some (.ref 171), some (.int (nI a)), some (.int (nI b))], [.int (cond (cond (pm_cmp .lt ((Ar h 171) (6 + 6 * b + a)) (nI 15)) false true) 1 0)], h, 198, sl)) = some R := en_J (fun z4 => by
          have hh := en_t z4 hh
          have hh : pm_run PT n fr lo 175 (31, [some (.ref 171), some (.int (nI a)), some (.int (nI b))], [], h, 198, sl) = some R := hh
          obtain ⟨n, hh⟩ := rn_i rfl rfl rfl rfl hh
          exact ⟨n, hh⟩) (fun z4 => by
          have hh := en_f z4 hh
          have hh : pm_run PT n fr lo 175 (16, [some (.ref 171), some (.int (nI a)), some (.int (nI b))], [], h, 198, sl) = some R := hh
          obtain ⟨n, hh⟩ := rn_i rfl rfl rfl rfl hh
          obtain ⟨n, hh⟩ := rn_i rfl rfl rfl rfl hh
          obtain ⟨n, hh⟩ := rn_i rfl rfl rfl rfl hh
          have hh : pm_run PT n fr lo 175 (19, [some (.ref 171), some (.int (nI a)), some (.int (nI b))], [.int (nI a), .int (nI b), .ref 171], h, 198, sl) = some R := hh
          obtain ⟨n, fr1, lo1, r1, hh1, hh⟩ := rn_call (w := 2) (t := 171) rfl rfl hh
          have hh1 : pm_run PT n fr1 lo1 171 (0, [some (.ref 171), some (.int (nI b)), some (.int (nI a))], [], h, 198, sl) = some r1 := hh1
          obtain ⟨n1, hh1⟩ := rn_i rfl rfl rfl rfl hh1
          obtain ⟨n1, hh1⟩ := rn_i rfl rfl rfl rfl hh1
          obtain ⟨n1, hh1⟩ := rn_i rfl rfl rfl rfl hh1
          obtain ⟨n1, hh1⟩ := rn_i rfl rfl rfl rfl hh1
          have hh1 : pm_run PT n1 fr1 lo1 171 (6, [some (.ref 171), some (.int (nI b)), some (.int (nI a))], [.int (nI b), .int (nI 6), .int (nI 6), .ref 171], h, 198, sl) = some r1 := hh1
          obtain ⟨n1, hh1⟩ := en_mul rfl hh1
          have hh1 : pm_run PT n1 fr1 lo1 171 (7, [some (.ref 171), some (.int (nI b)), some (.int (nI a))], [.int (nI (6 * b)), .int (nI 6), .ref 171], h, 198, sl) = some r1 := hh1
          have hh1 : pm_run PT n1 fr1 lo1 171 (7, [some (.ref 171), some (.int (nI b)), some (.int (nI a))], [.int (nI (6 * b)), .int (nI 6), .ref 171], h, 198, sl) = some r1 := hh1
          obtain ⟨n1, hh1⟩ := en_add rfl hh1
          have hh1 : pm_run PT n1 fr1 lo1 171 (8, [some (.ref 171), some (.int (nI b)), some (.int (nI a))], [.int (nI (6 + 6 * b)), .ref 171], h, 198, sl) = some r1 := hh1
          obtain ⟨n1, hh1⟩ := rn_i rfl rfl rfl rfl hh1
          have hh1 : pm_run PT n1 fr1 lo1 171 (9, [some (.ref 171), some (.int (nI b)), some (.int (nI a))], [.int (nI a), .int (nI (6 + 6 * b)), .ref 171], h, 198, sl) = some r1 := hh1
          obtain ⟨n1, hh1⟩ := en_add rfl hh1
          have hh1 : pm_run PT n1 fr1 lo1 171 (10, [some (.ref 171), some (.int (nI b)), some (.int (nI a))], [.int (nI (6 + 6 * b + a)), .ref 171], h, 198, sl) = some r1 := hh1
          have hh1 : pm_run PT n1 fr1 lo1 171 (10, [some (.ref 171), some (.int (nI b)), some (.int (nI a))], [.int (nI (6 + 6 * b + a)), .ref 171], h, 198, sl) = some r1 := hh1
          obtain ⟨n1, hx5, hh1⟩ := en_lu (t := 6 + 6 * b + a) (f := Ar h 171) (w := (Ar h 171) (6 + 6 * b + a)) (nI_clamp (by omega)) hw.wt rfl (by decide) rfl (by decide) rfl (fun _ => rfl) hh1
          have hh1 : pm_run PT n1 fr1 lo1 171 (11, [some (.ref 171), some (.int (nI b)), some (.int (nI a))], [.int ((Ar h 171) (6 + 6 * b + a))], h, 198, sl) = some r1 := hh1
          have er6 : r1 = (some (.int ((Ar h 171) (6 + 6 * b + a))), h, 198, sl) := (rn_ret rfl (Or.inl rfl) hh1).2
          subst er6
          obtain ⟨n, hh⟩ := rn_i rfl rfl rfl rfl hh
          have hh : pm_run PT n fr lo 175 (24, [some (.ref 171), some (.int (nI a)), some (.int (nI b))], [.int (nI 15), .int ((Ar h 171) (6 + 6 * b + a))], h, 198, sl) = some R := hh
          obtain ⟨n, hh⟩ := en_cn (cc := .lt) (off := 7) (t := 31) (b := pm_cmp .lt ((Ar h 171) (6 + 6 * b + a)) (nI 15)) rfl rfl rfl hh
          have hj8 : ∃ mJ, pm_run PT mJ fr lo 175 (cond (pm_cmp .lt ((Ar h 171) (6 + 6 * b + a)) (nI 15)) (32, [some (.ref 171), some (.int (nI a)), some (.int (nI b))], [.int (nI 0)], h, 198, sl) (32, [some (.ref 171), some (.int (nI a)), some (.int (nI b))], [.int (nI 1)], h, 198, sl)) = some R := en_J (fun z7 => by
              have hh := en_t z7 hh
              have hh : pm_run PT n fr lo 175 (31, [some (.ref 171), some (.int (nI a)), some (.int (nI b))], [], h, 198, sl) = some R := hh
              obtain ⟨n, hh⟩ := rn_i rfl rfl rfl rfl hh
              exact ⟨n, hh⟩) (fun z7 => by
              have hh := en_f z7 hh
              have hh : pm_run PT n fr lo 175 (27, [some (.ref 171), some (.int (nI a)), some (.int (nI b))], [], h, 198, sl) = some R := hh
              obtain ⟨n, hh⟩ := rn_i rfl rfl rfl rfl hh
              obtain ⟨n, hh⟩ := rn_i rfl rfl rfl rfl hh
              exact ⟨n, hh⟩)
          obtain ⟨n, hh⟩ := hj8
          rw [show (cond (pm_cmp .lt ((Ar h 171) (6 + 6 * b + a)) (nI 15)) (32, [some (.ref 171), some (.int (nI a)), some (.int (nI b))], [.int (nI 0)], h, 198, sl) (32, [some (.ref 171), some (.int (nI a)), some (.int (nI b))], [.int (nI 1)], h, 198, sl) : pm_St) = (32, [some (.ref 171), some (.int (nI a)), some (.int (nI b))], [.int (cond (cond (pm_cmp .lt ((Ar h 171) (6 + 6 * b + a)) (nI 15)) false true) 1 0)], h, 198, sl) from by cases (pm_cmp .lt ((Ar h 171) (6 + 6 * b + a)) (nI 15)) <;> rfl] at hh
          exact ⟨n, hh⟩)
      obtain ⟨n, hh⟩ := hj9
      rw [show (cond (pm_cmp .lt ((Ar h 171) (6 + 6 * a + b)) (nI 15)) (32, [some (.ref 171), some (.int (nI a)), some (.int (nI b))], [.int (nI 0)], h, 198, sl) (32, [some (.ref 171), some (.int (nI a)), some (.int (nI b))], [.int (cond (cond (pm_cmp .lt ((Ar h 171) (6 + 6 * b + a)) (nI 15)) false true) 1 0)], h, 198, sl) : pm_St) = (32, [some (.ref 171), some (.int (nI a)), some (.int (nI b))], [.int (cond (cond (pm_cmp .lt ((Ar h 171) (6 + 6 * a + b)) (nI 15)) false (cond (pm_cmp .lt ((Ar h 171) (6 + 6 * b + a)) (nI 15)) false true)) 1 0)], h, 198, sl) from by cases (pm_cmp .lt ((Ar h 171) (6 + 6 * a + b)) (nI 15)) <;> rfl] at hh
      exact ⟨n, hh⟩)
  obtain ⟨n, hh⟩ := hj10
  rw [show (cond (decide (a = b)) (32, [some (.ref 171), some (.int (nI a)), some (.int (nI b))], [.int (nI 0)], h, 198, sl) (32, [some (.ref 171), some (.int (nI a)), some (.int (nI b))], [.int (cond (cond (pm_cmp .lt ((Ar h 171) (6 + 6 * a + b)) (nI 15)) false (cond (pm_cmp .lt ((Ar h 171) (6 + 6 * b + a)) (nI 15)) false true)) 1 0)], h, 198, sl) : pm_St) = (32, [some (.ref 171), some (.int (nI a)), some (.int (nI b))], [.int (cond (cond (decide (a = b)) false (cond (pm_cmp .lt ((Ar h 171) (6 + 6 * a + b)) (nI 15)) false (cond (pm_cmp .lt ((Ar h 171) (6 + 6 * b + a)) (nI 15)) false true))) 1 0)], h, 198, sl) from by cases (decide (a = b)) <;> rfl] at hh
  have hh : pm_run PT n fr lo 175 (32, [some (.ref 171), some (.int (nI a)), some (.int (nI b))], [.int (cond (cond (decide (a = b)) false (cond (pm_cmp .lt ((Ar h 171) (6 + 6 * a + b)) (nI 15)) false (cond (pm_cmp .lt ((Ar h 171) (6 + 6 * b + a)) (nI 15)) false true))) 1 0)], h, 198, sl) = some R := hh
  have er11 : R = (some (.int (cond (cond (decide (a = b)) false (cond (pm_cmp .lt ((Ar h 171) (6 + 6 * a + b)) (nI 15)) false (cond (pm_cmp .lt ((Ar h 171) (6 + 6 * b + a)) (nI 15)) false true))) 1 0)), h, 198, sl) := (rn_ret rfl (Or.inr rfl) hh).2
  have ed : v175 q cc gc (Ar h 171) a b = cond (decide (a = b)) false (cond (pm_cmp .lt ((Ar h 171) (6 + 6 * a + b)) (nI 15)) false (cond (pm_cmp .lt ((Ar h 171) (6 + 6 * b + a)) (nI 15)) false true)) := rfl
  rw [ed]
  exact er11
theorem v176t_ok {n fr lo sl cc gc : Nat} {q : QT} {h : pm_H} {R : pm_Rs} {a : Nat} {b : Nat} (hw : HC q cc gc h) (h_a : a < 10000) (h_b : b < 10000) (hh : pm_run PT n fr lo 176 (0, pm_l0 [.ref 171, .int (nI a), .int (nI b)] 3, [], h, 198, sl) = some R) : R = (some (.int (cond (v176 q cc gc (Ar h 171) a b) 1 0)), h, 198, sl) := by
  have hcc := hw.cb
  have hgc := hw.gb
  have hzr := hw.zr
  obtain ⟨n, hh⟩ := rn_i rfl rfl rfl rfl hh
  obtain ⟨n, hh⟩ := rn_i rfl rfl rfl rfl hh
  have hh : pm_run PT n fr lo 176 (2, [some (.ref 171), some (.int (nI a)), some (.int (nI b))], [.int (nI b), .int (nI a)], h, 198, sl) = some R := hh
  obtain ⟨n, hh⟩ := en_cn (cc := .eq) (off := 25) (t := 27) (b := decide (a = b)) (hI_eq (by omega) (by omega)) rfl rfl hh
  have hj10 : ∃ mJ, pm_run PT mJ fr lo 176 (cond (decide (a = b)) (28, [some (.ref 171), some (.int (nI a)), some (.int (nI b))], [.int (nI 0)], h, 198, sl) (28, [some (.ref 171), some (.int (nI a)), some (.int (nI b))], [.int (cond (cond (pm_cmp .eq ((Ar h 171) (6 + 6 * a + b)) 0) true (cond (pm_cmp .ne ((Ar h 171) (6 + 6 * b + a)) 0) false true)) 1 0)], h, 198, sl)) = some R := en_J (fun z1 => by
      have hh := en_t z1 hh
      have hh : pm_run PT n fr lo 176 (27, [some (.ref 171), some (.int (nI a)), some (.int (nI b))], [], h, 198, sl) = some R := hh
      have y_z1 := of_decide_eq_true z1
      obtain ⟨n, hh⟩ := rn_i rfl rfl rfl rfl hh
      exact ⟨n, hh⟩) (fun z1 => by
      have hh := en_f z1 hh
      have hh : pm_run PT n fr lo 176 (5, [some (.ref 171), some (.int (nI a)), some (.int (nI b))], [], h, 198, sl) = some R := hh
      have y_z1 := of_decide_eq_false z1
      obtain ⟨n, hh⟩ := rn_i rfl rfl rfl rfl hh
      obtain ⟨n, hh⟩ := rn_i rfl rfl rfl rfl hh
      obtain ⟨n, hh⟩ := rn_i rfl rfl rfl rfl hh
      have hh : pm_run PT n fr lo 176 (8, [some (.ref 171), some (.int (nI a)), some (.int (nI b))], [.int (nI b), .int (nI a), .ref 171], h, 198, sl) = some R := hh
      obtain ⟨n, fr1, lo1, r1, hh1, hh⟩ := rn_call (w := 2) (t := 171) rfl rfl hh
      have hh1 : pm_run PT n fr1 lo1 171 (0, [some (.ref 171), some (.int (nI a)), some (.int (nI b))], [], h, 198, sl) = some r1 := hh1
      obtain ⟨n1, hh1⟩ := rn_i rfl rfl rfl rfl hh1
      obtain ⟨n1, hh1⟩ := rn_i rfl rfl rfl rfl hh1
      obtain ⟨n1, hh1⟩ := rn_i rfl rfl rfl rfl hh1
      obtain ⟨n1, hh1⟩ := rn_i rfl rfl rfl rfl hh1
      have hh1 : pm_run PT n1 fr1 lo1 171 (6, [some (.ref 171), some (.int (nI a)), some (.int (nI b))], [.int (nI a), .int (nI 6), .int (nI 6), .ref 171], h, 198, sl) = some r1 := hh1
      obtain ⟨n1, hh1⟩ := en_mul rfl hh1
      have hh1 : pm_run PT n1 fr1 lo1 171 (7, [some (.ref 171), some (.int (nI a)), some (.int (nI b))], [.int (nI (6 * a)), .int (nI 6), .ref 171], h, 198, sl) = some r1 := hh1
      have hh1 : pm_run PT n1 fr1 lo1 171 (7, [some (.ref 171), some (.int (nI a)), some (.int (nI b))], [.int (nI (6 * a)), .int (nI 6), .ref 171], h, 198, sl) = some r1 := hh1
      obtain ⟨n1, hh1⟩ := en_add rfl hh1
      have hh1 : pm_run PT n1 fr1 lo1 171 (8, [some (.ref 171), some (.int (nI a)), some (.int (nI b))], [.int (nI (6 + 6 * a)), .ref 171], h, 198, sl) = some r1 := hh1
      obtain ⟨n1, hh1⟩ := rn_i rfl rfl rfl rfl hh1
      have hh1 : pm_run PT n1 fr1 lo1 171 (9, [some (.ref 171), some (.int (nI a)), some (.int (nI b))], [.int (nI b), .int (nI (6 + 6 * a)), .ref 171], h, 198, sl) = some r1 := hh1
      obtain ⟨n1, hh1⟩ := en_add rfl hh1
      have hh1 : pm_run PT n1 fr1 lo1 171 (10, [some (.ref 171), some (.int (nI a)), some (.int (nI b))], [.int (nI (6 + 6 * a + b)), .ref 171], h, 198, sl) = some r1 := hh1
      have hh1 : pm_run PT n1 fr1 lo1 171 (10, [some (.ref 171), some (.int (nI a)), some (.int (nI b))], [.int (nI (6 + 6 * a + b)), .ref 171], h, 198, sl) = some r1 := hh1
      obtain ⟨n1, hx2, hh1⟩ := en_lu (t := 6 + 6 * a + b) (f := Ar h 171) (w := (Ar h 171) (6 + 6 * a + b)) (nI_clamp (by omega)) hw.wt rfl (by decide) rfl (by decide) rfl (fun _ => rfl) hh1
      have hh1 : pm_run PT n1 fr1 lo1 171 (11, [some (.ref 171), some (.int (nI a)), some (.int (nI b))], [.int ((Ar h 171) (6 + 6 * a + b))], h, 198, sl) = some r1 := hh1
      have er3 : r1 = (some (.int ((Ar h 171) (6 + 6 * a + b))), h, 198, sl) := (rn_ret rfl (Or.inl rfl) hh1).2
      subst er3
      have hh : pm_run PT n fr lo 176 (11, [some (.ref 171), some (.int (nI a)), some (.int (nI b))], [.int ((Ar h 171) (6 + 6 * a + b))], h, 198, sl) = some R := hh
      obtain ⟨n, hh⟩ := en_zn (cc := .eq) (off := 12) (t := 23) (b := pm_cmp .eq ((Ar h 171) (6 + 6 * a + b)) 0) rfl rfl rfl hh
      have hj9 : ∃ mJ, pm_run PT mJ fr lo 176 (cond (pm_cmp .eq ((Ar h 171) (6 + 6 * a + b)) 0) (28, [some (.ref 171), some (.int (nI a)), some (.int (nI b))], [.int (nI 1)], h, 198, sl) (28, [some (.ref 171), some (.int (nI a)), some (.int (nI b))], [.int (cond (cond (pm_cmp .ne ((Ar h 171) (6 + 6 * b + a)) 0) false true) 1 0)], h, 198, sl)) = some R := en_J (fun z4 => by
          have hh := en_t z4 hh
          have hh : pm_run PT n fr lo 176 (23, [some (.ref 171), some (.int (nI a)), some (.int (nI b))], [], h, 198, sl) = some R := hh
          obtain ⟨n, hh⟩ := rn_i rfl rfl rfl rfl hh
          obtain ⟨n, hh⟩ := rn_i rfl rfl rfl rfl hh
          exact ⟨n, hh⟩) (fun z4 => by
          have hh := en_f z4 hh
          have hh : pm_run PT n fr lo 176 (14, [some (.ref 171), some (.int (nI a)), some (.int (nI b))], [], h, 198, sl) = some R := hh
          obtain ⟨n, hh⟩ := rn_i rfl rfl rfl rfl hh
          obtain ⟨n, hh⟩ := rn_i rfl rfl rfl rfl hh
          obtain ⟨n, hh⟩ := rn_i rfl rfl rfl rfl hh
          have hh : pm_run PT n fr lo 176 (17, [some (.ref 171), some (.int (nI a)), some (.int (nI b))], [.int (nI a), .int (nI b), .ref 171], h, 198, sl) = some R := hh
          obtain ⟨n, fr1, lo1, r1, hh1, hh⟩ := rn_call (w := 2) (t := 171) rfl rfl hh
          have hh1 : pm_run PT n fr1 lo1 171 (0, [some (.ref 171), some (.int (nI b)), some (.int (nI a))], [], h, 198, sl) = some r1 := hh1
          obtain ⟨n1, hh1⟩ := rn_i rfl rfl rfl rfl hh1
          obtain ⟨n1, hh1⟩ := rn_i rfl rfl rfl rfl hh1
          obtain ⟨n1, hh1⟩ := rn_i rfl rfl rfl rfl hh1
          obtain ⟨n1, hh1⟩ := rn_i rfl rfl rfl rfl hh1
          have hh1 : pm_run PT n1 fr1 lo1 171 (6, [some (.ref 171), some (.int (nI b)), some (.int (nI a))], [.int (nI b), .int (nI 6), .int (nI 6), .ref 171], h, 198, sl) = some r1 := hh1
          obtain ⟨n1, hh1⟩ := en_mul rfl hh1
          have hh1 : pm_run PT n1 fr1 lo1 171 (7, [some (.ref 171), some (.int (nI b)), some (.int (nI a))], [.int (nI (6 * b)), .int (nI 6), .ref 171], h, 198, sl) = some r1 := hh1
          have hh1 : pm_run PT n1 fr1 lo1 171 (7, [some (.ref 171), some (.int (nI b)), some (.int (nI a))], [.int (nI (6 * b)), .int (nI 6), .ref 171], h, 198, sl) = some r1 := hh1
          obtain ⟨n1, hh1⟩ := en_add rfl hh1
          have hh1 : pm_run PT n1 fr1 lo1 171 (8, [some (.ref 171), some (.int (nI b)), some (.int (nI a))], [.int (nI (6 + 6 * b)), .ref 171], h, 198, sl) = some r1 := hh1
          obtain ⟨n1, hh1⟩ := rn_i rfl rfl rfl rfl hh1
          have hh1 : pm_run PT n1 fr1 lo1 171 (9, [some (.ref 171), some (.int (nI b)), some (.int (nI a))], [.int (nI a), .int (nI (6 + 6 * b)), .ref 171], h, 198, sl) = some r1 := hh1
          obtain ⟨n1, hh1⟩ := en_add rfl hh1
          have hh1 : pm_run PT n1 fr1 lo1 171 (10, [some (.ref 171), some (.int (nI b)), some (.int (nI a))], [.int (nI (6 + 6 * b + a)), .ref 171], h, 198, sl) = some r1 := hh1
          have hh1 : pm_run PT n1 fr1 lo1 171 (10, [some (.ref 171), some (.int (nI b)), some (.int (nI a))], [.int (nI (6 + 6 * b + a)), .ref 171], h, 198, sl) = some r1 := hh1
          obtain ⟨n1, hx5, hh1⟩ := en_lu (t := 6 + 6 * b + a) (f := Ar h 171) (w := (Ar h 171) (6 + 6 * b + a)) (nI_clamp (by omega)) hw.wt rfl (by decide) rfl (by decide) rfl (fun _ => rfl) hh1
          have hh1 : pm_run PT n1 fr1 lo1 171 (11, [some (.ref 171), some (.int (nI b)), some (.int (nI a))], [.int ((Ar h 171) (6 + 6 * b + a))], h, 198, sl) = some r1 := hh1
          have er6 : r1 = (some (.int ((Ar h 171) (6 + 6 * b + a))), h, 198, sl) := (rn_ret rfl (Or.inl rfl) hh1).2
          subst er6
          have hh : pm_run PT n fr lo 176 (20, [some (.ref 171), some (.int (nI a)), some (.int (nI b))], [.int ((Ar h 171) (6 + 6 * b + a))], h, 198, sl) = some R := hh
          obtain ⟨n, hh⟩ := en_zn (cc := .ne) (off := 7) (t := 27) (b := pm_cmp .ne ((Ar h 171) (6 + 6 * b + a)) 0) rfl rfl rfl hh
          have hj8 : ∃ mJ, pm_run PT mJ fr lo 176 (cond (pm_cmp .ne ((Ar h 171) (6 + 6 * b + a)) 0) (28, [some (.ref 171), some (.int (nI a)), some (.int (nI b))], [.int (nI 0)], h, 198, sl) (28, [some (.ref 171), some (.int (nI a)), some (.int (nI b))], [.int (nI 1)], h, 198, sl)) = some R := en_J (fun z7 => by
              have hh := en_t z7 hh
              have hh : pm_run PT n fr lo 176 (27, [some (.ref 171), some (.int (nI a)), some (.int (nI b))], [], h, 198, sl) = some R := hh
              obtain ⟨n, hh⟩ := rn_i rfl rfl rfl rfl hh
              exact ⟨n, hh⟩) (fun z7 => by
              have hh := en_f z7 hh
              have hh : pm_run PT n fr lo 176 (23, [some (.ref 171), some (.int (nI a)), some (.int (nI b))], [], h, 198, sl) = some R := hh
              obtain ⟨n, hh⟩ := rn_i rfl rfl rfl rfl hh
              obtain ⟨n, hh⟩ := rn_i rfl rfl rfl rfl hh
              exact ⟨n, hh⟩)
          obtain ⟨n, hh⟩ := hj8
          rw [show (cond (pm_cmp .ne ((Ar h 171) (6 + 6 * b + a)) 0) (28, [some (.ref 171), some (.int (nI a)), some (.int (nI b))], [.int (nI 0)], h, 198, sl) (28, [some (.ref 171), some (.int (nI a)), some (.int (nI b))], [.int (nI 1)], h, 198, sl) : pm_St) = (28, [some (.ref 171), some (.int (nI a)), some (.int (nI b))], [.int (cond (cond (pm_cmp .ne ((Ar h 171) (6 + 6 * b + a)) 0) false true) 1 0)], h, 198, sl) from by cases (pm_cmp .ne ((Ar h 171) (6 + 6 * b + a)) 0) <;> rfl] at hh
          exact ⟨n, hh⟩)
      obtain ⟨n, hh⟩ := hj9
      rw [show (cond (pm_cmp .eq ((Ar h 171) (6 + 6 * a + b)) 0) (28, [some (.ref 171), some (.int (nI a)), some (.int (nI b))], [.int (nI 1)], h, 198, sl) (28, [some (.ref 171), some (.int (nI a)), some (.int (nI b))], [.int (cond (cond (pm_cmp .ne ((Ar h 171) (6 + 6 * b + a)) 0) false true) 1 0)], h, 198, sl) : pm_St) = (28, [some (.ref 171), some (.int (nI a)), some (.int (nI b))], [.int (cond (cond (pm_cmp .eq ((Ar h 171) (6 + 6 * a + b)) 0) true (cond (pm_cmp .ne ((Ar h 171) (6 + 6 * b + a)) 0) false true)) 1 0)], h, 198, sl) from by cases (pm_cmp .eq ((Ar h 171) (6 + 6 * a + b)) 0) <;> rfl] at hh
      exact ⟨n, hh⟩)
  obtain ⟨n, hh⟩ := hj10
  rw [show (cond (decide (a = b)) (28, [some (.ref 171), some (.int (nI a)), some (.int (nI b))], [.int (nI 0)], h, 198, sl) (28, [some (.ref 171), some (.int (nI a)), some (.int (nI b))], [.int (cond (cond (pm_cmp .eq ((Ar h 171) (6 + 6 * a + b)) 0) true (cond (pm_cmp .ne ((Ar h 171) (6 + 6 * b + a)) 0) false true)) 1 0)], h, 198, sl) : pm_St) = (28, [some (.ref 171), some (.int (nI a)), some (.int (nI b))], [.int (cond (cond (decide (a = b)) false (cond (pm_cmp .eq ((Ar h 171) (6 + 6 * a + b)) 0) true (cond (pm_cmp .ne ((Ar h 171) (6 + 6 * b + a)) 0) false true))) 1 0)], h, 198, sl) from by cases (decide (a = b)) <;> rfl] at hh
  have hh : pm_run PT n fr lo 176 (28, [some (.ref 171), some (.int (nI a)), some (.int (nI b))], [.int (cond (cond (decide (a = b)) false (cond (pm_cmp .eq ((Ar h 171) (6 + 6 * a + b)) 0) true (cond (pm_cmp .ne ((Ar h 171) (6 + 6 * b + a)) 0) false true))) 1 0)], h, 198, sl) = some R := hh
  have er11 : R = (some (.int (cond (cond (decide (a = b)) false (cond (pm_cmp .eq ((Ar h 171) (6 + 6 * a + b)) 0) true (cond (pm_cmp .ne ((Ar h 171) (6 + 6 * b + a)) 0) false true))) 1 0)), h, 198, sl) := (rn_ret rfl (Or.inr rfl) hh).2
  have ed : v176 q cc gc (Ar h 171) a b = cond (decide (a = b)) false (cond (pm_cmp .eq ((Ar h 171) (6 + 6 * a + b)) 0) true (cond (pm_cmp .ne ((Ar h 171) (6 + 6 * b + a)) 0) false true)) := rfl
  rw [ed]
  exact er11
theorem v174t_5_e {n fr lo sl cc gc : Nat} {q : QT} {h : pm_H} {R : pm_Rs} {m2 : Nat} {i : Nat} {x3 : Int32} (hw : HC q cc gc h) (h_m2 : m2 < 10000) (hi : gc ≤ i) (hI : i < 1000000) (hh : pm_run PT n fr lo 174 (5, [some (.ref 162), some (.ref 171), some (.int (nI m2)), some (.int x3), some (.int (nI i))], [], h, 198, sl) = some R) : ∃ m, pm_run PT m fr lo 174 (42, [some (.ref 162), some (.ref 171), some (.int (nI m2)), some (.int x3), some (.int (nI i))], [], h, 198, sl) = some R := by
  have hcc := hw.cb
  have hgc := hw.gb
  have hzr := hw.zr
  obtain ⟨n, hh⟩ := rn_i rfl rfl rfl rfl hh
  obtain ⟨n, hh⟩ := rn_i rfl rfl rfl rfl hh
  have hh : pm_run PT n fr lo 174 (8, [some (.ref 162), some (.ref 171), some (.int (nI m2)), some (.int x3), some (.int (nI i))], [.ref 162, .int (nI i)], h, 198, sl) = some R := hh
  obtain ⟨n, hh⟩ := rn_gi (x := nI gc) hw.wt rfl rfl (by decide) rfl (by decide) rfl hw.m4 hh
  have hh : pm_run PT n fr lo 174 (11, [some (.ref 162), some (.ref 171), some (.int (nI m2)), some (.int x3), some (.int (nI i))], [.int (nI gc), .int (nI i)], h, 198, sl) = some R := hh
  obtain ⟨n, hh⟩ := en_cn (cc := .ge) (off := 31) (t := 42) (b := decide (gc ≤ i)) (hI_ge (by omega) (by omega)) rfl rfl hh
  have hh := en_t (show decide (gc ≤ i) = true from decide_eq_true (by omega)) hh
  have hh : pm_run PT n fr lo 174 (42, [some (.ref 162), some (.ref 171), some (.int (nI m2)), some (.int x3), some (.int (nI i))], [], h, 198, sl) = some R := hh
  exact ⟨n, hh⟩
theorem v174t_5_s {n fr lo sl cc gc : Nat} {q : QT} {h : pm_H} {R : pm_Rs} {m2 : Nat} {i : Nat} {x3 : Int32} (hw : HC q cc gc h) (h_m2 : m2 < 10000) (hi : i < gc) (hI : i < 1000000) (hh : pm_run PT n fr lo 174 (5, [some (.ref 162), some (.ref 171), some (.int (nI m2)), some (.int x3), some (.int (nI i))], [], h, 198, sl) = some R) : ∃ m, pm_run PT m fr lo 174 (5, [some (.ref 162), some (.ref 171), some (.int (nI m2)), some (.int (v174_5b q cc gc (Ar h 171) m2 i x3)), some (.int (nI (i + 1)))], [], h, 198, sl) = some R := by
  have hcc := hw.cb
  have hgc := hw.gb
  have hzr := hw.zr
  obtain ⟨n, hh⟩ := rn_i rfl rfl rfl rfl hh
  obtain ⟨n, hh⟩ := rn_i rfl rfl rfl rfl hh
  have hh : pm_run PT n fr lo 174 (8, [some (.ref 162), some (.ref 171), some (.int (nI m2)), some (.int x3), some (.int (nI i))], [.ref 162, .int (nI i)], h, 198, sl) = some R := hh
  obtain ⟨n, hh⟩ := rn_gi (x := nI gc) hw.wt rfl rfl (by decide) rfl (by decide) rfl hw.m4 hh
  have hh : pm_run PT n fr lo 174 (11, [some (.ref 162), some (.ref 171), some (.int (nI m2)), some (.int x3), some (.int (nI i))], [.int (nI gc), .int (nI i)], h, 198, sl) = some R := hh
  obtain ⟨n, hh⟩ := en_cn (cc := .ge) (off := 31) (t := 42) (b := decide (gc ≤ i)) (hI_ge (by omega) (by omega)) rfl rfl hh
  have hh := en_f (show decide (gc ≤ i) = false from decide_eq_false (by omega)) hh
  have hh : pm_run PT n fr lo 174 (14, [some (.ref 162), some (.ref 171), some (.int (nI m2)), some (.int x3), some (.int (nI i))], [], h, 198, sl) = some R := hh
  obtain ⟨n, hh⟩ := rn_i rfl rfl rfl rfl hh
  obtain ⟨n, hh⟩ := rn_i rfl rfl rfl rfl hh
  obtain ⟨n, hh⟩ := rn_i rfl rfl rfl rfl hh
  obtain ⟨n, hh⟩ := rn_i rfl rfl rfl rfl hh
  have hh : pm_run PT n fr lo 174 (20, [some (.ref 162), some (.ref 171), some (.int (nI m2)), some (.int x3), some (.int (nI i))], [.int (nI i), .int (nI 78), .ref 171, .int x3], h, 198, sl) = some R := hh
  obtain ⟨n, hh⟩ := en_add rfl hh
  have hh : pm_run PT n fr lo 174 (21, [some (.ref 162), some (.ref 171), some (.int (nI m2)), some (.int x3), some (.int (nI i))], [.int (nI (78 + i)), .ref 171, .int x3], h, 198, sl) = some R := hh
  have hh : pm_run PT n fr lo 174 (21, [some (.ref 162), some (.ref 171), some (.int (nI m2)), some (.int x3), some (.int (nI i))], [.int (nI (78 + i)), .ref 171, .int x3], h, 198, sl) = some R := hh
  obtain ⟨n, hx1, hh⟩ := en_lu (t := 78 + i) (f := Ar h 171) (w := (Ar h 171) (78 + i)) (nI_clamp (by omega)) hw.wt rfl (by decide) rfl (by decide) rfl (fun _ => rfl) hh
  obtain ⟨n, hh⟩ := rn_i rfl rfl rfl rfl hh
  have hh : pm_run PT n fr lo 174 (23, [some (.ref 162), some (.ref 171), some (.int (nI m2)), some (.int x3), some (.int (nI i))], [.int (nI m2), .int ((Ar h 171) (78 + i)), .int x3], h, 198, sl) = some R := hh
  obtain ⟨n, hh⟩ := en_cn (cc := .ne) (off := 10) (t := 33) (b := pm_cmp .ne ((Ar h 171) (78 + i)) (nI m2)) rfl rfl rfl hh
  have hj3 : ∃ mJ, pm_run PT mJ fr lo 174 (cond (pm_cmp .ne ((Ar h 171) (78 + i)) (nI m2)) (34, [some (.ref 162), some (.ref 171), some (.int (nI m2)), some (.int x3), some (.int (nI i))], [.int (nI 0), .int x3], h, 198, sl) (34, [some (.ref 162), some (.ref 171), some (.int (nI m2)), some (.int x3), some (.int (nI i))], [.int (shl (nI 1) (nI i)), .int x3], h, 198, sl)) = some R := en_J (fun z2 => by
      have hh := en_t z2 hh
      have hh : pm_run PT n fr lo 174 (33, [some (.ref 162), some (.ref 171), some (.int (nI m2)), some (.int x3), some (.int (nI i))], [.int x3], h, 198, sl) = some R := hh
      obtain ⟨n, hh⟩ := rn_i rfl rfl rfl rfl hh
      exact ⟨n, hh⟩) (fun z2 => by
      have hh := en_f z2 hh
      have hh : pm_run PT n fr lo 174 (26, [some (.ref 162), some (.ref 171), some (.int (nI m2)), some (.int x3), some (.int (nI i))], [.int x3], h, 198, sl) = some R := hh
      obtain ⟨n, hh⟩ := rn_i rfl rfl rfl rfl hh
      obtain ⟨n, hh⟩ := rn_i rfl rfl rfl rfl hh
      obtain ⟨n, hh⟩ := rn_i rfl rfl rfl rfl hh
      obtain ⟨n, hh⟩ := rn_i rfl rfl rfl rfl hh
      exact ⟨n, hh⟩)
  obtain ⟨n, hh⟩ := hj3
  rw [show (cond (pm_cmp .ne ((Ar h 171) (78 + i)) (nI m2)) (34, [some (.ref 162), some (.ref 171), some (.int (nI m2)), some (.int x3), some (.int (nI i))], [.int (nI 0), .int x3], h, 198, sl) (34, [some (.ref 162), some (.ref 171), some (.int (nI m2)), some (.int x3), some (.int (nI i))], [.int (shl (nI 1) (nI i)), .int x3], h, 198, sl) : pm_St) = (34, [some (.ref 162), some (.ref 171), some (.int (nI m2)), some (.int x3), some (.int (nI i))], [.int (cond (pm_cmp .ne ((Ar h 171) (78 + i)) (nI m2)) (nI 0) (shl (nI 1) (nI i))), .int x3], h, 198, sl) from by cases (pm_cmp .ne ((Ar h 171) (78 + i)) (nI m2)) <;> rfl] at hh
  obtain ⟨n, hh⟩ := rn_i rfl rfl rfl rfl hh
  obtain ⟨n, hh⟩ := rn_i rfl rfl rfl rfl hh
  have hh : pm_run PT n fr lo 174 (36, [some (.ref 162), some (.ref 171), some (.int (nI m2)), some (.int (x3 ||| (cond (pm_cmp .ne ((Ar h 171) (78 + i)) (nI m2)) (nI 0) (shl (nI 1) (nI i))))), some (.int (nI i))], [], h, 198, sl) = some R := hh
  obtain ⟨n, hh⟩ := en_inc (x := i) (c := 1) (j := 4) rfl rfl (by decide) hh
  have hh : pm_run PT n fr lo 174 (39, [some (.ref 162), some (.ref 171), some (.int (nI m2)), some (.int (x3 ||| (cond (pm_cmp .ne ((Ar h 171) (78 + i)) (nI m2)) (nI 0) (shl (nI 1) (nI i))))), some (.int (nI (i + 1)))], [], h, 198, sl) = some R := hh
  obtain ⟨n, hh⟩ := rn_i rfl rfl rfl rfl hh
  have ed : v174_5b q cc gc (Ar h 171) m2 i x3 = x3 ||| (cond (pm_cmp .ne ((Ar h 171) (78 + i)) (nI m2)) (nI 0) (shl (nI 1) (nI i))) := rfl
  rw [ed]
  exact ⟨n, hh⟩
theorem v174t_5_ok {fr lo sl cc gc : Nat} {q : QT} {R : pm_Rs} {m2 : Nat} : ∀ {j i : Nat} {x3 : Int32} {h : pm_H} {n : Nat}, gc - i = j → i + j < 1000000 → HC q cc gc h → m2 < 10000 → pm_run PT n fr lo 174 (5, [some (.ref 162), some (.ref 171), some (.int (nI m2)), some (.int x3), some (.int (nI i))], [], h, 198, sl) = some R → ∃ m wc, pm_run PT m fr lo 174 (42, [some (.ref 162), some (.ref 171), some (.int (nI m2)), some (.int (v174_5 q cc gc (Ar h 171) m2 j i x3)), wc], [], h, 198, sl) = some R := by
  intro j
  induction j with
  | zero =>
    intro i x3 h n e eI hw h_m2 hh
    obtain ⟨n, hh⟩ := v174t_5_e hw h_m2 (by omega) (by omega) hh
    exact ⟨n, _, hh⟩
  | succ j ih =>
    intro i x3 h n e eI hw h_m2 hh
    obtain ⟨n, hh⟩ := v174t_5_s hw h_m2 (by omega) (by omega) hh
    obtain ⟨n, wc, hh⟩ := ih (by omega) (by omega) hw h_m2 hh
    exact ⟨n, wc, hh⟩
theorem v174t_ok {n fr lo sl cc gc : Nat} {q : QT} {h : pm_H} {R : pm_Rs} {c : Nat} (hw : HC q cc gc h) (h_c : c < 10000) (hh : pm_run PT n fr lo 174 (0, pm_l0 [.ref 162, .ref 171, .int (nI c)] 5, [], h, 198, sl) = some R) : R = (some (.int (v174 q cc gc (Ar h 171) c)), h, 198, sl) := by
  have hcc := hw.cb
  have hgc := hw.gb
  have hzr := hw.zr
  obtain ⟨n, hh⟩ := rn_i rfl rfl rfl rfl hh
  obtain ⟨n, hh⟩ := rn_i rfl rfl rfl rfl hh
  obtain ⟨n, hh⟩ := rn_i rfl rfl rfl rfl hh
  obtain ⟨n, hh⟩ := rn_i rfl rfl rfl rfl hh
  have hh : pm_run PT n fr lo 174 (5, [some (.ref 162), some (.ref 171), some (.int (nI c)), some (.int (nI 0)), some (.int (nI 0))], [], h, 198, sl) = some R := hh
  obtain ⟨n, u1, hh⟩ := v174t_5_ok (m2 := c)  (i := 0) (x3 := (nI 0)) (j := gc) (by omega) (by omega) hw (by omega) hh
  have hh : pm_run PT n fr lo 174 (42, [some (.ref 162), some (.ref 171), some (.int (nI c)), some (.int (v174_5 q cc gc (Ar h 171) c gc 0 (nI 0))), u1], [], h, 198, sl) = some R := hh
  obtain ⟨n, hh⟩ := rn_i rfl rfl rfl rfl hh
  have hh : pm_run PT n fr lo 174 (43, [some (.ref 162), some (.ref 171), some (.int (nI c)), some (.int (v174_5 q cc gc (Ar h 171) c gc 0 (nI 0))), u1], [.int (v174_5 q cc gc (Ar h 171) c gc 0 (nI 0))], h, 198, sl) = some R := hh
  have er2 : R = (some (.int (v174_5 q cc gc (Ar h 171) c gc 0 (nI 0))), h, 198, sl) := (rn_ret rfl (Or.inl rfl) hh).2
  have ed : v174 q cc gc (Ar h 171) c = (v174_5 q cc gc (Ar h 171) c gc 0 (nI 0)) := rfl
  rw [ed]
  exact er2
theorem v177t_4_e {n fr lo sl cc gc : Nat} {q : QT} {h : pm_H} {R : pm_Rs} {i : Nat} {x2 : Int32} (hw : HC q cc gc h) (hi : cc ≤ i) (hI : i < 1000000) (hh : pm_run PT n fr lo 177 (4, [some (.ref 162), some (.ref 171), some (.int x2), some (.int (nI i))], [], h, 198, sl) = some R) : ∃ m, pm_run PT m fr lo 177 (24, [some (.ref 162), some (.ref 171), some (.int x2), some (.int (nI i))], [], h, 198, sl) = some R := by
  have hcc := hw.cb
  have hgc := hw.gb
  have hzr := hw.zr
  obtain ⟨n, hh⟩ := rn_i rfl rfl rfl rfl hh
  obtain ⟨n, hh⟩ := rn_i rfl rfl rfl rfl hh
  have hh : pm_run PT n fr lo 177 (6, [some (.ref 162), some (.ref 171), some (.int x2), some (.int (nI i))], [.ref 162, .int (nI i)], h, 198, sl) = some R := hh
  obtain ⟨n, hh⟩ := rn_gi (x := nI cc) hw.wt rfl rfl (by decide) rfl (by decide) rfl hw.m3 hh
  have hh : pm_run PT n fr lo 177 (9, [some (.ref 162), some (.ref 171), some (.int x2), some (.int (nI i))], [.int (nI cc), .int (nI i)], h, 198, sl) = some R := hh
  obtain ⟨n, hh⟩ := en_cn (cc := .ge) (off := 15) (t := 24) (b := decide (cc ≤ i)) (hI_ge (by omega) (by omega)) rfl rfl hh
  have hh := en_t (show decide (cc ≤ i) = true from decide_eq_true (by omega)) hh
  have hh : pm_run PT n fr lo 177 (24, [some (.ref 162), some (.ref 171), some (.int x2), some (.int (nI i))], [], h, 198, sl) = some R := hh
  exact ⟨n, hh⟩
theorem v177t_4_s {n fr lo sl cc gc : Nat} {q : QT} {h : pm_H} {R : pm_Rs} {i : Nat} {x2 : Int32} (hw : HC q cc gc h) (hi : i < cc) (hI : i < 1000000) (hh : pm_run PT n fr lo 177 (4, [some (.ref 162), some (.ref 171), some (.int x2), some (.int (nI i))], [], h, 198, sl) = some R) : ∃ m, pm_run PT m fr lo 177 (4, [some (.ref 162), some (.ref 171), some (.int (v177_4b q cc gc (Ar h 171) i x2)), some (.int (nI (i + 1)))], [], h, 198, sl) = some R := by
  have hcc := hw.cb
  have hgc := hw.gb
  have hzr := hw.zr
  obtain ⟨n, hh⟩ := rn_i rfl rfl rfl rfl hh
  obtain ⟨n, hh⟩ := rn_i rfl rfl rfl rfl hh
  have hh : pm_run PT n fr lo 177 (6, [some (.ref 162), some (.ref 171), some (.int x2), some (.int (nI i))], [.ref 162, .int (nI i)], h, 198, sl) = some R := hh
  obtain ⟨n, hh⟩ := rn_gi (x := nI cc) hw.wt rfl rfl (by decide) rfl (by decide) rfl hw.m3 hh
  have hh : pm_run PT n fr lo 177 (9, [some (.ref 162), some (.ref 171), some (.int x2), some (.int (nI i))], [.int (nI cc), .int (nI i)], h, 198, sl) = some R := hh
  obtain ⟨n, hh⟩ := en_cn (cc := .ge) (off := 15) (t := 24) (b := decide (cc ≤ i)) (hI_ge (by omega) (by omega)) rfl rfl hh
  have hh := en_f (show decide (cc ≤ i) = false from decide_eq_false (by omega)) hh
  have hh : pm_run PT n fr lo 177 (12, [some (.ref 162), some (.ref 171), some (.int x2), some (.int (nI i))], [], h, 198, sl) = some R := hh
  obtain ⟨n, hh⟩ := rn_i rfl rfl rfl rfl hh
  obtain ⟨n, hh⟩ := rn_i rfl rfl rfl rfl hh
  obtain ⟨n, hh⟩ := rn_i rfl rfl rfl rfl hh
  have hh : pm_run PT n fr lo 177 (15, [some (.ref 162), some (.ref 171), some (.int x2), some (.int (nI i))], [.int (nI i), .ref 171, .int x2], h, 198, sl) = some R := hh
  obtain ⟨n, hx1, hh⟩ := en_lu (t := i) (f := Ar h 171) (w := (Ar h 171) i) (nI_clamp (by omega)) hw.wt rfl (by decide) rfl (by decide) rfl (fun _ => rfl) hh
  obtain ⟨n, hh⟩ := rn_i rfl rfl rfl rfl hh
  obtain ⟨n, hh⟩ := rn_i rfl rfl rfl rfl hh
  have hh : pm_run PT n fr lo 177 (18, [some (.ref 162), some (.ref 171), some (.int (x2 + ((Ar h 171) i))), some (.int (nI i))], [], h, 198, sl) = some R := hh
  obtain ⟨n, hh⟩ := en_inc (x := i) (c := 1) (j := 3) rfl rfl (by decide) hh
  have hh : pm_run PT n fr lo 177 (21, [some (.ref 162), some (.ref 171), some (.int (x2 + ((Ar h 171) i))), some (.int (nI (i + 1)))], [], h, 198, sl) = some R := hh
  obtain ⟨n, hh⟩ := rn_i rfl rfl rfl rfl hh
  have ed : v177_4b q cc gc (Ar h 171) i x2 = x2 + ((Ar h 171) i) := rfl
  rw [ed]
  exact ⟨n, hh⟩
theorem v177t_4_ok {fr lo sl cc gc : Nat} {q : QT} {R : pm_Rs} : ∀ {j i : Nat} {x2 : Int32} {h : pm_H} {n : Nat}, cc - i = j → i + j < 1000000 → HC q cc gc h → pm_run PT n fr lo 177 (4, [some (.ref 162), some (.ref 171), some (.int x2), some (.int (nI i))], [], h, 198, sl) = some R → ∃ m wc, pm_run PT m fr lo 177 (24, [some (.ref 162), some (.ref 171), some (.int (v177_4 q cc gc (Ar h 171) j i x2)), wc], [], h, 198, sl) = some R := by
  intro j
  induction j with
  | zero =>
    intro i x2 h n e eI hw hh
    obtain ⟨n, hh⟩ := v177t_4_e hw (by omega) (by omega) hh
    exact ⟨n, _, hh⟩
  | succ j ih =>
    intro i x2 h n e eI hw hh
    obtain ⟨n, hh⟩ := v177t_4_s hw (by omega) (by omega) hh
    obtain ⟨n, wc, hh⟩ := ih (by omega) (by omega) hw hh
    exact ⟨n, wc, hh⟩
theorem v177t_ok {n fr lo sl cc gc : Nat} {q : QT} {h : pm_H} {R : pm_Rs} (hw : HC q cc gc h) (hh : pm_run PT n fr lo 177 (0, pm_l0 [.ref 162, .ref 171] 4, [], h, 198, sl) = some R) : R = (some (.int (v177 q cc gc (Ar h 171))), h, 198, sl) := by
  have hcc := hw.cb
  have hgc := hw.gb
  have hzr := hw.zr
  obtain ⟨n, hh⟩ := rn_i rfl rfl rfl rfl hh
  obtain ⟨n, hh⟩ := rn_i rfl rfl rfl rfl hh
  obtain ⟨n, hh⟩ := rn_i rfl rfl rfl rfl hh
  obtain ⟨n, hh⟩ := rn_i rfl rfl rfl rfl hh
  have hh : pm_run PT n fr lo 177 (4, [some (.ref 162), some (.ref 171), some (.int (nI 0)), some (.int (nI 0))], [], h, 198, sl) = some R := hh
  obtain ⟨n, u1, hh⟩ := v177t_4_ok  (i := 0) (x2 := (nI 0)) (j := cc) (by omega) (by omega) hw hh
  have hh : pm_run PT n fr lo 177 (24, [some (.ref 162), some (.ref 171), some (.int (v177_4 q cc gc (Ar h 171) cc 0 (nI 0))), u1], [], h, 198, sl) = some R := hh
  obtain ⟨n, hh⟩ := rn_i rfl rfl rfl rfl hh
  have hh : pm_run PT n fr lo 177 (25, [some (.ref 162), some (.ref 171), some (.int (v177_4 q cc gc (Ar h 171) cc 0 (nI 0))), u1], [.int (v177_4 q cc gc (Ar h 171) cc 0 (nI 0))], h, 198, sl) = some R := hh
  have er2 : R = (some (.int (v177_4 q cc gc (Ar h 171) cc 0 (nI 0))), h, 198, sl) := (rn_ret rfl (Or.inl rfl) hh).2
  have ed : v177 q cc gc (Ar h 171) = (v177_4 q cc gc (Ar h 171) cc 0 (nI 0)) := rfl
  rw [ed]
  exact er2
def v202_4b (q : QT) (cc gc : Nat) (d0 : Nat → Int32) (m1 : Nat) (i : Nat) (x2 : Int32) : Int32 := x2 ||| (cond (v175 q cc gc (d0) m1 i) (shl (nI 1) (nI i)) (nI 0))
def v202_4 (q : QT) (cc gc : Nat) (d0 : Nat → Int32) (m1 : Nat) (j i : Nat) (a : Int32) : Int32 := lp (fun i a => v202_4b q cc gc d0 m1 i a) j i a
theorem v202_4_e {n fr lo sl cc gc : Nat} {q : QT} {h : pm_H} {R : pm_Rs} {m1 : Nat} {i : Nat} {x2 : Int32} (hw : HC q cc gc h) (h_m1 : m1 < 10000) (hi : cc ≤ i) (hI : i < 1000000) (hh : pm_run PT n fr lo 202 (4, [some (.ref 162), some (.int (nI m1)), some (.int x2), some (.int (nI i))], [], h, 198, sl) = some R) : ∃ m, pm_run PT m fr lo 202 (40, [some (.ref 162), some (.int (nI m1)), some (.int x2), some (.int (nI i))], [], h, 198, sl) = some R := by
  have hcc := hw.cb
  have hgc := hw.gb
  have hzr := hw.zr
  obtain ⟨n, hh⟩ := rn_i rfl rfl rfl rfl hh
  obtain ⟨n, hh⟩ := rn_i rfl rfl rfl rfl hh
  have hh : pm_run PT n fr lo 202 (6, [some (.ref 162), some (.int (nI m1)), some (.int x2), some (.int (nI i))], [.ref 162, .int (nI i)], h, 198, sl) = some R := hh
  obtain ⟨n, hh⟩ := rn_gi (x := nI cc) hw.wt rfl rfl (by decide) rfl (by decide) rfl hw.m3 hh
  have hh : pm_run PT n fr lo 202 (9, [some (.ref 162), some (.int (nI m1)), some (.int x2), some (.int (nI i))], [.int (nI cc), .int (nI i)], h, 198, sl) = some R := hh
  obtain ⟨n, hh⟩ := en_cn (cc := .ge) (off := 31) (t := 40) (b := decide (cc ≤ i)) (hI_ge (by omega) (by omega)) rfl rfl hh
  have hh := en_t (show decide (cc ≤ i) = true from decide_eq_true (by omega)) hh
  have hh : pm_run PT n fr lo 202 (40, [some (.ref 162), some (.int (nI m1)), some (.int x2), some (.int (nI i))], [], h, 198, sl) = some R := hh
  exact ⟨n, hh⟩
theorem v202_4_s {n fr lo sl cc gc : Nat} {q : QT} {h : pm_H} {R : pm_Rs} {m1 : Nat} {i : Nat} {x2 : Int32} (hw : HC q cc gc h) (h_m1 : m1 < 10000) (hi : i < cc) (hI : i < 1000000) (hh : pm_run PT n fr lo 202 (4, [some (.ref 162), some (.int (nI m1)), some (.int x2), some (.int (nI i))], [], h, 198, sl) = some R) : ∃ m, pm_run PT m fr lo 202 (4, [some (.ref 162), some (.int (nI m1)), some (.int (v202_4b q cc gc (Ar h 170) m1 i x2)), some (.int (nI (i + 1)))], [], h, 198, sl) = some R := by
  have hcc := hw.cb
  have hgc := hw.gb
  have hzr := hw.zr
  obtain ⟨n, hh⟩ := rn_i rfl rfl rfl rfl hh
  obtain ⟨n, hh⟩ := rn_i rfl rfl rfl rfl hh
  have hh : pm_run PT n fr lo 202 (6, [some (.ref 162), some (.int (nI m1)), some (.int x2), some (.int (nI i))], [.ref 162, .int (nI i)], h, 198, sl) = some R := hh
  obtain ⟨n, hh⟩ := rn_gi (x := nI cc) hw.wt rfl rfl (by decide) rfl (by decide) rfl hw.m3 hh
  have hh : pm_run PT n fr lo 202 (9, [some (.ref 162), some (.int (nI m1)), some (.int x2), some (.int (nI i))], [.int (nI cc), .int (nI i)], h, 198, sl) = some R := hh
  obtain ⟨n, hh⟩ := en_cn (cc := .ge) (off := 31) (t := 40) (b := decide (cc ≤ i)) (hI_ge (by omega) (by omega)) rfl rfl hh
  have hh := en_f (show decide (cc ≤ i) = false from decide_eq_false (by omega)) hh
  have hh : pm_run PT n fr lo 202 (12, [some (.ref 162), some (.int (nI m1)), some (.int x2), some (.int (nI i))], [], h, 198, sl) = some R := hh
  obtain ⟨n, hh⟩ := rn_i rfl rfl rfl rfl hh
  obtain ⟨n, hh⟩ := rn_i rfl rfl rfl rfl hh
  have hh : pm_run PT n fr lo 202 (14, [some (.ref 162), some (.int (nI m1)), some (.int x2), some (.int (nI i))], [.ref 162, .int x2], h, 198, sl) = some R := hh
  obtain ⟨n, hh⟩ := rn_gr hw.wt rfl rfl (by decide) rfl (by decide) (show _ = some (2, ((170 : Nat) : Int), 1) from rfl) rfl hh
  obtain ⟨n, hh⟩ := rn_i rfl rfl rfl rfl hh
  obtain ⟨n, hh⟩ := rn_i rfl rfl rfl rfl hh
  have hh : pm_run PT n fr lo 202 (19, [some (.ref 162), some (.int (nI m1)), some (.int x2), some (.int (nI i))], [.int (nI i), .int (nI m1), .ref 170, .int x2], h, 198, sl) = some R := hh
  obtain ⟨n, fr1, lo1, r1, hh1, hh⟩ := rn_call (w := 2) (t := 175) rfl rfl hh
  have er1 := v175_ok (a := m1) (b := i) hw (by omega) (by omega) hh1
  subst er1
  have hh : pm_run PT n fr lo 202 (22, [some (.ref 162), some (.int (nI m1)), some (.int x2), some (.int (nI i))], [.int (cond (v175 q cc gc (Ar h 170) m1 i) 1 0), .int x2], h, 198, sl) = some R := hh
  obtain ⟨n, hh⟩ := en_zn (cc := .eq) (off := 9) (t := 31) (b := !(v175 q cc gc (Ar h 170) m1 i)) eb_eq rfl rfl hh
  have hj3 : ∃ mJ, pm_run PT mJ fr lo 202 (cond (v175 q cc gc (Ar h 170) m1 i) (32, [some (.ref 162), some (.int (nI m1)), some (.int x2), some (.int (nI i))], [.int (shl (nI 1) (nI i)), .int x2], h, 198, sl) (32, [some (.ref 162), some (.int (nI m1)), some (.int x2), some (.int (nI i))], [.int (nI 0), .int x2], h, 198, sl)) = some R := en_J (fun z2 => by
      have hh := en_nt z2 hh
      have hh : pm_run PT n fr lo 202 (25, [some (.ref 162), some (.int (nI m1)), some (.int x2), some (.int (nI i))], [.int x2], h, 198, sl) = some R := hh
      obtain ⟨n, hh⟩ := rn_i rfl rfl rfl rfl hh
      obtain ⟨n, hh⟩ := rn_i rfl rfl rfl rfl hh
      obtain ⟨n, hh⟩ := rn_i rfl rfl rfl rfl hh
      obtain ⟨n, hh⟩ := rn_i rfl rfl rfl rfl hh
      exact ⟨n, hh⟩) (fun z2 => by
      have hh := en_nf z2 hh
      have hh : pm_run PT n fr lo 202 (31, [some (.ref 162), some (.int (nI m1)), some (.int x2), some (.int (nI i))], [.int x2], h, 198, sl) = some R := hh
      obtain ⟨n, hh⟩ := rn_i rfl rfl rfl rfl hh
      exact ⟨n, hh⟩)
  obtain ⟨n, hh⟩ := hj3
  rw [show (cond (v175 q cc gc (Ar h 170) m1 i) (32, [some (.ref 162), some (.int (nI m1)), some (.int x2), some (.int (nI i))], [.int (shl (nI 1) (nI i)), .int x2], h, 198, sl) (32, [some (.ref 162), some (.int (nI m1)), some (.int x2), some (.int (nI i))], [.int (nI 0), .int x2], h, 198, sl) : pm_St) = (32, [some (.ref 162), some (.int (nI m1)), some (.int x2), some (.int (nI i))], [.int (cond (v175 q cc gc (Ar h 170) m1 i) (shl (nI 1) (nI i)) (nI 0)), .int x2], h, 198, sl) from by cases (v175 q cc gc (Ar h 170) m1 i) <;> rfl] at hh
  obtain ⟨n, hh⟩ := rn_i rfl rfl rfl rfl hh
  obtain ⟨n, hh⟩ := rn_i rfl rfl rfl rfl hh
  have hh : pm_run PT n fr lo 202 (34, [some (.ref 162), some (.int (nI m1)), some (.int (x2 ||| (cond (v175 q cc gc (Ar h 170) m1 i) (shl (nI 1) (nI i)) (nI 0)))), some (.int (nI i))], [], h, 198, sl) = some R := hh
  obtain ⟨n, hh⟩ := en_inc (x := i) (c := 1) (j := 3) rfl rfl (by decide) hh
  have hh : pm_run PT n fr lo 202 (37, [some (.ref 162), some (.int (nI m1)), some (.int (x2 ||| (cond (v175 q cc gc (Ar h 170) m1 i) (shl (nI 1) (nI i)) (nI 0)))), some (.int (nI (i + 1)))], [], h, 198, sl) = some R := hh
  obtain ⟨n, hh⟩ := rn_i rfl rfl rfl rfl hh
  have ed : v202_4b q cc gc (Ar h 170) m1 i x2 = x2 ||| (cond (v175 q cc gc (Ar h 170) m1 i) (shl (nI 1) (nI i)) (nI 0)) := rfl
  rw [ed]
  exact ⟨n, hh⟩
theorem v202_4_ok {fr lo sl cc gc : Nat} {q : QT} {R : pm_Rs} {m1 : Nat} : ∀ {j i : Nat} {x2 : Int32} {h : pm_H} {n : Nat}, cc - i = j → i + j < 1000000 → HC q cc gc h → m1 < 10000 → pm_run PT n fr lo 202 (4, [some (.ref 162), some (.int (nI m1)), some (.int x2), some (.int (nI i))], [], h, 198, sl) = some R → ∃ m wc, pm_run PT m fr lo 202 (40, [some (.ref 162), some (.int (nI m1)), some (.int (v202_4 q cc gc (Ar h 170) m1 j i x2)), wc], [], h, 198, sl) = some R := by
  intro j
  induction j with
  | zero =>
    intro i x2 h n e eI hw h_m1 hh
    obtain ⟨n, hh⟩ := v202_4_e hw h_m1 (by omega) (by omega) hh
    exact ⟨n, _, hh⟩
  | succ j ih =>
    intro i x2 h n e eI hw h_m1 hh
    obtain ⟨n, hh⟩ := v202_4_s hw h_m1 (by omega) (by omega) hh
    obtain ⟨n, wc, hh⟩ := ih (by omega) (by omega) hw h_m1 hh
    exact ⟨n, wc, hh⟩
def v202 (q : QT) (cc gc : Nat) (d0 : Nat → Int32) (c : Nat) : Int32 := (v202_4 q cc gc (d0) c cc 0 (nI 0))
theorem v202_ok {n fr lo sl cc gc : Nat} {q : QT} {h : pm_H} {R : pm_Rs} {c : Nat} (hw : HC q cc gc h) (h_c : c < 10000) (hh : pm_run PT n fr lo 202 (0, pm_l0 [.ref 162, .int (nI c)] 4, [], h, 198, sl) = some R) : R = (some (.int (v202 q cc gc (Ar h 170) c)), h, 198, sl) := by
  have hcc := hw.cb
  have hgc := hw.gb
  have hzr := hw.zr
  obtain ⟨n, hh⟩ := rn_i rfl rfl rfl rfl hh
  obtain ⟨n, hh⟩ := rn_i rfl rfl rfl rfl hh
  obtain ⟨n, hh⟩ := rn_i rfl rfl rfl rfl hh
  obtain ⟨n, hh⟩ := rn_i rfl rfl rfl rfl hh
  have hh : pm_run PT n fr lo 202 (4, [some (.ref 162), some (.int (nI c)), some (.int (nI 0)), some (.int (nI 0))], [], h, 198, sl) = some R := hh
  obtain ⟨n, u1, hh⟩ := v202_4_ok (m1 := c)  (i := 0) (x2 := (nI 0)) (j := cc) (by omega) (by omega) hw (by omega) hh
  have hh : pm_run PT n fr lo 202 (40, [some (.ref 162), some (.int (nI c)), some (.int (v202_4 q cc gc (Ar h 170) c cc 0 (nI 0))), u1], [], h, 198, sl) = some R := hh
  obtain ⟨n, hh⟩ := rn_i rfl rfl rfl rfl hh
  have hh : pm_run PT n fr lo 202 (41, [some (.ref 162), some (.int (nI c)), some (.int (v202_4 q cc gc (Ar h 170) c cc 0 (nI 0))), u1], [.int (v202_4 q cc gc (Ar h 170) c cc 0 (nI 0))], h, 198, sl) = some R := hh
  have er2 : R = (some (.int (v202_4 q cc gc (Ar h 170) c cc 0 (nI 0))), h, 198, sl) := (rn_ret rfl (Or.inl rfl) hh).2
  have ed : v202 q cc gc (Ar h 170) c = (v202_4 q cc gc (Ar h 170) c cc 0 (nI 0)) := rfl
  rw [ed]
  exact er2
def v203_4b (q : QT) (cc gc : Nat) (d0 : Nat → Int32) (m1 : Nat) (i : Nat) (x2 : Int32) : Int32 := x2 ||| (cond (v176 q cc gc (d0) m1 i) (shl (nI 1) (nI i)) (nI 0))
def v203_4 (q : QT) (cc gc : Nat) (d0 : Nat → Int32) (m1 : Nat) (j i : Nat) (a : Int32) : Int32 := lp (fun i a => v203_4b q cc gc d0 m1 i a) j i a
theorem v203_4_e {n fr lo sl cc gc : Nat} {q : QT} {h : pm_H} {R : pm_Rs} {m1 : Nat} {i : Nat} {x2 : Int32} (hw : HC q cc gc h) (h_m1 : m1 < 10000) (hi : cc ≤ i) (hI : i < 1000000) (hh : pm_run PT n fr lo 203 (4, [some (.ref 162), some (.int (nI m1)), some (.int x2), some (.int (nI i))], [], h, 198, sl) = some R) : ∃ m, pm_run PT m fr lo 203 (40, [some (.ref 162), some (.int (nI m1)), some (.int x2), some (.int (nI i))], [], h, 198, sl) = some R := by
  have hcc := hw.cb
  have hgc := hw.gb
  have hzr := hw.zr
  obtain ⟨n, hh⟩ := rn_i rfl rfl rfl rfl hh
  obtain ⟨n, hh⟩ := rn_i rfl rfl rfl rfl hh
  have hh : pm_run PT n fr lo 203 (6, [some (.ref 162), some (.int (nI m1)), some (.int x2), some (.int (nI i))], [.ref 162, .int (nI i)], h, 198, sl) = some R := hh
  obtain ⟨n, hh⟩ := rn_gi (x := nI cc) hw.wt rfl rfl (by decide) rfl (by decide) rfl hw.m3 hh
  have hh : pm_run PT n fr lo 203 (9, [some (.ref 162), some (.int (nI m1)), some (.int x2), some (.int (nI i))], [.int (nI cc), .int (nI i)], h, 198, sl) = some R := hh
  obtain ⟨n, hh⟩ := en_cn (cc := .ge) (off := 31) (t := 40) (b := decide (cc ≤ i)) (hI_ge (by omega) (by omega)) rfl rfl hh
  have hh := en_t (show decide (cc ≤ i) = true from decide_eq_true (by omega)) hh
  have hh : pm_run PT n fr lo 203 (40, [some (.ref 162), some (.int (nI m1)), some (.int x2), some (.int (nI i))], [], h, 198, sl) = some R := hh
  exact ⟨n, hh⟩
theorem v203_4_s {n fr lo sl cc gc : Nat} {q : QT} {h : pm_H} {R : pm_Rs} {m1 : Nat} {i : Nat} {x2 : Int32} (hw : HC q cc gc h) (h_m1 : m1 < 10000) (hi : i < cc) (hI : i < 1000000) (hh : pm_run PT n fr lo 203 (4, [some (.ref 162), some (.int (nI m1)), some (.int x2), some (.int (nI i))], [], h, 198, sl) = some R) : ∃ m, pm_run PT m fr lo 203 (4, [some (.ref 162), some (.int (nI m1)), some (.int (v203_4b q cc gc (Ar h 170) m1 i x2)), some (.int (nI (i + 1)))], [], h, 198, sl) = some R := by
  have hcc := hw.cb
  have hgc := hw.gb
  have hzr := hw.zr
  obtain ⟨n, hh⟩ := rn_i rfl rfl rfl rfl hh
  obtain ⟨n, hh⟩ := rn_i rfl rfl rfl rfl hh
  have hh : pm_run PT n fr lo 203 (6, [some (.ref 162), some (.int (nI m1)), some (.int x2), some (.int (nI i))], [.ref 162, .int (nI i)], h, 198, sl) = some R := hh
  obtain ⟨n, hh⟩ := rn_gi (x := nI cc) hw.wt rfl rfl (by decide) rfl (by decide) rfl hw.m3 hh
  have hh : pm_run PT n fr lo 203 (9, [some (.ref 162), some (.int (nI m1)), some (.int x2), some (.int (nI i))], [.int (nI cc), .int (nI i)], h, 198, sl) = some R := hh
  obtain ⟨n, hh⟩ := en_cn (cc := .ge) (off := 31) (t := 40) (b := decide (cc ≤ i)) (hI_ge (by omega) (by omega)) rfl rfl hh
  have hh := en_f (show decide (cc ≤ i) = false from decide_eq_false (by omega)) hh
  have hh : pm_run PT n fr lo 203 (12, [some (.ref 162), some (.int (nI m1)), some (.int x2), some (.int (nI i))], [], h, 198, sl) = some R := hh
  obtain ⟨n, hh⟩ := rn_i rfl rfl rfl rfl hh
  obtain ⟨n, hh⟩ := rn_i rfl rfl rfl rfl hh
  have hh : pm_run PT n fr lo 203 (14, [some (.ref 162), some (.int (nI m1)), some (.int x2), some (.int (nI i))], [.ref 162, .int x2], h, 198, sl) = some R := hh
  obtain ⟨n, hh⟩ := rn_gr hw.wt rfl rfl (by decide) rfl (by decide) (show _ = some (2, ((170 : Nat) : Int), 1) from rfl) rfl hh
  obtain ⟨n, hh⟩ := rn_i rfl rfl rfl rfl hh
  obtain ⟨n, hh⟩ := rn_i rfl rfl rfl rfl hh
  have hh : pm_run PT n fr lo 203 (19, [some (.ref 162), some (.int (nI m1)), some (.int x2), some (.int (nI i))], [.int (nI i), .int (nI m1), .ref 170, .int x2], h, 198, sl) = some R := hh
  obtain ⟨n, fr1, lo1, r1, hh1, hh⟩ := rn_call (w := 2) (t := 176) rfl rfl hh
  have er1 := v176_ok (a := m1) (b := i) hw (by omega) (by omega) hh1
  subst er1
  have hh : pm_run PT n fr lo 203 (22, [some (.ref 162), some (.int (nI m1)), some (.int x2), some (.int (nI i))], [.int (cond (v176 q cc gc (Ar h 170) m1 i) 1 0), .int x2], h, 198, sl) = some R := hh
  obtain ⟨n, hh⟩ := en_zn (cc := .eq) (off := 9) (t := 31) (b := !(v176 q cc gc (Ar h 170) m1 i)) eb_eq rfl rfl hh
  have hj3 : ∃ mJ, pm_run PT mJ fr lo 203 (cond (v176 q cc gc (Ar h 170) m1 i) (32, [some (.ref 162), some (.int (nI m1)), some (.int x2), some (.int (nI i))], [.int (shl (nI 1) (nI i)), .int x2], h, 198, sl) (32, [some (.ref 162), some (.int (nI m1)), some (.int x2), some (.int (nI i))], [.int (nI 0), .int x2], h, 198, sl)) = some R := en_J (fun z2 => by
      have hh := en_nt z2 hh
      have hh : pm_run PT n fr lo 203 (25, [some (.ref 162), some (.int (nI m1)), some (.int x2), some (.int (nI i))], [.int x2], h, 198, sl) = some R := hh
      obtain ⟨n, hh⟩ := rn_i rfl rfl rfl rfl hh
      obtain ⟨n, hh⟩ := rn_i rfl rfl rfl rfl hh
      obtain ⟨n, hh⟩ := rn_i rfl rfl rfl rfl hh
      obtain ⟨n, hh⟩ := rn_i rfl rfl rfl rfl hh
      exact ⟨n, hh⟩) (fun z2 => by
      have hh := en_nf z2 hh
      have hh : pm_run PT n fr lo 203 (31, [some (.ref 162), some (.int (nI m1)), some (.int x2), some (.int (nI i))], [.int x2], h, 198, sl) = some R := hh
      obtain ⟨n, hh⟩ := rn_i rfl rfl rfl rfl hh
      exact ⟨n, hh⟩)
  obtain ⟨n, hh⟩ := hj3
  rw [show (cond (v176 q cc gc (Ar h 170) m1 i) (32, [some (.ref 162), some (.int (nI m1)), some (.int x2), some (.int (nI i))], [.int (shl (nI 1) (nI i)), .int x2], h, 198, sl) (32, [some (.ref 162), some (.int (nI m1)), some (.int x2), some (.int (nI i))], [.int (nI 0), .int x2], h, 198, sl) : pm_St) = (32, [some (.ref 162), some (.int (nI m1)), some (.int x2), some (.int (nI i))], [.int (cond (v176 q cc gc (Ar h 170) m1 i) (shl (nI 1) (nI i)) (nI 0)), .int x2], h, 198, sl) from by cases (v176 q cc gc (Ar h 170) m1 i) <;> rfl] at hh
  obtain ⟨n, hh⟩ := rn_i rfl rfl rfl rfl hh
  obtain ⟨n, hh⟩ := rn_i rfl rfl rfl rfl hh
  have hh : pm_run PT n fr lo 203 (34, [some (.ref 162), some (.int (nI m1)), some (.int (x2 ||| (cond (v176 q cc gc (Ar h 170) m1 i) (shl (nI 1) (nI i)) (nI 0)))), some (.int (nI i))], [], h, 198, sl) = some R := hh
  obtain ⟨n, hh⟩ := en_inc (x := i) (c := 1) (j := 3) rfl rfl (by decide) hh
  have hh : pm_run PT n fr lo 203 (37, [some (.ref 162), some (.int (nI m1)), some (.int (x2 ||| (cond (v176 q cc gc (Ar h 170) m1 i) (shl (nI 1) (nI i)) (nI 0)))), some (.int (nI (i + 1)))], [], h, 198, sl) = some R := hh
  obtain ⟨n, hh⟩ := rn_i rfl rfl rfl rfl hh
  have ed : v203_4b q cc gc (Ar h 170) m1 i x2 = x2 ||| (cond (v176 q cc gc (Ar h 170) m1 i) (shl (nI 1) (nI i)) (nI 0)) := rfl
  rw [ed]
  exact ⟨n, hh⟩
theorem v203_4_ok {fr lo sl cc gc : Nat} {q : QT} {R : pm_Rs} {m1 : Nat} : ∀ {j i : Nat} {x2 : Int32} {h : pm_H} {n : Nat}, cc - i = j → i + j < 1000000 → HC q cc gc h → m1 < 10000 → pm_run PT n fr lo 203 (4, [some (.ref 162), some (.int (nI m1)), some (.int x2), some (.int (nI i))], [], h, 198, sl) = some R → ∃ m wc, pm_run PT m fr lo 203 (40, [some (.ref 162), some (.int (nI m1)), some (.int (v203_4 q cc gc (Ar h 170) m1 j i x2)), wc], [], h, 198, sl) = some R := by
  intro j
  induction j with
  | zero =>
    intro i x2 h n e eI hw h_m1 hh
    obtain ⟨n, hh⟩ := v203_4_e hw h_m1 (by omega) (by omega) hh
    exact ⟨n, _, hh⟩
  | succ j ih =>
    intro i x2 h n e eI hw h_m1 hh
    obtain ⟨n, hh⟩ := v203_4_s hw h_m1 (by omega) (by omega) hh
    obtain ⟨n, wc, hh⟩ := ih (by omega) (by omega) hw h_m1 hh
    exact ⟨n, wc, hh⟩
def v203 (q : QT) (cc gc : Nat) (d0 : Nat → Int32) (c : Nat) : Int32 := (v203_4 q cc gc (d0) c cc 0 (nI 0))
theorem v203_ok {n fr lo sl cc gc : Nat} {q : QT} {h : pm_H} {R : pm_Rs} {c : Nat} (hw : HC q cc gc h) (h_c : c < 10000) (hh : pm_run PT n fr lo 203 (0, pm_l0 [.ref 162, .int (nI c)] 4, [], h, 198, sl) = some R) : R = (some (.int (v203 q cc gc (Ar h 170) c)), h, 198, sl) := by
  have hcc := hw.cb
  have hgc := hw.gb
  have hzr := hw.zr
  obtain ⟨n, hh⟩ := rn_i rfl rfl rfl rfl hh
  obtain ⟨n, hh⟩ := rn_i rfl rfl rfl rfl hh
  obtain ⟨n, hh⟩ := rn_i rfl rfl rfl rfl hh
  obtain ⟨n, hh⟩ := rn_i rfl rfl rfl rfl hh
  have hh : pm_run PT n fr lo 203 (4, [some (.ref 162), some (.int (nI c)), some (.int (nI 0)), some (.int (nI 0))], [], h, 198, sl) = some R := hh
  obtain ⟨n, u1, hh⟩ := v203_4_ok (m1 := c)  (i := 0) (x2 := (nI 0)) (j := cc) (by omega) (by omega) hw (by omega) hh
  have hh : pm_run PT n fr lo 203 (40, [some (.ref 162), some (.int (nI c)), some (.int (v203_4 q cc gc (Ar h 170) c cc 0 (nI 0))), u1], [], h, 198, sl) = some R := hh
  obtain ⟨n, hh⟩ := rn_i rfl rfl rfl rfl hh
  have hh : pm_run PT n fr lo 203 (41, [some (.ref 162), some (.int (nI c)), some (.int (v203_4 q cc gc (Ar h 170) c cc 0 (nI 0))), u1], [.int (v203_4 q cc gc (Ar h 170) c cc 0 (nI 0))], h, 198, sl) = some R := hh
  have er2 : R = (some (.int (v203_4 q cc gc (Ar h 170) c cc 0 (nI 0))), h, 198, sl) := (rn_ret rfl (Or.inl rfl) hh).2
  have ed : v203 q cc gc (Ar h 170) c = (v203_4 q cc gc (Ar h 170) c cc 0 (nI 0)) := rfl
  rw [ed]
  exact er2
def v204_4b (q : QT) (cc gc : Nat) (d0 : Nat → Int32) (m1 : Nat) (i : Nat) (x2 : Int32) : Int32 := x2 + ((d0) (42 + 6 * m1 + i))
def v204_4 (q : QT) (cc gc : Nat) (d0 : Nat → Int32) (m1 : Nat) (j i : Nat) (a : Int32) : Int32 := lp (fun i a => v204_4b q cc gc d0 m1 i a) j i a
theorem v204_4_e {n fr lo sl cc gc : Nat} {q : QT} {h : pm_H} {R : pm_Rs} {m1 : Nat} {i : Nat} {x2 : Int32} (hw : HC q cc gc h) (h_m1 : m1 < 10000) (hi : cc ≤ i) (hI : i < 1000000) (hh : pm_run PT n fr lo 204 (4, [some (.ref 162), some (.int (nI m1)), some (.int x2), some (.int (nI i))], [], h, 198, sl) = some R) : ∃ m, pm_run PT m fr lo 204 (30, [some (.ref 162), some (.int (nI m1)), some (.int x2), some (.int (nI i))], [], h, 198, sl) = some R := by
  have hcc := hw.cb
  have hgc := hw.gb
  have hzr := hw.zr
  obtain ⟨n, hh⟩ := rn_i rfl rfl rfl rfl hh
  obtain ⟨n, hh⟩ := rn_i rfl rfl rfl rfl hh
  have hh : pm_run PT n fr lo 204 (6, [some (.ref 162), some (.int (nI m1)), some (.int x2), some (.int (nI i))], [.ref 162, .int (nI i)], h, 198, sl) = some R := hh
  obtain ⟨n, hh⟩ := rn_gi (x := nI cc) hw.wt rfl rfl (by decide) rfl (by decide) rfl hw.m3 hh
  have hh : pm_run PT n fr lo 204 (9, [some (.ref 162), some (.int (nI m1)), some (.int x2), some (.int (nI i))], [.int (nI cc), .int (nI i)], h, 198, sl) = some R := hh
  obtain ⟨n, hh⟩ := en_cn (cc := .ge) (off := 21) (t := 30) (b := decide (cc ≤ i)) (hI_ge (by omega) (by omega)) rfl rfl hh
  have hh := en_t (show decide (cc ≤ i) = true from decide_eq_true (by omega)) hh
  have hh : pm_run PT n fr lo 204 (30, [some (.ref 162), some (.int (nI m1)), some (.int x2), some (.int (nI i))], [], h, 198, sl) = some R := hh
  exact ⟨n, hh⟩
theorem v204_4_s {n fr lo sl cc gc : Nat} {q : QT} {h : pm_H} {R : pm_Rs} {m1 : Nat} {i : Nat} {x2 : Int32} (hw : HC q cc gc h) (h_m1 : m1 < 10000) (hi : i < cc) (hI : i < 1000000) (hh : pm_run PT n fr lo 204 (4, [some (.ref 162), some (.int (nI m1)), some (.int x2), some (.int (nI i))], [], h, 198, sl) = some R) : ∃ m, pm_run PT m fr lo 204 (4, [some (.ref 162), some (.int (nI m1)), some (.int (v204_4b q cc gc (Ar h 170) m1 i x2)), some (.int (nI (i + 1)))], [], h, 198, sl) = some R := by
  have hcc := hw.cb
  have hgc := hw.gb
  have hzr := hw.zr
  obtain ⟨n, hh⟩ := rn_i rfl rfl rfl rfl hh
  obtain ⟨n, hh⟩ := rn_i rfl rfl rfl rfl hh
  have hh : pm_run PT n fr lo 204 (6, [some (.ref 162), some (.int (nI m1)), some (.int x2), some (.int (nI i))], [.ref 162, .int (nI i)], h, 198, sl) = some R := hh
  obtain ⟨n, hh⟩ := rn_gi (x := nI cc) hw.wt rfl rfl (by decide) rfl (by decide) rfl hw.m3 hh
  have hh : pm_run PT n fr lo 204 (9, [some (.ref 162), some (.int (nI m1)), some (.int x2), some (.int (nI i))], [.int (nI cc), .int (nI i)], h, 198, sl) = some R := hh
  obtain ⟨n, hh⟩ := en_cn (cc := .ge) (off := 21) (t := 30) (b := decide (cc ≤ i)) (hI_ge (by omega) (by omega)) rfl rfl hh
  have hh := en_f (show decide (cc ≤ i) = false from decide_eq_false (by omega)) hh
  have hh : pm_run PT n fr lo 204 (12, [some (.ref 162), some (.int (nI m1)), some (.int x2), some (.int (nI i))], [], h, 198, sl) = some R := hh
  obtain ⟨n, hh⟩ := rn_i rfl rfl rfl rfl hh
  obtain ⟨n, hh⟩ := rn_i rfl rfl rfl rfl hh
  have hh : pm_run PT n fr lo 204 (14, [some (.ref 162), some (.int (nI m1)), some (.int x2), some (.int (nI i))], [.ref 162, .int x2], h, 198, sl) = some R := hh
  obtain ⟨n, hh⟩ := rn_gr hw.wt rfl rfl (by decide) rfl (by decide) (show _ = some (2, ((170 : Nat) : Int), 1) from rfl) rfl hh
  obtain ⟨n, hh⟩ := rn_i rfl rfl rfl rfl hh
  obtain ⟨n, hh⟩ := rn_i rfl rfl rfl rfl hh
  have hh : pm_run PT n fr lo 204 (19, [some (.ref 162), some (.int (nI m1)), some (.int x2), some (.int (nI i))], [.int (nI i), .int (nI m1), .ref 170, .int x2], h, 198, sl) = some R := hh
  obtain ⟨n, fr1, lo1, r1, hh1, hh⟩ := rn_call (w := 2) (t := 172) rfl rfl hh
  have hh1 : pm_run PT n fr1 lo1 172 (0, [some (.ref 170), some (.int (nI m1)), some (.int (nI i))], [], h, 198, sl) = some r1 := hh1
  obtain ⟨n1, hh1⟩ := rn_i rfl rfl rfl rfl hh1
  obtain ⟨n1, hh1⟩ := rn_i rfl rfl rfl rfl hh1
  obtain ⟨n1, hh1⟩ := rn_i rfl rfl rfl rfl hh1
  obtain ⟨n1, hh1⟩ := rn_i rfl rfl rfl rfl hh1
  have hh1 : pm_run PT n1 fr1 lo1 172 (6, [some (.ref 170), some (.int (nI m1)), some (.int (nI i))], [.int (nI m1), .int (nI 6), .int (nI 42), .ref 170], h, 198, sl) = some r1 := hh1
  obtain ⟨n1, hh1⟩ := en_mul rfl hh1
  have hh1 : pm_run PT n1 fr1 lo1 172 (7, [some (.ref 170), some (.int (nI m1)), some (.int (nI i))], [.int (nI (6 * m1)), .int (nI 42), .ref 170], h, 198, sl) = some r1 := hh1
  have hh1 : pm_run PT n1 fr1 lo1 172 (7, [some (.ref 170), some (.int (nI m1)), some (.int (nI i))], [.int (nI (6 * m1)), .int (nI 42), .ref 170], h, 198, sl) = some r1 := hh1
  obtain ⟨n1, hh1⟩ := en_add rfl hh1
  have hh1 : pm_run PT n1 fr1 lo1 172 (8, [some (.ref 170), some (.int (nI m1)), some (.int (nI i))], [.int (nI (42 + 6 * m1)), .ref 170], h, 198, sl) = some r1 := hh1
  obtain ⟨n1, hh1⟩ := rn_i rfl rfl rfl rfl hh1
  have hh1 : pm_run PT n1 fr1 lo1 172 (9, [some (.ref 170), some (.int (nI m1)), some (.int (nI i))], [.int (nI i), .int (nI (42 + 6 * m1)), .ref 170], h, 198, sl) = some r1 := hh1
  obtain ⟨n1, hh1⟩ := en_add rfl hh1
  have hh1 : pm_run PT n1 fr1 lo1 172 (10, [some (.ref 170), some (.int (nI m1)), some (.int (nI i))], [.int (nI (42 + 6 * m1 + i)), .ref 170], h, 198, sl) = some r1 := hh1
  have hh1 : pm_run PT n1 fr1 lo1 172 (10, [some (.ref 170), some (.int (nI m1)), some (.int (nI i))], [.int (nI (42 + 6 * m1 + i)), .ref 170], h, 198, sl) = some r1 := hh1
  obtain ⟨n1, hx1, hh1⟩ := en_lu (t := 42 + 6 * m1 + i) (f := Ar h 170) (w := (Ar h 170) (42 + 6 * m1 + i)) (nI_clamp (by omega)) hw.wt rfl (by decide) rfl (by decide) rfl (fun _ => rfl) hh1
  have hh1 : pm_run PT n1 fr1 lo1 172 (11, [some (.ref 170), some (.int (nI m1)), some (.int (nI i))], [.int ((Ar h 170) (42 + 6 * m1 + i))], h, 198, sl) = some r1 := hh1
  have er2 : r1 = (some (.int ((Ar h 170) (42 + 6 * m1 + i))), h, 198, sl) := (rn_ret rfl (Or.inl rfl) hh1).2
  subst er2
  obtain ⟨n, hh⟩ := rn_i rfl rfl rfl rfl hh
  obtain ⟨n, hh⟩ := rn_i rfl rfl rfl rfl hh
  have hh : pm_run PT n fr lo 204 (24, [some (.ref 162), some (.int (nI m1)), some (.int (x2 + ((Ar h 170) (42 + 6 * m1 + i)))), some (.int (nI i))], [], h, 198, sl) = some R := hh
  obtain ⟨n, hh⟩ := en_inc (x := i) (c := 1) (j := 3) rfl rfl (by decide) hh
  have hh : pm_run PT n fr lo 204 (27, [some (.ref 162), some (.int (nI m1)), some (.int (x2 + ((Ar h 170) (42 + 6 * m1 + i)))), some (.int (nI (i + 1)))], [], h, 198, sl) = some R := hh
  obtain ⟨n, hh⟩ := rn_i rfl rfl rfl rfl hh
  have ed : v204_4b q cc gc (Ar h 170) m1 i x2 = x2 + ((Ar h 170) (42 + 6 * m1 + i)) := rfl
  rw [ed]
  exact ⟨n, hh⟩
theorem v204_4_ok {fr lo sl cc gc : Nat} {q : QT} {R : pm_Rs} {m1 : Nat} : ∀ {j i : Nat} {x2 : Int32} {h : pm_H} {n : Nat}, cc - i = j → i + j < 1000000 → HC q cc gc h → m1 < 10000 → pm_run PT n fr lo 204 (4, [some (.ref 162), some (.int (nI m1)), some (.int x2), some (.int (nI i))], [], h, 198, sl) = some R → ∃ m wc, pm_run PT m fr lo 204 (30, [some (.ref 162), some (.int (nI m1)), some (.int (v204_4 q cc gc (Ar h 170) m1 j i x2)), wc], [], h, 198, sl) = some R := by
  intro j
  induction j with
  | zero =>
    intro i x2 h n e eI hw h_m1 hh
    obtain ⟨n, hh⟩ := v204_4_e hw h_m1 (by omega) (by omega) hh
    exact ⟨n, _, hh⟩
  | succ j ih =>
    intro i x2 h n e eI hw h_m1 hh
    obtain ⟨n, hh⟩ := v204_4_s hw h_m1 (by omega) (by omega) hh
    obtain ⟨n, wc, hh⟩ := ih (by omega) (by omega) hw h_m1 hh
    exact ⟨n, wc, hh⟩
def v204 (q : QT) (cc gc : Nat) (d0 : Nat → Int32) (c : Nat) : Int32 := (v204_4 q cc gc (d0) c cc 0 (nI 0))
theorem v204_ok {n fr lo sl cc gc : Nat} {q : QT} {h : pm_H} {R : pm_Rs} {c : Nat} (hw : HC q cc gc h) (h_c : c < 10000) (hh : pm_run PT n fr lo 204 (0, pm_l0 [.ref 162, .int (nI c)] 4, [], h, 198, sl) = some R) : R = (some (.int (v204 q cc gc (Ar h 170) c)), h, 198, sl) := by
  have hcc := hw.cb
  have hgc := hw.gb
  have hzr := hw.zr
  obtain ⟨n, hh⟩ := rn_i rfl rfl rfl rfl hh
  obtain ⟨n, hh⟩ := rn_i rfl rfl rfl rfl hh
  obtain ⟨n, hh⟩ := rn_i rfl rfl rfl rfl hh
  obtain ⟨n, hh⟩ := rn_i rfl rfl rfl rfl hh
  have hh : pm_run PT n fr lo 204 (4, [some (.ref 162), some (.int (nI c)), some (.int (nI 0)), some (.int (nI 0))], [], h, 198, sl) = some R := hh
  obtain ⟨n, u1, hh⟩ := v204_4_ok (m1 := c)  (i := 0) (x2 := (nI 0)) (j := cc) (by omega) (by omega) hw (by omega) hh
  have hh : pm_run PT n fr lo 204 (30, [some (.ref 162), some (.int (nI c)), some (.int (v204_4 q cc gc (Ar h 170) c cc 0 (nI 0))), u1], [], h, 198, sl) = some R := hh
  obtain ⟨n, hh⟩ := rn_i rfl rfl rfl rfl hh
  have hh : pm_run PT n fr lo 204 (31, [some (.ref 162), some (.int (nI c)), some (.int (v204_4 q cc gc (Ar h 170) c cc 0 (nI 0))), u1], [.int (v204_4 q cc gc (Ar h 170) c cc 0 (nI 0))], h, 198, sl) = some R := hh
  have er2 : R = (some (.int (v204_4 q cc gc (Ar h 170) c cc 0 (nI 0))), h, 198, sl) := (rn_ret rfl (Or.inl rfl) hh).2
  have ed : v204 q cc gc (Ar h 170) c = (v204_4 q cc gc (Ar h 170) c cc 0 (nI 0)) := rfl
  rw [ed]
  exact er2
def v205_4b (q : QT) (cc gc : Nat) (d0 : Nat → Int32) (m1 : Nat) (i : Nat) (x2 : Int32) : Int32 := x2 + ((d0) (42 + 6 * i + m1))
def v205_4 (q : QT) (cc gc : Nat) (d0 : Nat → Int32) (m1 : Nat) (j i : Nat) (a : Int32) : Int32 := lp (fun i a => v205_4b q cc gc d0 m1 i a) j i a
theorem v205_4_e {n fr lo sl cc gc : Nat} {q : QT} {h : pm_H} {R : pm_Rs} {m1 : Nat} {i : Nat} {x2 : Int32} (hw : HC q cc gc h) (h_m1 : m1 < 10000) (hi : cc ≤ i) (hI : i < 1000000) (hh : pm_run PT n fr lo 205 (4, [some (.ref 162), some (.int (nI m1)), some (.int x2), some (.int (nI i))], [], h, 198, sl) = some R) : ∃ m, pm_run PT m fr lo 205 (30, [some (.ref 162), some (.int (nI m1)), some (.int x2), some (.int (nI i))], [], h, 198, sl) = some R := by
  have hcc := hw.cb
  have hgc := hw.gb
  have hzr := hw.zr
  obtain ⟨n, hh⟩ := rn_i rfl rfl rfl rfl hh
  obtain ⟨n, hh⟩ := rn_i rfl rfl rfl rfl hh
  have hh : pm_run PT n fr lo 205 (6, [some (.ref 162), some (.int (nI m1)), some (.int x2), some (.int (nI i))], [.ref 162, .int (nI i)], h, 198, sl) = some R := hh
  obtain ⟨n, hh⟩ := rn_gi (x := nI cc) hw.wt rfl rfl (by decide) rfl (by decide) rfl hw.m3 hh
  have hh : pm_run PT n fr lo 205 (9, [some (.ref 162), some (.int (nI m1)), some (.int x2), some (.int (nI i))], [.int (nI cc), .int (nI i)], h, 198, sl) = some R := hh
  obtain ⟨n, hh⟩ := en_cn (cc := .ge) (off := 21) (t := 30) (b := decide (cc ≤ i)) (hI_ge (by omega) (by omega)) rfl rfl hh
  have hh := en_t (show decide (cc ≤ i) = true from decide_eq_true (by omega)) hh
  have hh : pm_run PT n fr lo 205 (30, [some (.ref 162), some (.int (nI m1)), some (.int x2), some (.int (nI i))], [], h, 198, sl) = some R := hh
  exact ⟨n, hh⟩
theorem v205_4_s {n fr lo sl cc gc : Nat} {q : QT} {h : pm_H} {R : pm_Rs} {m1 : Nat} {i : Nat} {x2 : Int32} (hw : HC q cc gc h) (h_m1 : m1 < 10000) (hi : i < cc) (hI : i < 1000000) (hh : pm_run PT n fr lo 205 (4, [some (.ref 162), some (.int (nI m1)), some (.int x2), some (.int (nI i))], [], h, 198, sl) = some R) : ∃ m, pm_run PT m fr lo 205 (4, [some (.ref 162), some (.int (nI m1)), some (.int (v205_4b q cc gc (Ar h 170) m1 i x2)), some (.int (nI (i + 1)))], [], h, 198, sl) = some R := by
  have hcc := hw.cb
  have hgc := hw.gb
  have hzr := hw.zr
  obtain ⟨n, hh⟩ := rn_i rfl rfl rfl rfl hh
  obtain ⟨n, hh⟩ := rn_i rfl rfl rfl rfl hh
  have hh : pm_run PT n fr lo 205 (6, [some (.ref 162), some (.int (nI m1)), some (.int x2), some (.int (nI i))], [.ref 162, .int (nI i)], h, 198, sl) = some R := hh
  obtain ⟨n, hh⟩ := rn_gi (x := nI cc) hw.wt rfl rfl (by decide) rfl (by decide) rfl hw.m3 hh
  have hh : pm_run PT n fr lo 205 (9, [some (.ref 162), some (.int (nI m1)), some (.int x2), some (.int (nI i))], [.int (nI cc), .int (nI i)], h, 198, sl) = some R := hh
  obtain ⟨n, hh⟩ := en_cn (cc := .ge) (off := 21) (t := 30) (b := decide (cc ≤ i)) (hI_ge (by omega) (by omega)) rfl rfl hh
  have hh := en_f (show decide (cc ≤ i) = false from decide_eq_false (by omega)) hh
  have hh : pm_run PT n fr lo 205 (12, [some (.ref 162), some (.int (nI m1)), some (.int x2), some (.int (nI i))], [], h, 198, sl) = some R := hh
  obtain ⟨n, hh⟩ := rn_i rfl rfl rfl rfl hh
  obtain ⟨n, hh⟩ := rn_i rfl rfl rfl rfl hh
  have hh : pm_run PT n fr lo 205 (14, [some (.ref 162), some (.int (nI m1)), some (.int x2), some (.int (nI i))], [.ref 162, .int x2], h, 198, sl) = some R := hh
  obtain ⟨n, hh⟩ := rn_gr hw.wt rfl rfl (by decide) rfl (by decide) (show _ = some (2, ((170 : Nat) : Int), 1) from rfl) rfl hh
  obtain ⟨n, hh⟩ := rn_i rfl rfl rfl rfl hh
  obtain ⟨n, hh⟩ := rn_i rfl rfl rfl rfl hh
  have hh : pm_run PT n fr lo 205 (19, [some (.ref 162), some (.int (nI m1)), some (.int x2), some (.int (nI i))], [.int (nI m1), .int (nI i), .ref 170, .int x2], h, 198, sl) = some R := hh
  obtain ⟨n, fr1, lo1, r1, hh1, hh⟩ := rn_call (w := 2) (t := 172) rfl rfl hh
  have hh1 : pm_run PT n fr1 lo1 172 (0, [some (.ref 170), some (.int (nI i)), some (.int (nI m1))], [], h, 198, sl) = some r1 := hh1
  obtain ⟨n1, hh1⟩ := rn_i rfl rfl rfl rfl hh1
  obtain ⟨n1, hh1⟩ := rn_i rfl rfl rfl rfl hh1
  obtain ⟨n1, hh1⟩ := rn_i rfl rfl rfl rfl hh1
  obtain ⟨n1, hh1⟩ := rn_i rfl rfl rfl rfl hh1
  have hh1 : pm_run PT n1 fr1 lo1 172 (6, [some (.ref 170), some (.int (nI i)), some (.int (nI m1))], [.int (nI i), .int (nI 6), .int (nI 42), .ref 170], h, 198, sl) = some r1 := hh1
  obtain ⟨n1, hh1⟩ := en_mul rfl hh1
  have hh1 : pm_run PT n1 fr1 lo1 172 (7, [some (.ref 170), some (.int (nI i)), some (.int (nI m1))], [.int (nI (6 * i)), .int (nI 42), .ref 170], h, 198, sl) = some r1 := hh1
  have hh1 : pm_run PT n1 fr1 lo1 172 (7, [some (.ref 170), some (.int (nI i)), some (.int (nI m1))], [.int (nI (6 * i)), .int (nI 42), .ref 170], h, 198, sl) = some r1 := hh1
  obtain ⟨n1, hh1⟩ := en_add rfl hh1
  have hh1 : pm_run PT n1 fr1 lo1 172 (8, [some (.ref 170), some (.int (nI i)), some (.int (nI m1))], [.int (nI (42 + 6 * i)), .ref 170], h, 198, sl) = some r1 := hh1
  obtain ⟨n1, hh1⟩ := rn_i rfl rfl rfl rfl hh1
  have hh1 : pm_run PT n1 fr1 lo1 172 (9, [some (.ref 170), some (.int (nI i)), some (.int (nI m1))], [.int (nI m1), .int (nI (42 + 6 * i)), .ref 170], h, 198, sl) = some r1 := hh1
  obtain ⟨n1, hh1⟩ := en_add rfl hh1
  have hh1 : pm_run PT n1 fr1 lo1 172 (10, [some (.ref 170), some (.int (nI i)), some (.int (nI m1))], [.int (nI (42 + 6 * i + m1)), .ref 170], h, 198, sl) = some r1 := hh1
  have hh1 : pm_run PT n1 fr1 lo1 172 (10, [some (.ref 170), some (.int (nI i)), some (.int (nI m1))], [.int (nI (42 + 6 * i + m1)), .ref 170], h, 198, sl) = some r1 := hh1
  obtain ⟨n1, hx1, hh1⟩ := en_lu (t := 42 + 6 * i + m1) (f := Ar h 170) (w := (Ar h 170) (42 + 6 * i + m1)) (nI_clamp (by omega)) hw.wt rfl (by decide) rfl (by decide) rfl (fun _ => rfl) hh1
  have hh1 : pm_run PT n1 fr1 lo1 172 (11, [some (.ref 170), some (.int (nI i)), some (.int (nI m1))], [.int ((Ar h 170) (42 + 6 * i + m1))], h, 198, sl) = some r1 := hh1
  have er2 : r1 = (some (.int ((Ar h 170) (42 + 6 * i + m1))), h, 198, sl) := (rn_ret rfl (Or.inl rfl) hh1).2
  subst er2
  obtain ⟨n, hh⟩ := rn_i rfl rfl rfl rfl hh
  obtain ⟨n, hh⟩ := rn_i rfl rfl rfl rfl hh
  have hh : pm_run PT n fr lo 205 (24, [some (.ref 162), some (.int (nI m1)), some (.int (x2 + ((Ar h 170) (42 + 6 * i + m1)))), some (.int (nI i))], [], h, 198, sl) = some R := hh
  obtain ⟨n, hh⟩ := en_inc (x := i) (c := 1) (j := 3) rfl rfl (by decide) hh
  have hh : pm_run PT n fr lo 205 (27, [some (.ref 162), some (.int (nI m1)), some (.int (x2 + ((Ar h 170) (42 + 6 * i + m1)))), some (.int (nI (i + 1)))], [], h, 198, sl) = some R := hh
  obtain ⟨n, hh⟩ := rn_i rfl rfl rfl rfl hh
  have ed : v205_4b q cc gc (Ar h 170) m1 i x2 = x2 + ((Ar h 170) (42 + 6 * i + m1)) := rfl
  rw [ed]
  exact ⟨n, hh⟩
theorem v205_4_ok {fr lo sl cc gc : Nat} {q : QT} {R : pm_Rs} {m1 : Nat} : ∀ {j i : Nat} {x2 : Int32} {h : pm_H} {n : Nat}, cc - i = j → i + j < 1000000 → HC q cc gc h → m1 < 10000 → pm_run PT n fr lo 205 (4, [some (.ref 162), some (.int (nI m1)), some (.int x2), some (.int (nI i))], [], h, 198, sl) = some R → ∃ m wc, pm_run PT m fr lo 205 (30, [some (.ref 162), some (.int (nI m1)), some (.int (v205_4 q cc gc (Ar h 170) m1 j i x2)), wc], [], h, 198, sl) = some R := by
  intro j
  induction j with
  | zero =>
    intro i x2 h n e eI hw h_m1 hh
    obtain ⟨n, hh⟩ := v205_4_e hw h_m1 (by omega) (by omega) hh
    exact ⟨n, _, hh⟩
  | succ j ih =>
    intro i x2 h n e eI hw h_m1 hh
    obtain ⟨n, hh⟩ := v205_4_s hw h_m1 (by omega) (by omega) hh
    obtain ⟨n, wc, hh⟩ := ih (by omega) (by omega) hw h_m1 hh
    exact ⟨n, wc, hh⟩
def v205 (q : QT) (cc gc : Nat) (d0 : Nat → Int32) (c : Nat) : Int32 := (v205_4 q cc gc (d0) c cc 0 (nI 0))
theorem v205_ok {n fr lo sl cc gc : Nat} {q : QT} {h : pm_H} {R : pm_Rs} {c : Nat} (hw : HC q cc gc h) (h_c : c < 10000) (hh : pm_run PT n fr lo 205 (0, pm_l0 [.ref 162, .int (nI c)] 4, [], h, 198, sl) = some R) : R = (some (.int (v205 q cc gc (Ar h 170) c)), h, 198, sl) := by
  have hcc := hw.cb
  have hgc := hw.gb
  have hzr := hw.zr
  obtain ⟨n, hh⟩ := rn_i rfl rfl rfl rfl hh
  obtain ⟨n, hh⟩ := rn_i rfl rfl rfl rfl hh
  obtain ⟨n, hh⟩ := rn_i rfl rfl rfl rfl hh
  obtain ⟨n, hh⟩ := rn_i rfl rfl rfl rfl hh
  have hh : pm_run PT n fr lo 205 (4, [some (.ref 162), some (.int (nI c)), some (.int (nI 0)), some (.int (nI 0))], [], h, 198, sl) = some R := hh
  obtain ⟨n, u1, hh⟩ := v205_4_ok (m1 := c)  (i := 0) (x2 := (nI 0)) (j := cc) (by omega) (by omega) hw (by omega) hh
  have hh : pm_run PT n fr lo 205 (30, [some (.ref 162), some (.int (nI c)), some (.int (v205_4 q cc gc (Ar h 170) c cc 0 (nI 0))), u1], [], h, 198, sl) = some R := hh
  obtain ⟨n, hh⟩ := rn_i rfl rfl rfl rfl hh
  have hh : pm_run PT n fr lo 205 (31, [some (.ref 162), some (.int (nI c)), some (.int (v205_4 q cc gc (Ar h 170) c cc 0 (nI 0))), u1], [.int (v205_4 q cc gc (Ar h 170) c cc 0 (nI 0))], h, 198, sl) = some R := hh
  have er2 : R = (some (.int (v205_4 q cc gc (Ar h 170) c cc 0 (nI 0))), h, 198, sl) := (rn_ret rfl (Or.inl rfl) hh).2
  have ed : v205 q cc gc (Ar h 170) c = (v205_4 q cc gc (Ar h 170) c cc 0 (nI 0)) := rfl
  rw [ed]
  exact er2
def v248_4b (q : QT) (cc gc : Nat) (d0 : Nat → Int32) (m1 : Nat) (i : Nat) (x2 : Int32) : Int32 := x2 + (cond (decide (¬ i = m1)) ((d0) (6 + 6 * i + m1)) (nI 0))
def v248_4 (q : QT) (cc gc : Nat) (d0 : Nat → Int32) (m1 : Nat) (j i : Nat) (a : Int32) : Int32 := lp (fun i a => v248_4b q cc gc d0 m1 i a) j i a
theorem v248_4_e {n fr lo sl cc gc : Nat} {q : QT} {h : pm_H} {R : pm_Rs} {m1 : Nat} {i : Nat} {x2 : Int32} (hw : HC q cc gc h) (h_m1 : m1 < 10000) (hi : cc ≤ i) (hI : i < 1000000) (hh : pm_run PT n fr lo 248 (4, [some (.ref 162), some (.int (nI m1)), some (.int x2), some (.int (nI i))], [], h, 198, sl) = some R) : ∃ m, pm_run PT m fr lo 248 (39, [some (.ref 162), some (.int (nI m1)), some (.int x2), some (.int (nI i))], [], h, 198, sl) = some R := by
  have hcc := hw.cb
  have hgc := hw.gb
  have hzr := hw.zr
  obtain ⟨n, hh⟩ := rn_i rfl rfl rfl rfl hh
  obtain ⟨n, hh⟩ := rn_i rfl rfl rfl rfl hh
  have hh : pm_run PT n fr lo 248 (6, [some (.ref 162), some (.int (nI m1)), some (.int x2), some (.int (nI i))], [.ref 162, .int (nI i)], h, 198, sl) = some R := hh
  obtain ⟨n, hh⟩ := rn_gi (x := nI cc) hw.wt rfl rfl (by decide) rfl (by decide) rfl hw.m3 hh
  have hh : pm_run PT n fr lo 248 (9, [some (.ref 162), some (.int (nI m1)), some (.int x2), some (.int (nI i))], [.int (nI cc), .int (nI i)], h, 198, sl) = some R := hh
  obtain ⟨n, hh⟩ := en_cn (cc := .ge) (off := 30) (t := 39) (b := decide (cc ≤ i)) (hI_ge (by omega) (by omega)) rfl rfl hh
  have hh := en_t (show decide (cc ≤ i) = true from decide_eq_true (by omega)) hh
  have hh : pm_run PT n fr lo 248 (39, [some (.ref 162), some (.int (nI m1)), some (.int x2), some (.int (nI i))], [], h, 198, sl) = some R := hh
  exact ⟨n, hh⟩
theorem v248_4_s {n fr lo sl cc gc : Nat} {q : QT} {h : pm_H} {R : pm_Rs} {m1 : Nat} {i : Nat} {x2 : Int32} (hw : HC q cc gc h) (h_m1 : m1 < 10000) (hi : i < cc) (hI : i < 1000000) (hh : pm_run PT n fr lo 248 (4, [some (.ref 162), some (.int (nI m1)), some (.int x2), some (.int (nI i))], [], h, 198, sl) = some R) : ∃ m, pm_run PT m fr lo 248 (4, [some (.ref 162), some (.int (nI m1)), some (.int (v248_4b q cc gc (Ar h 170) m1 i x2)), some (.int (nI (i + 1)))], [], h, 198, sl) = some R := by
  have hcc := hw.cb
  have hgc := hw.gb
  have hzr := hw.zr
  obtain ⟨n, hh⟩ := rn_i rfl rfl rfl rfl hh
  obtain ⟨n, hh⟩ := rn_i rfl rfl rfl rfl hh
  have hh : pm_run PT n fr lo 248 (6, [some (.ref 162), some (.int (nI m1)), some (.int x2), some (.int (nI i))], [.ref 162, .int (nI i)], h, 198, sl) = some R := hh
  obtain ⟨n, hh⟩ := rn_gi (x := nI cc) hw.wt rfl rfl (by decide) rfl (by decide) rfl hw.m3 hh
  have hh : pm_run PT n fr lo 248 (9, [some (.ref 162), some (.int (nI m1)), some (.int x2), some (.int (nI i))], [.int (nI cc), .int (nI i)], h, 198, sl) = some R := hh
  obtain ⟨n, hh⟩ := en_cn (cc := .ge) (off := 30) (t := 39) (b := decide (cc ≤ i)) (hI_ge (by omega) (by omega)) rfl rfl hh
  have hh := en_f (show decide (cc ≤ i) = false from decide_eq_false (by omega)) hh
  have hh : pm_run PT n fr lo 248 (12, [some (.ref 162), some (.int (nI m1)), some (.int x2), some (.int (nI i))], [], h, 198, sl) = some R := hh
  obtain ⟨n, hh⟩ := rn_i rfl rfl rfl rfl hh
  obtain ⟨n, hh⟩ := rn_i rfl rfl rfl rfl hh
  obtain ⟨n, hh⟩ := rn_i rfl rfl rfl rfl hh
  have hh : pm_run PT n fr lo 248 (15, [some (.ref 162), some (.int (nI m1)), some (.int x2), some (.int (nI i))], [.int (nI m1), .int (nI i), .int x2], h, 198, sl) = some R := hh
  obtain ⟨n, hh⟩ := en_cn (cc := .ne) (off := 7) (t := 22) (b := decide (¬ i = m1)) (hI_ne (by omega) (by omega)) rfl rfl hh
  have hj4 : ∃ mJ, pm_run PT mJ fr lo 248 (cond (decide (¬ i = m1)) (31, [some (.ref 162), some (.int (nI m1)), some (.int x2), some (.int (nI i))], [.int ((Ar h 170) (6 + 6 * i + m1)), .int x2], h, 198, sl) (31, [some (.ref 162), some (.int (nI m1)), some (.int x2), some (.int (nI i))], [.int (nI 0), .int x2], h, 198, sl)) = some R := en_J (fun z1 => by
      have hh := en_t z1 hh
      have hh : pm_run PT n fr lo 248 (22, [some (.ref 162), some (.int (nI m1)), some (.int x2), some (.int (nI i))], [.int x2], h, 198, sl) = some R := hh
      have y_z1 := of_decide_eq_true z1
      obtain ⟨n, hh⟩ := rn_i rfl rfl rfl rfl hh
      have hh : pm_run PT n fr lo 248 (23, [some (.ref 162), some (.int (nI m1)), some (.int x2), some (.int (nI i))], [.ref 162, .int x2], h, 198, sl) = some R := hh
      obtain ⟨n, hh⟩ := rn_gr hw.wt rfl rfl (by decide) rfl (by decide) (show _ = some (2, ((170 : Nat) : Int), 1) from rfl) rfl hh
      obtain ⟨n, hh⟩ := rn_i rfl rfl rfl rfl hh
      obtain ⟨n, hh⟩ := rn_i rfl rfl rfl rfl hh
      have hh : pm_run PT n fr lo 248 (28, [some (.ref 162), some (.int (nI m1)), some (.int x2), some (.int (nI i))], [.int (nI m1), .int (nI i), .ref 170, .int x2], h, 198, sl) = some R := hh
      obtain ⟨n, fr1, lo1, r1, hh1, hh⟩ := rn_call (w := 2) (t := 171) rfl rfl hh
      have hh1 : pm_run PT n fr1 lo1 171 (0, [some (.ref 170), some (.int (nI i)), some (.int (nI m1))], [], h, 198, sl) = some r1 := hh1
      obtain ⟨n1, hh1⟩ := rn_i rfl rfl rfl rfl hh1
      obtain ⟨n1, hh1⟩ := rn_i rfl rfl rfl rfl hh1
      obtain ⟨n1, hh1⟩ := rn_i rfl rfl rfl rfl hh1
      obtain ⟨n1, hh1⟩ := rn_i rfl rfl rfl rfl hh1
      have hh1 : pm_run PT n1 fr1 lo1 171 (6, [some (.ref 170), some (.int (nI i)), some (.int (nI m1))], [.int (nI i), .int (nI 6), .int (nI 6), .ref 170], h, 198, sl) = some r1 := hh1
      obtain ⟨n1, hh1⟩ := en_mul rfl hh1
      have hh1 : pm_run PT n1 fr1 lo1 171 (7, [some (.ref 170), some (.int (nI i)), some (.int (nI m1))], [.int (nI (6 * i)), .int (nI 6), .ref 170], h, 198, sl) = some r1 := hh1
      have hh1 : pm_run PT n1 fr1 lo1 171 (7, [some (.ref 170), some (.int (nI i)), some (.int (nI m1))], [.int (nI (6 * i)), .int (nI 6), .ref 170], h, 198, sl) = some r1 := hh1
      obtain ⟨n1, hh1⟩ := en_add rfl hh1
      have hh1 : pm_run PT n1 fr1 lo1 171 (8, [some (.ref 170), some (.int (nI i)), some (.int (nI m1))], [.int (nI (6 + 6 * i)), .ref 170], h, 198, sl) = some r1 := hh1
      obtain ⟨n1, hh1⟩ := rn_i rfl rfl rfl rfl hh1
      have hh1 : pm_run PT n1 fr1 lo1 171 (9, [some (.ref 170), some (.int (nI i)), some (.int (nI m1))], [.int (nI m1), .int (nI (6 + 6 * i)), .ref 170], h, 198, sl) = some r1 := hh1
      obtain ⟨n1, hh1⟩ := en_add rfl hh1
      have hh1 : pm_run PT n1 fr1 lo1 171 (10, [some (.ref 170), some (.int (nI i)), some (.int (nI m1))], [.int (nI (6 + 6 * i + m1)), .ref 170], h, 198, sl) = some r1 := hh1
      have hh1 : pm_run PT n1 fr1 lo1 171 (10, [some (.ref 170), some (.int (nI i)), some (.int (nI m1))], [.int (nI (6 + 6 * i + m1)), .ref 170], h, 198, sl) = some r1 := hh1
      obtain ⟨n1, hx2, hh1⟩ := en_lu (t := 6 + 6 * i + m1) (f := Ar h 170) (w := (Ar h 170) (6 + 6 * i + m1)) (nI_clamp (by omega)) hw.wt rfl (by decide) rfl (by decide) rfl (fun _ => rfl) hh1
      have hh1 : pm_run PT n1 fr1 lo1 171 (11, [some (.ref 170), some (.int (nI i)), some (.int (nI m1))], [.int ((Ar h 170) (6 + 6 * i + m1))], h, 198, sl) = some r1 := hh1
      have er3 : r1 = (some (.int ((Ar h 170) (6 + 6 * i + m1))), h, 198, sl) := (rn_ret rfl (Or.inl rfl) hh1).2
      subst er3
      exact ⟨n, hh⟩) (fun z1 => by
      have hh := en_f z1 hh
      have hh : pm_run PT n fr lo 248 (18, [some (.ref 162), some (.int (nI m1)), some (.int x2), some (.int (nI i))], [.int x2], h, 198, sl) = some R := hh
      have y_z1 := of_decide_eq_false z1
      obtain ⟨n, hh⟩ := rn_i rfl rfl rfl rfl hh
      obtain ⟨n, hh⟩ := rn_i rfl rfl rfl rfl hh
      exact ⟨n, hh⟩)
  obtain ⟨n, hh⟩ := hj4
  rw [show (cond (decide (¬ i = m1)) (31, [some (.ref 162), some (.int (nI m1)), some (.int x2), some (.int (nI i))], [.int ((Ar h 170) (6 + 6 * i + m1)), .int x2], h, 198, sl) (31, [some (.ref 162), some (.int (nI m1)), some (.int x2), some (.int (nI i))], [.int (nI 0), .int x2], h, 198, sl) : pm_St) = (31, [some (.ref 162), some (.int (nI m1)), some (.int x2), some (.int (nI i))], [.int (cond (decide (¬ i = m1)) ((Ar h 170) (6 + 6 * i + m1)) (nI 0)), .int x2], h, 198, sl) from by cases (decide (¬ i = m1)) <;> rfl] at hh
  obtain ⟨n, hh⟩ := rn_i rfl rfl rfl rfl hh
  obtain ⟨n, hh⟩ := rn_i rfl rfl rfl rfl hh
  have hh : pm_run PT n fr lo 248 (33, [some (.ref 162), some (.int (nI m1)), some (.int (x2 + (cond (decide (¬ i = m1)) ((Ar h 170) (6 + 6 * i + m1)) (nI 0)))), some (.int (nI i))], [], h, 198, sl) = some R := hh
  obtain ⟨n, hh⟩ := en_inc (x := i) (c := 1) (j := 3) rfl rfl (by decide) hh
  have hh : pm_run PT n fr lo 248 (36, [some (.ref 162), some (.int (nI m1)), some (.int (x2 + (cond (decide (¬ i = m1)) ((Ar h 170) (6 + 6 * i + m1)) (nI 0)))), some (.int (nI (i + 1)))], [], h, 198, sl) = some R := hh
  obtain ⟨n, hh⟩ := rn_i rfl rfl rfl rfl hh
  have ed : v248_4b q cc gc (Ar h 170) m1 i x2 = x2 + (cond (decide (¬ i = m1)) ((Ar h 170) (6 + 6 * i + m1)) (nI 0)) := rfl
  rw [ed]
  exact ⟨n, hh⟩
theorem v248_4_ok {fr lo sl cc gc : Nat} {q : QT} {R : pm_Rs} {m1 : Nat} : ∀ {j i : Nat} {x2 : Int32} {h : pm_H} {n : Nat}, cc - i = j → i + j < 1000000 → HC q cc gc h → m1 < 10000 → pm_run PT n fr lo 248 (4, [some (.ref 162), some (.int (nI m1)), some (.int x2), some (.int (nI i))], [], h, 198, sl) = some R → ∃ m wc, pm_run PT m fr lo 248 (39, [some (.ref 162), some (.int (nI m1)), some (.int (v248_4 q cc gc (Ar h 170) m1 j i x2)), wc], [], h, 198, sl) = some R := by
  intro j
  induction j with
  | zero =>
    intro i x2 h n e eI hw h_m1 hh
    obtain ⟨n, hh⟩ := v248_4_e hw h_m1 (by omega) (by omega) hh
    exact ⟨n, _, hh⟩
  | succ j ih =>
    intro i x2 h n e eI hw h_m1 hh
    obtain ⟨n, hh⟩ := v248_4_s hw h_m1 (by omega) (by omega) hh
    obtain ⟨n, wc, hh⟩ := ih (by omega) (by omega) hw h_m1 hh
    exact ⟨n, wc, hh⟩
def v248 (q : QT) (cc gc : Nat) (d0 : Nat → Int32) (c : Nat) : Int32 := (v248_4 q cc gc (d0) c cc 0 (nI 0))
theorem v248_ok {n fr lo sl cc gc : Nat} {q : QT} {h : pm_H} {R : pm_Rs} {c : Nat} (hw : HC q cc gc h) (h_c : c < 10000) (hh : pm_run PT n fr lo 248 (0, pm_l0 [.ref 162, .int (nI c)] 4, [], h, 198, sl) = some R) : R = (some (.int (v248 q cc gc (Ar h 170) c)), h, 198, sl) := by
  have hcc := hw.cb
  have hgc := hw.gb
  have hzr := hw.zr
  obtain ⟨n, hh⟩ := rn_i rfl rfl rfl rfl hh
  obtain ⟨n, hh⟩ := rn_i rfl rfl rfl rfl hh
  obtain ⟨n, hh⟩ := rn_i rfl rfl rfl rfl hh
  obtain ⟨n, hh⟩ := rn_i rfl rfl rfl rfl hh
  have hh : pm_run PT n fr lo 248 (4, [some (.ref 162), some (.int (nI c)), some (.int (nI 0)), some (.int (nI 0))], [], h, 198, sl) = some R := hh
  obtain ⟨n, u1, hh⟩ := v248_4_ok (m1 := c)  (i := 0) (x2 := (nI 0)) (j := cc) (by omega) (by omega) hw (by omega) hh
  have hh : pm_run PT n fr lo 248 (39, [some (.ref 162), some (.int (nI c)), some (.int (v248_4 q cc gc (Ar h 170) c cc 0 (nI 0))), u1], [], h, 198, sl) = some R := hh
  obtain ⟨n, hh⟩ := rn_i rfl rfl rfl rfl hh
  have hh : pm_run PT n fr lo 248 (40, [some (.ref 162), some (.int (nI c)), some (.int (v248_4 q cc gc (Ar h 170) c cc 0 (nI 0))), u1], [.int (v248_4 q cc gc (Ar h 170) c cc 0 (nI 0))], h, 198, sl) = some R := hh
  have er2 : R = (some (.int (v248_4 q cc gc (Ar h 170) c cc 0 (nI 0))), h, 198, sl) := (rn_ret rfl (Or.inl rfl) hh).2
  have ed : v248 q cc gc (Ar h 170) c = (v248_4 q cc gc (Ar h 170) c cc 0 (nI 0)) := rfl
  rw [ed]
  exact er2
end EB
