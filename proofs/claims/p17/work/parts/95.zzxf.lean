section MH95zzxfx0
/-! runs told exactly, written by ext.py -/
section EC
def v67 (q : QT) (cc gc : Nat) (x : Int32) : Int32 := cond (pm_cmp .eq x (nI 100)) (nI 6) (cond (pm_cmp .eq x (nI 101)) (nI 5) (cond (pm_cmp .eq x (nI 104)) (nI 4) (cond (pm_cmp .eq x (nI 107)) (nI 1) (cond (pm_cmp .eq x (nI 114)) (nI 2) (cond (pm_cmp .eq x (nI 115)) (nI 3) (cond (pm_cmp .eq x (nI 119)) (nI 0) (Int32.ofInt (-1))))))))
theorem v67_ok {n fr lo sl cc gc : Nat} {q : QT} {h : pm_H} {R : pm_Rs} {x : Int32} (hw : HC q cc gc h) (hh : pm_run PT n fr lo 67 (0, pm_l0 [.int x] 1, [], h, 198, sl) = some R) : R = (some (.int (v67 q cc gc x)), h, 198, sl) := by
  have hcc := hw.cb
  have hgc := hw.gb
  have hzr := hw.zr
  obtain ⟨n, hh⟩ := rn_i rfl rfl rfl rfl hh
  have hh : pm_run PT n fr lo 67 (1, [some (.int x)], [.int x], h, 198, sl) = some R := hh
  cases z1 : pm_cmp .eq x (nI 100) with
  | true =>
    obtain ⟨n, hh⟩ := en_tsc (c := 100) (t := 108) rfl (en_xc (c := 100) (by decide) z1) (by decide) rfl rfl hh
    have hh : pm_run PT n fr lo 67 (108, [some (.int x)], [], h, 198, sl) = some R := hh
    obtain ⟨n, hh⟩ := rn_i rfl rfl rfl rfl hh
    have hh : pm_run PT n fr lo 67 (110, [some (.int x)], [.int (nI 6)], h, 198, sl) = some R := hh
    have er2 : R = (some (.int (nI 6)), h, 198, sl) := (rn_ret rfl (Or.inl rfl) hh).2
    have ed : v67 q cc gc x = nI 6 := (ct z1).trans rfl
    rw [ed]
    exact er2
  | false =>
    cases z3 : pm_cmp .eq x (nI 101) with
    | true =>
      obtain ⟨n, hh⟩ := en_tsc (c := 101) (t := 106) rfl (en_xc (c := 101) (by decide) z3) (by decide) rfl rfl hh
      have hh : pm_run PT n fr lo 67 (106, [some (.int x)], [], h, 198, sl) = some R := hh
      obtain ⟨n, hh⟩ := rn_i rfl rfl rfl rfl hh
      have hh : pm_run PT n fr lo 67 (107, [some (.int x)], [.int (nI 5)], h, 198, sl) = some R := hh
      have er4 : R = (some (.int (nI 5)), h, 198, sl) := (rn_ret rfl (Or.inl rfl) hh).2
      have ed : v67 q cc gc x = nI 5 := (cf z1).trans ((ct z3).trans rfl)
      rw [ed]
      exact er4
    | false =>
      cases z5 : pm_cmp .eq x (nI 104) with
      | true =>
        obtain ⟨n, hh⟩ := en_tsc (c := 104) (t := 104) rfl (en_xc (c := 104) (by decide) z5) (by decide) rfl rfl hh
        have hh : pm_run PT n fr lo 67 (104, [some (.int x)], [], h, 198, sl) = some R := hh
        obtain ⟨n, hh⟩ := rn_i rfl rfl rfl rfl hh
        have hh : pm_run PT n fr lo 67 (105, [some (.int x)], [.int (nI 4)], h, 198, sl) = some R := hh
        have er6 : R = (some (.int (nI 4)), h, 198, sl) := (rn_ret rfl (Or.inl rfl) hh).2
        have ed : v67 q cc gc x = nI 4 := (cf z1).trans ((cf z3).trans ((ct z5).trans rfl))
        rw [ed]
        exact er6
      | false =>
        cases z7 : pm_cmp .eq x (nI 107) with
        | true =>
          obtain ⟨n, hh⟩ := en_tsc (c := 107) (t := 98) rfl (en_xc (c := 107) (by decide) z7) (by decide) rfl rfl hh
          have hh : pm_run PT n fr lo 67 (98, [some (.int x)], [], h, 198, sl) = some R := hh
          obtain ⟨n, hh⟩ := rn_i rfl rfl rfl rfl hh
          have hh : pm_run PT n fr lo 67 (99, [some (.int x)], [.int (nI 1)], h, 198, sl) = some R := hh
          have er8 : R = (some (.int (nI 1)), h, 198, sl) := (rn_ret rfl (Or.inl rfl) hh).2
          have ed : v67 q cc gc x = nI 1 := (cf z1).trans ((cf z3).trans ((cf z5).trans ((ct z7).trans rfl)))
          rw [ed]
          exact er8
        | false =>
          cases z9 : pm_cmp .eq x (nI 114) with
          | true =>
            obtain ⟨n, hh⟩ := en_tsc (c := 114) (t := 100) rfl (en_xc (c := 114) (by decide) z9) (by decide) rfl rfl hh
            have hh : pm_run PT n fr lo 67 (100, [some (.int x)], [], h, 198, sl) = some R := hh
            obtain ⟨n, hh⟩ := rn_i rfl rfl rfl rfl hh
            have hh : pm_run PT n fr lo 67 (101, [some (.int x)], [.int (nI 2)], h, 198, sl) = some R := hh
            have er10 : R = (some (.int (nI 2)), h, 198, sl) := (rn_ret rfl (Or.inl rfl) hh).2
            have ed : v67 q cc gc x = nI 2 := (cf z1).trans ((cf z3).trans ((cf z5).trans ((cf z7).trans ((ct z9).trans rfl))))
            rw [ed]
            exact er10
          | false =>
            cases z11 : pm_cmp .eq x (nI 115) with
            | true =>
              obtain ⟨n, hh⟩ := en_tsc (c := 115) (t := 102) rfl (en_xc (c := 115) (by decide) z11) (by decide) rfl rfl hh
              have hh : pm_run PT n fr lo 67 (102, [some (.int x)], [], h, 198, sl) = some R := hh
              obtain ⟨n, hh⟩ := rn_i rfl rfl rfl rfl hh
              have hh : pm_run PT n fr lo 67 (103, [some (.int x)], [.int (nI 3)], h, 198, sl) = some R := hh
              have er12 : R = (some (.int (nI 3)), h, 198, sl) := (rn_ret rfl (Or.inl rfl) hh).2
              have ed : v67 q cc gc x = nI 3 := (cf z1).trans ((cf z3).trans ((cf z5).trans ((cf z7).trans ((cf z9).trans ((ct z11).trans rfl)))))
              rw [ed]
              exact er12
            | false =>
              cases z13 : pm_cmp .eq x (nI 119) with
              | true =>
                obtain ⟨n, hh⟩ := en_tsc (c := 119) (t := 96) rfl (en_xc (c := 119) (by decide) z13) (by decide) rfl rfl hh
                have hh : pm_run PT n fr lo 67 (96, [some (.int x)], [], h, 198, sl) = some R := hh
                obtain ⟨n, hh⟩ := rn_i rfl rfl rfl rfl hh
                have hh : pm_run PT n fr lo 67 (97, [some (.int x)], [.int (nI 0)], h, 198, sl) = some R := hh
                have er14 : R = (some (.int (nI 0)), h, 198, sl) := (rn_ret rfl (Or.inl rfl) hh).2
                have ed : v67 q cc gc x = nI 0 := (cf z1).trans ((cf z3).trans ((cf z5).trans ((cf z7).trans ((cf z9).trans ((cf z11).trans ((ct z13).trans rfl))))))
                rw [ed]
                exact er14
              | false =>
                obtain ⟨n, hh⟩ := en_tsd (t := 111) [100, 101, 104, 107, 114, 115, 119] rfl (by decide) (by decide) (en_l1 (en_xn (c := 100) (by decide) z1) (en_l1 (en_xn (c := 101) (by decide) z3) (en_l1 (en_xn (c := 104) (by decide) z5) (en_l1 (en_xn (c := 107) (by decide) z7) (en_l1 (en_xn (c := 114) (by decide) z9) (en_l1 (en_xn (c := 115) (by decide) z11) (en_l1 (en_xn (c := 119) (by decide) z13) en_l0))))))) rfl hh
                have hh : pm_run PT n fr lo 67 (111, [some (.int x)], [], h, 198, sl) = some R := hh
                obtain ⟨n, hh⟩ := rn_i rfl rfl rfl rfl hh
                have hh : pm_run PT n fr lo 67 (112, [some (.int x)], [.int (Int32.ofInt (-1))], h, 198, sl) = some R := hh
                have er15 : R = (some (.int (Int32.ofInt (-1))), h, 198, sl) := (rn_ret rfl (Or.inl rfl) hh).2
                have ed : v67 q cc gc x = (Int32.ofInt (-1)) := (cf z1).trans ((cf z3).trans ((cf z5).trans ((cf z7).trans ((cf z9).trans ((cf z11).trans ((cf z13).trans rfl))))))
                rw [ed]
                exact er15
def v71 (q : QT) (cc gc : Nat) (s : Int32) (a : Int32) (b : Int32) : Int32 := cond (pm_cmp .eq s (nI 42)) (a * b) (cond (pm_cmp .eq s (nI 43)) (a + b) (cond (pm_cmp .eq s (nI 45)) (a - b) (cond (pm_cmp .eq s (nI 60)) (cond (cond (pm_cmp .ge a b) false true) 1 0) (cond (pm_cmp .eq s (nI 61)) (cond (cond (pm_cmp .ne a b) false true) 1 0) (cond (pm_cmp .eq s (nI 62)) (cond (cond (pm_cmp .le a b) false true) 1 0) (cond (pm_cmp .ne b 0) (a / b) (nI 0)))))))
theorem v71_ok {n fr lo sl cc gc : Nat} {q : QT} {h : pm_H} {R : pm_Rs} {s : Int32} {a : Int32} {b : Int32} (hw : HC q cc gc h) (hh : pm_run PT n fr lo 71 (0, pm_l0 [.int s, .int a, .int b] 3, [], h, 198, sl) = some R) : R = (some (.int (v71 q cc gc s a b)), h, 198, sl) := by
  have hcc := hw.cb
  have hgc := hw.gb
  have hzr := hw.zr
  obtain ⟨n, hh⟩ := rn_i rfl rfl rfl rfl hh
  have hh : pm_run PT n fr lo 71 (1, [some (.int s), some (.int a), some (.int b)], [.int s], h, 198, sl) = some R := hh
  cases z1 : pm_cmp .eq s (nI 42) with
  | true =>
    obtain ⟨n, hh⟩ := en_lsc (c := 42) (t := 101) (off := 100) rfl (by decide) (en_xc (c := 42) (by decide) z1) (by decide) rfl hh
    have hh : pm_run PT n fr lo 71 (101, [some (.int s), some (.int a), some (.int b)], [], h, 198, sl) = some R := hh
    obtain ⟨n, hh⟩ := rn_i rfl rfl rfl rfl hh
    obtain ⟨n, hh⟩ := rn_i rfl rfl rfl rfl hh
    obtain ⟨n, hh⟩ := rn_i rfl rfl rfl rfl hh
    have hh : pm_run PT n fr lo 71 (104, [some (.int s), some (.int a), some (.int b)], [.int (a * b)], h, 198, sl) = some R := hh
    have er2 : R = (some (.int (a * b)), h, 198, sl) := (rn_ret rfl (Or.inl rfl) hh).2
    have ed : v71 q cc gc s a b = a * b := (ct z1).trans rfl
    rw [ed]
    exact er2
  | false =>
    cases z3 : pm_cmp .eq s (nI 43) with
    | true =>
      obtain ⟨n, hh⟩ := en_lsc (c := 43) (t := 93) (off := 92) rfl (by decide) (en_xc (c := 43) (by decide) z3) (by decide) rfl hh
      have hh : pm_run PT n fr lo 71 (93, [some (.int s), some (.int a), some (.int b)], [], h, 198, sl) = some R := hh
      obtain ⟨n, hh⟩ := rn_i rfl rfl rfl rfl hh
      obtain ⟨n, hh⟩ := rn_i rfl rfl rfl rfl hh
      obtain ⟨n, hh⟩ := rn_i rfl rfl rfl rfl hh
      have hh : pm_run PT n fr lo 71 (96, [some (.int s), some (.int a), some (.int b)], [.int (a + b)], h, 198, sl) = some R := hh
      have er4 : R = (some (.int (a + b)), h, 198, sl) := (rn_ret rfl (Or.inl rfl) hh).2
      have ed : v71 q cc gc s a b = a + b := (cf z1).trans ((ct z3).trans rfl)
      rw [ed]
      exact er4
    | false =>
      cases z5 : pm_cmp .eq s (nI 45) with
      | true =>
        obtain ⟨n, hh⟩ := en_lsc (c := 45) (t := 97) (off := 96) rfl (by decide) (en_xc (c := 45) (by decide) z5) (by decide) rfl hh
        have hh : pm_run PT n fr lo 71 (97, [some (.int s), some (.int a), some (.int b)], [], h, 198, sl) = some R := hh
        obtain ⟨n, hh⟩ := rn_i rfl rfl rfl rfl hh
        obtain ⟨n, hh⟩ := rn_i rfl rfl rfl rfl hh
        obtain ⟨n, hh⟩ := rn_i rfl rfl rfl rfl hh
        have hh : pm_run PT n fr lo 71 (100, [some (.int s), some (.int a), some (.int b)], [.int (a - b)], h, 198, sl) = some R := hh
        have er6 : R = (some (.int (a - b)), h, 198, sl) := (rn_ret rfl (Or.inl rfl) hh).2
        have ed : v71 q cc gc s a b = a - b := (cf z1).trans ((cf z3).trans ((ct z5).trans rfl))
        rw [ed]
        exact er6
      | false =>
        cases z7 : pm_cmp .eq s (nI 60) with
        | true =>
          obtain ⟨n, hh⟩ := en_lsc (c := 60) (t := 60) (off := 59) rfl (by decide) (en_xc (c := 60) (by decide) z7) (by decide) rfl hh
          have hh : pm_run PT n fr lo 71 (60, [some (.int s), some (.int a), some (.int b)], [], h, 198, sl) = some R := hh
          obtain ⟨n, hh⟩ := rn_i rfl rfl rfl rfl hh
          obtain ⟨n, hh⟩ := rn_i rfl rfl rfl rfl hh
          have hh : pm_run PT n fr lo 71 (62, [some (.int s), some (.int a), some (.int b)], [.int b, .int a], h, 198, sl) = some R := hh
          obtain ⟨n, hh⟩ := en_cn (cc := .ge) (off := 7) (t := 69) (b := pm_cmp .ge a b) rfl rfl rfl hh
          have hj9 : ∃ mJ, pm_run PT mJ fr lo 71 (cond (pm_cmp .ge a b) (70, [some (.int s), some (.int a), some (.int b)], [.int (nI 0)], h, 198, sl) (70, [some (.int s), some (.int a), some (.int b)], [.int (nI 1)], h, 198, sl)) = some R := en_J (fun z8 => by
              have hh := en_t z8 hh
              have hh : pm_run PT n fr lo 71 (69, [some (.int s), some (.int a), some (.int b)], [], h, 198, sl) = some R := hh
              obtain ⟨n, hh⟩ := rn_i rfl rfl rfl rfl hh
              exact ⟨n, hh⟩) (fun z8 => by
              have hh := en_f z8 hh
              have hh : pm_run PT n fr lo 71 (65, [some (.int s), some (.int a), some (.int b)], [], h, 198, sl) = some R := hh
              obtain ⟨n, hh⟩ := rn_i rfl rfl rfl rfl hh
              obtain ⟨n, hh⟩ := rn_i rfl rfl rfl rfl hh
              exact ⟨n, hh⟩)
          obtain ⟨n, hh⟩ := hj9
          rw [show (cond (pm_cmp .ge a b) (70, [some (.int s), some (.int a), some (.int b)], [.int (nI 0)], h, 198, sl) (70, [some (.int s), some (.int a), some (.int b)], [.int (nI 1)], h, 198, sl) : pm_St) = (70, [some (.int s), some (.int a), some (.int b)], [.int (cond (cond (pm_cmp .ge a b) false true) 1 0)], h, 198, sl) from by cases (pm_cmp .ge a b) <;> rfl] at hh
          have hh : pm_run PT n fr lo 71 (70, [some (.int s), some (.int a), some (.int b)], [.int (cond (cond (pm_cmp .ge a b) false true) 1 0)], h, 198, sl) = some R := hh
          have er10 : R = (some (.int (cond (cond (pm_cmp .ge a b) false true) 1 0)), h, 198, sl) := (rn_ret rfl (Or.inl rfl) hh).2
          have ed : v71 q cc gc s a b = cond (cond (pm_cmp .ge a b) false true) 1 0 := (cf z1).trans ((cf z3).trans ((cf z5).trans ((ct z7).trans rfl)))
          rw [ed]
          exact er10
        | false =>
          cases z11 : pm_cmp .eq s (nI 61) with
          | true =>
            obtain ⟨n, hh⟩ := en_lsc (c := 61) (t := 82) (off := 81) rfl (by decide) (en_xc (c := 61) (by decide) z11) (by decide) rfl hh
            have hh : pm_run PT n fr lo 71 (82, [some (.int s), some (.int a), some (.int b)], [], h, 198, sl) = some R := hh
            obtain ⟨n, hh⟩ := rn_i rfl rfl rfl rfl hh
            obtain ⟨n, hh⟩ := rn_i rfl rfl rfl rfl hh
            have hh : pm_run PT n fr lo 71 (84, [some (.int s), some (.int a), some (.int b)], [.int b, .int a], h, 198, sl) = some R := hh
            obtain ⟨n, hh⟩ := en_cn (cc := .ne) (off := 7) (t := 91) (b := pm_cmp .ne a b) rfl rfl rfl hh
            have hj13 : ∃ mJ, pm_run PT mJ fr lo 71 (cond (pm_cmp .ne a b) (92, [some (.int s), some (.int a), some (.int b)], [.int (nI 0)], h, 198, sl) (92, [some (.int s), some (.int a), some (.int b)], [.int (nI 1)], h, 198, sl)) = some R := en_J (fun z12 => by
                have hh := en_t z12 hh
                have hh : pm_run PT n fr lo 71 (91, [some (.int s), some (.int a), some (.int b)], [], h, 198, sl) = some R := hh
                obtain ⟨n, hh⟩ := rn_i rfl rfl rfl rfl hh
                exact ⟨n, hh⟩) (fun z12 => by
                have hh := en_f z12 hh
                have hh : pm_run PT n fr lo 71 (87, [some (.int s), some (.int a), some (.int b)], [], h, 198, sl) = some R := hh
                obtain ⟨n, hh⟩ := rn_i rfl rfl rfl rfl hh
                obtain ⟨n, hh⟩ := rn_i rfl rfl rfl rfl hh
                exact ⟨n, hh⟩)
            obtain ⟨n, hh⟩ := hj13
            rw [show (cond (pm_cmp .ne a b) (92, [some (.int s), some (.int a), some (.int b)], [.int (nI 0)], h, 198, sl) (92, [some (.int s), some (.int a), some (.int b)], [.int (nI 1)], h, 198, sl) : pm_St) = (92, [some (.int s), some (.int a), some (.int b)], [.int (cond (cond (pm_cmp .ne a b) false true) 1 0)], h, 198, sl) from by cases (pm_cmp .ne a b) <;> rfl] at hh
            have hh : pm_run PT n fr lo 71 (92, [some (.int s), some (.int a), some (.int b)], [.int (cond (cond (pm_cmp .ne a b) false true) 1 0)], h, 198, sl) = some R := hh
            have er14 : R = (some (.int (cond (cond (pm_cmp .ne a b) false true) 1 0)), h, 198, sl) := (rn_ret rfl (Or.inl rfl) hh).2
            have ed : v71 q cc gc s a b = cond (cond (pm_cmp .ne a b) false true) 1 0 := (cf z1).trans ((cf z3).trans ((cf z5).trans ((cf z7).trans ((ct z11).trans rfl))))
            rw [ed]
            exact er14
          | false =>
            cases z15 : pm_cmp .eq s (nI 62) with
            | true =>
              obtain ⟨n, hh⟩ := en_lsc (c := 62) (t := 71) (off := 70) rfl (by decide) (en_xc (c := 62) (by decide) z15) (by decide) rfl hh
              have hh : pm_run PT n fr lo 71 (71, [some (.int s), some (.int a), some (.int b)], [], h, 198, sl) = some R := hh
              obtain ⟨n, hh⟩ := rn_i rfl rfl rfl rfl hh
              obtain ⟨n, hh⟩ := rn_i rfl rfl rfl rfl hh
              have hh : pm_run PT n fr lo 71 (73, [some (.int s), some (.int a), some (.int b)], [.int b, .int a], h, 198, sl) = some R := hh
              obtain ⟨n, hh⟩ := en_cn (cc := .le) (off := 7) (t := 80) (b := pm_cmp .le a b) rfl rfl rfl hh
              have hj17 : ∃ mJ, pm_run PT mJ fr lo 71 (cond (pm_cmp .le a b) (81, [some (.int s), some (.int a), some (.int b)], [.int (nI 0)], h, 198, sl) (81, [some (.int s), some (.int a), some (.int b)], [.int (nI 1)], h, 198, sl)) = some R := en_J (fun z16 => by
                  have hh := en_t z16 hh
                  have hh : pm_run PT n fr lo 71 (80, [some (.int s), some (.int a), some (.int b)], [], h, 198, sl) = some R := hh
                  obtain ⟨n, hh⟩ := rn_i rfl rfl rfl rfl hh
                  exact ⟨n, hh⟩) (fun z16 => by
                  have hh := en_f z16 hh
                  have hh : pm_run PT n fr lo 71 (76, [some (.int s), some (.int a), some (.int b)], [], h, 198, sl) = some R := hh
                  obtain ⟨n, hh⟩ := rn_i rfl rfl rfl rfl hh
                  obtain ⟨n, hh⟩ := rn_i rfl rfl rfl rfl hh
                  exact ⟨n, hh⟩)
              obtain ⟨n, hh⟩ := hj17
              rw [show (cond (pm_cmp .le a b) (81, [some (.int s), some (.int a), some (.int b)], [.int (nI 0)], h, 198, sl) (81, [some (.int s), some (.int a), some (.int b)], [.int (nI 1)], h, 198, sl) : pm_St) = (81, [some (.int s), some (.int a), some (.int b)], [.int (cond (cond (pm_cmp .le a b) false true) 1 0)], h, 198, sl) from by cases (pm_cmp .le a b) <;> rfl] at hh
              have hh : pm_run PT n fr lo 71 (81, [some (.int s), some (.int a), some (.int b)], [.int (cond (cond (pm_cmp .le a b) false true) 1 0)], h, 198, sl) = some R := hh
              have er18 : R = (some (.int (cond (cond (pm_cmp .le a b) false true) 1 0)), h, 198, sl) := (rn_ret rfl (Or.inl rfl) hh).2
              have ed : v71 q cc gc s a b = cond (cond (pm_cmp .le a b) false true) 1 0 := (cf z1).trans ((cf z3).trans ((cf z5).trans ((cf z7).trans ((cf z11).trans ((ct z15).trans rfl)))))
              rw [ed]
              exact er18
            | false =>
              obtain ⟨n, hh⟩ := en_lsd (t := 105) [42, 43, 45, 60, 61, 62] rfl (by decide) (by decide) (en_l1 (en_xn (c := 42) (by decide) z1) (en_l1 (en_xn (c := 43) (by decide) z3) (en_l1 (en_xn (c := 45) (by decide) z5) (en_l1 (en_xn (c := 60) (by decide) z7) (en_l1 (en_xn (c := 61) (by decide) z11) (en_l1 (en_xn (c := 62) (by decide) z15) en_l0)))))) rfl hh
              have hh : pm_run PT n fr lo 71 (105, [some (.int s), some (.int a), some (.int b)], [], h, 198, sl) = some R := hh
              obtain ⟨n, hh⟩ := rn_i rfl rfl rfl rfl hh
              have hh : pm_run PT n fr lo 71 (106, [some (.int s), some (.int a), some (.int b)], [.int b], h, 198, sl) = some R := hh
              obtain ⟨n, hh⟩ := en_zn (cc := .ne) (off := 7) (t := 113) (b := pm_cmp .ne b 0) rfl rfl rfl hh
              have hj21 : ∃ mJ, pm_run PT mJ fr lo 71 (cond (pm_cmp .ne b 0) (116, [some (.int s), some (.int a), some (.int b)], [.int (a / b)], h, 198, sl) (116, [some (.int s), some (.int a), some (.int b)], [.int (nI 0)], h, 198, sl)) = some R := en_J (fun z19 => by
                  have hh := en_t z19 hh
                  have hh : pm_run PT n fr lo 71 (113, [some (.int s), some (.int a), some (.int b)], [], h, 198, sl) = some R := hh
                  obtain ⟨n, hh⟩ := rn_i rfl rfl rfl rfl hh
                  obtain ⟨n, hh⟩ := rn_i rfl rfl rfl rfl hh
                  have hh : pm_run PT n fr lo 71 (115, [some (.int s), some (.int a), some (.int b)], [.int b, .int a], h, 198, sl) = some R := hh
                  obtain ⟨n, hz20, hh⟩ := rn_dv rfl hh
                  exact ⟨n, hh⟩) (fun z19 => by
                  have hh := en_f z19 hh
                  have hh : pm_run PT n fr lo 71 (109, [some (.int s), some (.int a), some (.int b)], [], h, 198, sl) = some R := hh
                  obtain ⟨n, hh⟩ := rn_i rfl rfl rfl rfl hh
                  obtain ⟨n, hh⟩ := rn_i rfl rfl rfl rfl hh
                  exact ⟨n, hh⟩)
              obtain ⟨n, hh⟩ := hj21
              rw [show (cond (pm_cmp .ne b 0) (116, [some (.int s), some (.int a), some (.int b)], [.int (a / b)], h, 198, sl) (116, [some (.int s), some (.int a), some (.int b)], [.int (nI 0)], h, 198, sl) : pm_St) = (116, [some (.int s), some (.int a), some (.int b)], [.int (cond (pm_cmp .ne b 0) (a / b) (nI 0))], h, 198, sl) from by cases (pm_cmp .ne b 0) <;> rfl] at hh
              have hh : pm_run PT n fr lo 71 (116, [some (.int s), some (.int a), some (.int b)], [.int (cond (pm_cmp .ne b 0) (a / b) (nI 0))], h, 198, sl) = some R := hh
              have er22 : R = (some (.int (cond (pm_cmp .ne b 0) (a / b) (nI 0))), h, 198, sl) := (rn_ret rfl (Or.inl rfl) hh).2
              have ed : v71 q cc gc s a b = cond (pm_cmp .ne b 0) (a / b) (nI 0) := (cf z1).trans ((cf z3).trans ((cf z5).trans ((cf z7).trans ((cf z11).trans ((cf z15).trans rfl)))))
              rw [ed]
              exact er22
def v69a (q : QT) (cc gc : Nat) (h : pm_H) (v : Int32) : pm_H := cond (pm_cmp .ge (Fi h 142 3) (nI 40)) h (fset (aset h 144 40 (upd (Ar h 144) ((Fi h 142 3).toNatClampNeg) v)) 142 3 (.int ((Fi h 142 3) + (nI 1))))
theorem v69a_ok {n fr lo sl cc gc : Nat} {q : QT} {h : pm_H} {R : pm_Rs} {v : Int32} (hw : HC q cc gc h) (hh : pm_run PT n fr lo 69 (0, pm_l0 [.ref 142, .int v] 2, [], h, 198, sl) = some R) : R = (none, v69a q cc gc h v, 198, sl) ∧ HC q cc gc (v69a q cc gc h v) ∧ frm [142, 144] [(142, 3)] h (v69a q cc gc h v) := by
  have hcc := hw.cb
  have hgc := hw.gb
  have hzr := hw.zr
  obtain ⟨n, hh⟩ := rn_i rfl rfl rfl rfl hh
  have hh : pm_run PT n fr lo 69 (1, [some (.ref 142), some (.int v)], [.ref 142], h, 198, sl) = some R := hh
  obtain ⟨n, hh⟩ := rn_gi (x := Fi h 142 3) hw.wt rfl rfl (by decide) rfl (by decide) rfl rfl hh
  obtain ⟨n, hh⟩ := rn_i rfl rfl rfl rfl hh
  have hh : pm_run PT n fr lo 69 (6, [some (.ref 142), some (.int v)], [.int (nI 40), .int (Fi h 142 3)], h, 198, sl) = some R := hh
  obtain ⟨n, hh⟩ := en_cn (cc := .ge) (off := 23) (t := 29) (b := pm_cmp .ge (Fi h 142 3) (nI 40)) rfl rfl rfl hh
  cases z1 : pm_cmp .ge (Fi h 142 3) (nI 40) with
  | true =>
    have hh := en_t z1 hh
    have hh : pm_run PT n fr lo 69 (29, [some (.ref 142), some (.int v)], [], h, 198, sl) = some R := hh
    have er2 : R = (none, h, 198, sl) := rn_vret rfl rfl hh
    have ed : v69a q cc gc h v = h := (ct z1).trans rfl
    refine ⟨?_, ?_, ?_⟩ <;> rw [ed]
    · exact er2
    · exact hw
    · exact fr_0
  | false =>
    have hh := en_f z1 hh
    have hh : pm_run PT n fr lo 69 (9, [some (.ref 142), some (.int v)], [], h, 198, sl) = some R := hh
    obtain ⟨n, hh⟩ := rn_i rfl rfl rfl rfl hh
    have hh : pm_run PT n fr lo 69 (10, [some (.ref 142), some (.int v)], [.ref 142], h, 198, sl) = some R := hh
    obtain ⟨n, hh⟩ := rn_gr hw.wt rfl rfl (by decide) rfl (by decide) (show _ = some (2, ((144 : Nat) : Int), 1) from rfl) rfl hh
    obtain ⟨n, hh⟩ := rn_i rfl rfl rfl rfl hh
    have hh : pm_run PT n fr lo 69 (14, [some (.ref 142), some (.int v)], [.ref 142, .ref 144], h, 198, sl) = some R := hh
    obtain ⟨n, hh⟩ := rn_gi (x := Fi h 142 3) hw.wt rfl rfl (by decide) rfl (by decide) rfl rfl hh
    obtain ⟨n, hh⟩ := rn_i rfl rfl rfl rfl hh
    have hh : pm_run PT n fr lo 69 (18, [some (.ref 142), some (.int v)], [.int v, .int (Fi h 142 3), .ref 144], h, 198, sl) = some R := hh
    obtain ⟨n, hx3, hh⟩ := en_st (t := (Fi h 142 3).toNatClampNeg) (f := Ar h 144) rfl hw.wt rfl (by decide) rfl (by decide) rfl hh
    obtain ⟨n, hh⟩ := rn_i rfl rfl rfl rfl hh
    obtain ⟨n, hh⟩ := rn_i rfl rfl rfl rfl hh
    have hh : pm_run PT n fr lo 69 (21, [some (.ref 142), some (.int v)], [.ref 142, .ref 142], aset h 144 40 (upd (Ar h 144) ((Fi h 142 3).toNatClampNeg) v), 198, sl) = some R := hh
    obtain ⟨n, hh⟩ := rn_gi (x := Fi h 142 3) (hc_a rfl rfl hw).wt rfl rfl (by decide) rfl (by decide) rfl ((Fi_a (by decide)).trans rfl) hh
    obtain ⟨n, hh⟩ := rn_i rfl rfl rfl rfl hh
    obtain ⟨n, hh⟩ := rn_i rfl rfl rfl rfl hh
    have hh : pm_run PT n fr lo 69 (26, [some (.ref 142), some (.int v)], [.int ((Fi h 142 3) + (nI 1)), .ref 142], aset h 144 40 (upd (Ar h 144) ((Fi h 142 3).toNatClampNeg) v), 198, sl) = some R := hh
    obtain ⟨n, hh⟩ := rn_pi (hc_a rfl rfl hw).wt rfl rfl (by decide) rfl (by decide) rfl hh
    have er4 : R = (none, fset (aset h 144 40 (upd (Ar h 144) ((Fi h 142 3).toNatClampNeg) v)) 142 3 (.int ((Fi h 142 3) + (nI 1))), 198, sl) := rn_vret rfl rfl hh
    have ed : v69a q cc gc h v = fset (aset h 144 40 (upd (Ar h 144) ((Fi h 142 3).toNatClampNeg) v)) 142 3 (.int ((Fi h 142 3) + (nI 1))) := (cf z1).trans rfl
    refine ⟨?_, ?_, ?_⟩ <;> rw [ed]
    · exact er4
    · exact (hc_f rfl rfl (by decide) rfl (hc_a rfl rfl hw))
    · exact (fr_f rfl rfl (fr_a rfl rfl fr_0))
theorem v69a_fr {cc gc : Nat} {q : QT} {h : pm_H} {v : Int32} (hw : HC q cc gc h) : HC q cc gc (v69a q cc gc h v) ∧ frm [142, 144] [(142, 3)] h (v69a q cc gc h v) := by
  unfold v69a
  refine cd_s (P := fun (p : pm_H) => HC q cc gc (p) ∧ frm [142, 144] [(142, 3)] h (p)) (b := pm_cmp .ge (Fi h 142 3) (nI 40)) (fun _ => ?_) (fun _ => ?_)
  · show HC q cc gc (h) ∧ frm [142, 144] [(142, 3)] h (h)
    exact ⟨hw, fr_0⟩
  · show HC q cc gc (fset (aset h 144 40 (upd (Ar h 144) ((Fi h 142 3).toNatClampNeg) v)) 142 3 (.int ((Fi h 142 3) + (nI 1)))) ∧ frm [142, 144] [(142, 3)] h (fset (aset h 144 40 (upd (Ar h 144) ((Fi h 142 3).toNatClampNeg) v)) 142 3 (.int ((Fi h 142 3) + (nI 1))))
    exact ⟨(hc_f rfl rfl (by decide) rfl (hc_a rfl rfl hw)), (fr_f rfl rfl (fr_a rfl rfl fr_0))⟩
def v70a (q : QT) (cc gc : Nat) (h : pm_H) : Int32 × pm_H := cond (pm_cmp .gt (Fi h 142 3) 0) ((Ar h 144) (((Fi h 142 3) - (nI 1)).toNatClampNeg), fset h 142 3 (.int ((Fi h 142 3) - (nI 1)))) (nI 0, h)
theorem v70a_ok {n fr lo sl cc gc : Nat} {q : QT} {h : pm_H} {R : pm_Rs} (hw : HC q cc gc h) (hh : pm_run PT n fr lo 70 (0, pm_l0 [.ref 142] 1, [], h, 198, sl) = some R) : R = (some (.int ((v70a q cc gc h).1)), (v70a q cc gc h).2, 198, sl) ∧ HC q cc gc ((v70a q cc gc h).2) ∧ frm [142] [(142, 3)] h ((v70a q cc gc h).2) := by
  have hcc := hw.cb
  have hgc := hw.gb
  have hzr := hw.zr
  obtain ⟨n, hh⟩ := rn_i rfl rfl rfl rfl hh
  have hh : pm_run PT n fr lo 70 (1, [some (.ref 142)], [.ref 142], h, 198, sl) = some R := hh
  obtain ⟨n, hh⟩ := rn_gi (x := Fi h 142 3) hw.wt rfl rfl (by decide) rfl (by decide) rfl rfl hh
  have hh : pm_run PT n fr lo 70 (4, [some (.ref 142)], [.int (Fi h 142 3)], h, 198, sl) = some R := hh
  obtain ⟨n, hh⟩ := en_zn (cc := .gt) (off := 5) (t := 9) (b := pm_cmp .gt (Fi h 142 3) 0) rfl rfl rfl hh
  cases z1 : pm_cmp .gt (Fi h 142 3) 0 with
  | true =>
    have hh := en_t z1 hh
    have hh : pm_run PT n fr lo 70 (9, [some (.ref 142)], [], h, 198, sl) = some R := hh
    obtain ⟨n, hh⟩ := rn_i rfl rfl rfl rfl hh
    obtain ⟨n, hh⟩ := rn_i rfl rfl rfl rfl hh
    have hh : pm_run PT n fr lo 70 (11, [some (.ref 142)], [.ref 142, .ref 142], h, 198, sl) = some R := hh
    obtain ⟨n, hh⟩ := rn_gi (x := Fi h 142 3) hw.wt rfl rfl (by decide) rfl (by decide) rfl rfl hh
    obtain ⟨n, hh⟩ := rn_i rfl rfl rfl rfl hh
    obtain ⟨n, hh⟩ := rn_i rfl rfl rfl rfl hh
    have hh : pm_run PT n fr lo 70 (16, [some (.ref 142)], [.int ((Fi h 142 3) - (nI 1)), .ref 142], h, 198, sl) = some R := hh
    obtain ⟨n, hh⟩ := rn_pi hw.wt rfl rfl (by decide) rfl (by decide) rfl hh
    obtain ⟨n, hh⟩ := rn_i rfl rfl rfl rfl hh
    have hh : pm_run PT n fr lo 70 (20, [some (.ref 142)], [.ref 142], fset h 142 3 (.int ((Fi h 142 3) - (nI 1))), 198, sl) = some R := hh
    obtain ⟨n, hh⟩ := rn_gr (hc_f rfl rfl (by decide) rfl hw).wt rfl rfl (by decide) rfl (by decide) (show _ = some (2, ((144 : Nat) : Int), 1) from rfl) rfl hh
    obtain ⟨n, hh⟩ := rn_i rfl rfl rfl rfl hh
    have hh : pm_run PT n fr lo 70 (24, [some (.ref 142)], [.ref 142, .ref 144], fset h 142 3 (.int ((Fi h 142 3) - (nI 1))), 198, sl) = some R := hh
    obtain ⟨n, hh⟩ := rn_gi (x := (Fi h 142 3) - (nI 1)) (hc_f rfl rfl (by decide) rfl hw).wt rfl rfl (by decide) rfl (by decide) rfl (Fi_s hw.wt (by decide) rfl (by decide) rfl) hh
    have hh : pm_run PT n fr lo 70 (27, [some (.ref 142)], [.int ((Fi h 142 3) - (nI 1)), .ref 144], fset h 142 3 (.int ((Fi h 142 3) - (nI 1))), 198, sl) = some R := hh
    obtain ⟨n, hx2, hh⟩ := en_lu (t := ((Fi h 142 3) - (nI 1)).toNatClampNeg) (f := Ar h 144) (w := (Ar h 144) (((Fi h 142 3) - (nI 1)).toNatClampNeg)) rfl (hc_f rfl rfl (by decide) rfl hw).wt rfl (by decide) rfl (by decide) (Ar_f.trans rfl) (fun _ => rfl) hh
    have hh : pm_run PT n fr lo 70 (28, [some (.ref 142)], [.int ((Ar h 144) (((Fi h 142 3) - (nI 1)).toNatClampNeg))], fset h 142 3 (.int ((Fi h 142 3) - (nI 1))), 198, sl) = some R := hh
    have er3 : R = (some (.int ((Ar h 144) (((Fi h 142 3) - (nI 1)).toNatClampNeg))), fset h 142 3 (.int ((Fi h 142 3) - (nI 1))), 198, sl) := (rn_ret rfl (Or.inl rfl) hh).2
    have ed : v70a q cc gc h = ((Ar h 144) (((Fi h 142 3) - (nI 1)).toNatClampNeg), fset h 142 3 (.int ((Fi h 142 3) - (nI 1)))) := (ct z1).trans rfl
    refine ⟨?_, ?_, ?_⟩ <;> rw [ed]
    · exact er3
    · exact (hc_f rfl rfl (by decide) rfl hw)
    · exact (fr_f rfl rfl fr_0)
  | false =>
    have hh := en_f z1 hh
    have hh : pm_run PT n fr lo 70 (7, [some (.ref 142)], [], h, 198, sl) = some R := hh
    obtain ⟨n, hh⟩ := rn_i rfl rfl rfl rfl hh
    have hh : pm_run PT n fr lo 70 (8, [some (.ref 142)], [.int (nI 0)], h, 198, sl) = some R := hh
    have er4 : R = (some (.int (nI 0)), h, 198, sl) := (rn_ret rfl (Or.inl rfl) hh).2
    have ed : v70a q cc gc h = (nI 0, h) := (cf z1).trans rfl
    refine ⟨?_, ?_, ?_⟩ <;> rw [ed]
    · exact er4
    · exact hw
    · exact fr_0
theorem v70a_fr {cc gc : Nat} {q : QT} {h : pm_H} (hw : HC q cc gc h) : HC q cc gc ((v70a q cc gc h).2) ∧ frm [142] [(142, 3)] h ((v70a q cc gc h).2) := by
  unfold v70a
  refine cd_s (P := fun (p : Int32 × pm_H) => HC q cc gc ((p).2) ∧ frm [142] [(142, 3)] h ((p).2)) (b := pm_cmp .gt (Fi h 142 3) 0) (fun _ => ?_) (fun _ => ?_)
  · show HC q cc gc (fset h 142 3 (.int ((Fi h 142 3) - (nI 1)))) ∧ frm [142] [(142, 3)] h (fset h 142 3 (.int ((Fi h 142 3) - (nI 1))))
    exact ⟨(hc_f rfl rfl (by decide) rfl hw), (fr_f rfl rfl fr_0)⟩
  · show HC q cc gc (h) ∧ frm [142] [(142, 3)] h (h)
    exact ⟨hw, fr_0⟩
def v68a_7b (q : QT) (cc gc : Nat) (h : pm_H) (z : Nat) (i : Nat) : pm_H := cond (pm_cmp .lt ((Ar h 143) i) 0) (cond (pm_cmp .lt (v67 q cc gc (-((Ar h 143) i))) 0) (cond (pm_cmp .ne ((Ar h 143) i) (Int32.ofInt (-126))) (v69a q cc gc ((v70a q cc gc ((v70a q cc gc h).2)).2) (v71 q cc gc (-((Ar h 143) i)) ((v70a q cc gc ((v70a q cc gc h).2)).1) ((v70a q cc gc h).1))) (v69a q cc gc ((v70a q cc gc h).2) (-((v70a q cc gc h).1)))) (cond (pm_cmp .ge (v67 q cc gc (-((Ar h 143) i))) (nI 7)) (cond (pm_cmp .ne ((Ar h 143) i) (Int32.ofInt (-126))) (v69a q cc gc ((v70a q cc gc ((v70a q cc gc h).2)).2) (v71 q cc gc (-((Ar h 143) i)) ((v70a q cc gc ((v70a q cc gc h).2)).1) ((v70a q cc gc h).1))) (v69a q cc gc ((v70a q cc gc h).2) (-((v70a q cc gc h).1)))) (v69a q cc gc h ((Ar h 12) ((v67 q cc gc (-((Ar h 143) i))).toNatClampNeg))))) (v69a q cc gc h ((Ar h 143) i))
def v68a_7 (q : QT) (cc gc : Nat) (z : Nat) (j i : Nat) (a : pm_H) : pm_H := lp (fun i a => v68a_7b q cc gc a z i) j i a
theorem v68a_7_e {n fr lo sl cc gc : Nat} {q : QT} {h : pm_H} {R : pm_Rs} {z : Nat} {i : Nat} {o3 : Option Value} {o4 : Option Value} {o5 : Option Value} (hw : HC q cc gc h) (hz : z ≤ 40) (e1 : Fi h 142 1 = nI z) (hi : z ≤ i) (hI : i < 1000000) (hh : pm_run PT n fr lo 68 (7, [some (.ref 142), some (.ref 12), some (.int (nI i)), o3, o4, o5], [], h, 198, sl) = some R) : ∃ m, pm_run PT m fr lo 68 (127, [some (.ref 142), some (.ref 12), some (.int (nI i)), o3, o4, o5], [], h, 198, sl) = some R := by
  have hcc := hw.cb
  have hgc := hw.gb
  have hzr := hw.zr
  obtain ⟨n, hh⟩ := rn_i rfl rfl rfl rfl hh
  obtain ⟨n, hh⟩ := rn_i rfl rfl rfl rfl hh
  have hh : pm_run PT n fr lo 68 (9, [some (.ref 142), some (.ref 12), some (.int (nI i)), o3, o4, o5], [.ref 142, .int (nI i)], h, 198, sl) = some R := hh
  obtain ⟨n, hh⟩ := rn_gi (x := nI z) hw.wt rfl rfl (by decide) rfl (by decide) rfl e1 hh
  have hh : pm_run PT n fr lo 68 (12, [some (.ref 142), some (.ref 12), some (.int (nI i)), o3, o4, o5], [.int (nI z), .int (nI i)], h, 198, sl) = some R := hh
  obtain ⟨n, hh⟩ := en_cn (cc := .ge) (off := 115) (t := 127) (b := decide (z ≤ i)) (hI_ge (by omega) (by omega)) rfl rfl hh
  have hh := en_t (show decide (z ≤ i) = true from decide_eq_true (by omega)) hh
  have hh : pm_run PT n fr lo 68 (127, [some (.ref 142), some (.ref 12), some (.int (nI i)), o3, o4, o5], [], h, 198, sl) = some R := hh
  exact ⟨n, hh⟩
theorem v68a_7_s {n fr lo sl cc gc : Nat} {q : QT} {h : pm_H} {R : pm_Rs} {z : Nat} {i : Nat} {o3 : Option Value} {o4 : Option Value} {o5 : Option Value} (hw : HC q cc gc h) (hz : z ≤ 40) (e1 : Fi h 142 1 = nI z) (hi : i < z) (hI : i < 1000000) (hh : pm_run PT n fr lo 68 (7, [some (.ref 142), some (.ref 12), some (.int (nI i)), o3, o4, o5], [], h, 198, sl) = some R) : ∃ m w3 w4 w5, HC q cc gc ((v68a_7b q cc gc h z i)) ∧ frm [142, 144] [(142, 3)] h ((v68a_7b q cc gc h z i)) ∧ Fi ((v68a_7b q cc gc h z i)) 142 1 = nI z ∧ pm_run PT m fr lo 68 (7, [some (.ref 142), some (.ref 12), some (.int (nI (i + 1))), w3, w4, w5], [], (v68a_7b q cc gc h z i), 198, sl) = some R := by
  have hcc := hw.cb
  have hgc := hw.gb
  have hzr := hw.zr
  obtain ⟨n, hh⟩ := rn_i rfl rfl rfl rfl hh
  obtain ⟨n, hh⟩ := rn_i rfl rfl rfl rfl hh
  have hh : pm_run PT n fr lo 68 (9, [some (.ref 142), some (.ref 12), some (.int (nI i)), o3, o4, o5], [.ref 142, .int (nI i)], h, 198, sl) = some R := hh
  obtain ⟨n, hh⟩ := rn_gi (x := nI z) hw.wt rfl rfl (by decide) rfl (by decide) rfl e1 hh
  have hh : pm_run PT n fr lo 68 (12, [some (.ref 142), some (.ref 12), some (.int (nI i)), o3, o4, o5], [.int (nI z), .int (nI i)], h, 198, sl) = some R := hh
  obtain ⟨n, hh⟩ := en_cn (cc := .ge) (off := 115) (t := 127) (b := decide (z ≤ i)) (hI_ge (by omega) (by omega)) rfl rfl hh
  have hh := en_f (show decide (z ≤ i) = false from decide_eq_false (by omega)) hh
  have hh : pm_run PT n fr lo 68 (15, [some (.ref 142), some (.ref 12), some (.int (nI i)), o3, o4, o5], [], h, 198, sl) = some R := hh
  obtain ⟨n, hh⟩ := rn_i rfl rfl rfl rfl hh
  have hh : pm_run PT n fr lo 68 (16, [some (.ref 142), some (.ref 12), some (.int (nI i)), o3, o4, o5], [.ref 142], h, 198, sl) = some R := hh
  obtain ⟨n, hh⟩ := rn_gr hw.wt rfl rfl (by decide) rfl (by decide) (show _ = some (2, ((143 : Nat) : Int), 1) from rfl) rfl hh
  obtain ⟨n, hh⟩ := rn_i rfl rfl rfl rfl hh
  have hh : pm_run PT n fr lo 68 (20, [some (.ref 142), some (.ref 12), some (.int (nI i)), o3, o4, o5], [.int (nI i), .ref 143], h, 198, sl) = some R := hh
  obtain ⟨n, hx1, hh⟩ := en_lu (t := i) (f := Ar h 143) (w := (Ar h 143) i) (nI_clamp (by omega)) hw.wt rfl (by decide) rfl (by decide) rfl (fun _ => rfl) hh
  obtain ⟨n, hh⟩ := rn_i rfl rfl rfl rfl hh
  have hh : pm_run PT n fr lo 68 (22, [some (.ref 142), some (.ref 12), some (.int (nI i)), o3, o4, o5], [.int (-((Ar h 143) i))], h, 198, sl) = some R := hh
  obtain ⟨n, fr1, lo1, r1, hh1, hh⟩ := rn_call (w := 2) (t := 67) rfl rfl hh
  have er2 := v67_ok (x := (-((Ar h 143) i))) hw hh1
  subst er2
  obtain ⟨n, hh⟩ := rn_i rfl rfl rfl rfl hh
  obtain ⟨n, hh⟩ := rn_i rfl rfl rfl rfl hh
  have hh : pm_run PT n fr lo 68 (27, [some (.ref 142), some (.ref 12), some (.int (nI i)), some (.int (v67 q cc gc (-((Ar h 143) i)))), o4, o5], [.ref 142], h, 198, sl) = some R := hh
  obtain ⟨n, hh⟩ := rn_gr hw.wt rfl rfl (by decide) rfl (by decide) (show _ = some (2, ((143 : Nat) : Int), 1) from rfl) rfl hh
  obtain ⟨n, hh⟩ := rn_i rfl rfl rfl rfl hh
  have hh : pm_run PT n fr lo 68 (31, [some (.ref 142), some (.ref 12), some (.int (nI i)), some (.int (v67 q cc gc (-((Ar h 143) i)))), o4, o5], [.int (nI i), .ref 143], h, 198, sl) = some R := hh
  obtain ⟨n, hx3, hh⟩ := en_lu (t := i) (f := Ar h 143) (w := (Ar h 143) i) (nI_clamp (by omega)) hw.wt rfl (by decide) rfl (by decide) rfl (fun _ => rfl) hh
  have hh : pm_run PT n fr lo 68 (32, [some (.ref 142), some (.ref 12), some (.int (nI i)), some (.int (v67 q cc gc (-((Ar h 143) i)))), o4, o5], [.int ((Ar h 143) i)], h, 198, sl) = some R := hh
  obtain ⟨n, hh⟩ := en_zn (cc := .lt) (off := 16) (t := 48) (b := pm_cmp .lt ((Ar h 143) i) 0) rfl rfl rfl hh
  cases z4 : pm_cmp .lt ((Ar h 143) i) 0 with
  | true =>
    have hh := en_t z4 hh
    have hh : pm_run PT n fr lo 68 (48, [some (.ref 142), some (.ref 12), some (.int (nI i)), some (.int (v67 q cc gc (-((Ar h 143) i)))), o4, o5], [], h, 198, sl) = some R := hh
    obtain ⟨n, hh⟩ := rn_i rfl rfl rfl rfl hh
    have hh : pm_run PT n fr lo 68 (49, [some (.ref 142), some (.ref 12), some (.int (nI i)), some (.int (v67 q cc gc (-((Ar h 143) i)))), o4, o5], [.int (v67 q cc gc (-((Ar h 143) i)))], h, 198, sl) = some R := hh
    obtain ⟨n, hh⟩ := en_zn (cc := .lt) (off := 19) (t := 68) (b := pm_cmp .lt (v67 q cc gc (-((Ar h 143) i))) 0) rfl rfl rfl hh
    cases z5 : pm_cmp .lt (v67 q cc gc (-((Ar h 143) i))) 0 with
    | true =>
      have hh := en_t z5 hh
      have hh : pm_run PT n fr lo 68 (68, [some (.ref 142), some (.ref 12), some (.int (nI i)), some (.int (v67 q cc gc (-((Ar h 143) i)))), o4, o5], [], h, 198, sl) = some R := hh
      obtain ⟨n, hh⟩ := rn_i rfl rfl rfl rfl hh
      have hh : pm_run PT n fr lo 68 (69, [some (.ref 142), some (.ref 12), some (.int (nI i)), some (.int (v67 q cc gc (-((Ar h 143) i)))), o4, o5], [.ref 142], h, 198, sl) = some R := hh
      obtain ⟨n, hh⟩ := rn_gr hw.wt rfl rfl (by decide) rfl (by decide) (show _ = some (2, ((143 : Nat) : Int), 1) from rfl) rfl hh
      obtain ⟨n, hh⟩ := rn_i rfl rfl rfl rfl hh
      have hh : pm_run PT n fr lo 68 (73, [some (.ref 142), some (.ref 12), some (.int (nI i)), some (.int (v67 q cc gc (-((Ar h 143) i)))), o4, o5], [.int (nI i), .ref 143], h, 198, sl) = some R := hh
      obtain ⟨n, hx6, hh⟩ := en_lu (t := i) (f := Ar h 143) (w := (Ar h 143) i) (nI_clamp (by omega)) hw.wt rfl (by decide) rfl (by decide) rfl (fun _ => rfl) hh
      obtain ⟨n, hh⟩ := rn_i rfl rfl rfl rfl hh
      have hh : pm_run PT n fr lo 68 (76, [some (.ref 142), some (.ref 12), some (.int (nI i)), some (.int (v67 q cc gc (-((Ar h 143) i)))), o4, o5], [.int (Int32.ofInt (-126)), .int ((Ar h 143) i)], h, 198, sl) = some R := hh
      obtain ⟨n, hh⟩ := en_cn (cc := .ne) (off := 15) (t := 91) (b := pm_cmp .ne ((Ar h 143) i) (Int32.ofInt (-126))) rfl rfl rfl hh
      cases z7 : pm_cmp .ne ((Ar h 143) i) (Int32.ofInt (-126)) with
      | true =>
        have hh := en_t z7 hh
        have hh : pm_run PT n fr lo 68 (91, [some (.ref 142), some (.ref 12), some (.int (nI i)), some (.int (v67 q cc gc (-((Ar h 143) i)))), o4, o5], [], h, 198, sl) = some R := hh
        obtain ⟨n, hh⟩ := rn_i rfl rfl rfl rfl hh
        have hh : pm_run PT n fr lo 68 (92, [some (.ref 142), some (.ref 12), some (.int (nI i)), some (.int (v67 q cc gc (-((Ar h 143) i)))), o4, o5], [.ref 142], h, 198, sl) = some R := hh
        obtain ⟨n, fr1, lo1, r1, hh1, hh⟩ := rn_call (w := 0) (t := 70) rfl rfl hh
        obtain ⟨er8, hc9, hf10⟩ := v70a_ok hw hh1
        subst er8
        obtain ⟨n, hh⟩ := rn_i rfl rfl rfl rfl hh
        obtain ⟨n, hh⟩ := rn_i rfl rfl rfl rfl hh
        have hh : pm_run PT n fr lo 68 (98, [some (.ref 142), some (.ref 12), some (.int (nI i)), some (.int (v67 q cc gc (-((Ar h 143) i)))), some (.int ((v70a q cc gc h).1)), o5], [.ref 142], (v70a q cc gc h).2, 198, sl) = some R := hh
        obtain ⟨n, fr1, lo1, r1, hh1, hh⟩ := rn_call (w := 0) (t := 70) rfl rfl hh
        obtain ⟨er11, hc12, hf13⟩ := v70a_ok hc9 hh1
        subst er11
        obtain ⟨n, hh⟩ := rn_i rfl rfl rfl rfl hh
        obtain ⟨n, hh⟩ := rn_i rfl rfl rfl rfl hh
        obtain ⟨n, hh⟩ := rn_i rfl rfl rfl rfl hh
        have hh : pm_run PT n fr lo 68 (105, [some (.ref 142), some (.ref 12), some (.int (nI i)), some (.int (v67 q cc gc (-((Ar h 143) i)))), some (.int ((v70a q cc gc h).1)), some (.int ((v70a q cc gc ((v70a q cc gc h).2)).1))], [.ref 142, .ref 142], (v70a q cc gc ((v70a q cc gc h).2)).2, 198, sl) = some R := hh
        obtain ⟨n, hh⟩ := rn_gr hc12.wt rfl rfl (by decide) rfl (by decide) (show _ = some (2, ((143 : Nat) : Int), 1) from rfl) rfl hh
        obtain ⟨n, hh⟩ := rn_i rfl rfl rfl rfl hh
        have hh : pm_run PT n fr lo 68 (109, [some (.ref 142), some (.ref 12), some (.int (nI i)), some (.int (v67 q cc gc (-((Ar h 143) i)))), some (.int ((v70a q cc gc h).1)), some (.int ((v70a q cc gc ((v70a q cc gc h).2)).1))], [.int (nI i), .ref 143, .ref 142], (v70a q cc gc ((v70a q cc gc h).2)).2, 198, sl) = some R := hh
        obtain ⟨n, hx14, hh⟩ := en_lu (t := i) (f := Ar h 143) (w := (Ar h 143) i) (nI_clamp (by omega)) hc12.wt rfl (by decide) rfl (by decide) ((Ar_e (hf13.1 143 rfl)).trans ((Ar_e (hf10.1 143 rfl)).trans rfl)) (fun _ => rfl) hh
        obtain ⟨n, hh⟩ := rn_i rfl rfl rfl rfl hh
        obtain ⟨n, hh⟩ := rn_i rfl rfl rfl rfl hh
        obtain ⟨n, hh⟩ := rn_i rfl rfl rfl rfl hh
        have hh : pm_run PT n fr lo 68 (115, [some (.ref 142), some (.ref 12), some (.int (nI i)), some (.int (v67 q cc gc (-((Ar h 143) i)))), some (.int ((v70a q cc gc h).1)), some (.int ((v70a q cc gc ((v70a q cc gc h).2)).1))], [.int ((v70a q cc gc h).1), .int ((v70a q cc gc ((v70a q cc gc h).2)).1), .int (-((Ar h 143) i)), .ref 142], (v70a q cc gc ((v70a q cc gc h).2)).2, 198, sl) = some R := hh
        obtain ⟨n, fr1, lo1, r1, hh1, hh⟩ := rn_call (w := 2) (t := 71) rfl rfl hh
        have er15 := v71_ok (s := (-((Ar h 143) i))) (a := ((v70a q cc gc ((v70a q cc gc h).2)).1)) (b := ((v70a q cc gc h).1)) hc12 hh1
        subst er15
        have hh : pm_run PT n fr lo 68 (118, [some (.ref 142), some (.ref 12), some (.int (nI i)), some (.int (v67 q cc gc (-((Ar h 143) i)))), some (.int ((v70a q cc gc h).1)), some (.int ((v70a q cc gc ((v70a q cc gc h).2)).1))], [.int (v71 q cc gc (-((Ar h 143) i)) ((v70a q cc gc ((v70a q cc gc h).2)).1) ((v70a q cc gc h).1)), .ref 142], (v70a q cc gc ((v70a q cc gc h).2)).2, 198, sl) = some R := hh
        obtain ⟨n, fr1, lo1, r1, hh1, hh⟩ := rn_call (w := 0) (t := 69) rfl rfl hh
        obtain ⟨er16, hc17, hf18⟩ := v69a_ok (v := (v71 q cc gc (-((Ar h 143) i)) ((v70a q cc gc ((v70a q cc gc h).2)).1) ((v70a q cc gc h).1))) hc12 hh1
        subst er16
        have hh : pm_run PT n fr lo 68 (121, [some (.ref 142), some (.ref 12), some (.int (nI i)), some (.int (v67 q cc gc (-((Ar h 143) i)))), some (.int ((v70a q cc gc h).1)), some (.int ((v70a q cc gc ((v70a q cc gc h).2)).1))], [], v69a q cc gc ((v70a q cc gc ((v70a q cc gc h).2)).2) (v71 q cc gc (-((Ar h 143) i)) ((v70a q cc gc ((v70a q cc gc h).2)).1) ((v70a q cc gc h).1)), 198, sl) = some R := hh
        obtain ⟨n, hh⟩ := en_inc (x := i) (c := 1) (j := 2) rfl rfl (by decide) hh
        have hh : pm_run PT n fr lo 68 (124, [some (.ref 142), some (.ref 12), some (.int (nI (i + 1))), some (.int (v67 q cc gc (-((Ar h 143) i)))), some (.int ((v70a q cc gc h).1)), some (.int ((v70a q cc gc ((v70a q cc gc h).2)).1))], [], v69a q cc gc ((v70a q cc gc ((v70a q cc gc h).2)).2) (v71 q cc gc (-((Ar h 143) i)) ((v70a q cc gc ((v70a q cc gc h).2)).1) ((v70a q cc gc h).1)), 198, sl) = some R := hh
        obtain ⟨n, hh⟩ := rn_i rfl rfl rfl rfl hh
        have ed : v68a_7b q cc gc h z i = v69a q cc gc ((v70a q cc gc ((v70a q cc gc h).2)).2) (v71 q cc gc (-((Ar h 143) i)) ((v70a q cc gc ((v70a q cc gc h).2)).1) ((v70a q cc gc h).1)) := (ct z4).trans ((ct z5).trans ((ct z7).trans rfl))
        rw [ed]
        exact ⟨n, some (.int (v67 q cc gc (-((Ar h 143) i)))), some (.int ((v70a q cc gc h).1)), some (.int ((v70a q cc gc ((v70a q cc gc h).2)).1)), hc17, (fr_g rfl rfl hf18 (fr_g rfl rfl hf13 (fr_g rfl rfl hf10 fr_0))), ((hf18.2 142 1 (by decide +kernel) rfl).trans ((hf13.2 142 1 (by decide +kernel) rfl).trans ((hf10.2 142 1 (by decide +kernel) rfl).trans e1))), hh⟩
      | false =>
        have hh := en_f z7 hh
        have hh : pm_run PT n fr lo 68 (79, [some (.ref 142), some (.ref 12), some (.int (nI i)), some (.int (v67 q cc gc (-((Ar h 143) i)))), o4, o5], [], h, 198, sl) = some R := hh
        obtain ⟨n, hh⟩ := rn_i rfl rfl rfl rfl hh
        obtain ⟨n, hh⟩ := rn_i rfl rfl rfl rfl hh
        have hh : pm_run PT n fr lo 68 (81, [some (.ref 142), some (.ref 12), some (.int (nI i)), some (.int (v67 q cc gc (-((Ar h 143) i)))), o4, o5], [.ref 142, .ref 142], h, 198, sl) = some R := hh
        obtain ⟨n, fr1, lo1, r1, hh1, hh⟩ := rn_call (w := 0) (t := 70) rfl rfl hh
        obtain ⟨er19, hc20, hf21⟩ := v70a_ok hw hh1
        subst er19
        obtain ⟨n, hh⟩ := rn_i rfl rfl rfl rfl hh
        have hh : pm_run PT n fr lo 68 (85, [some (.ref 142), some (.ref 12), some (.int (nI i)), some (.int (v67 q cc gc (-((Ar h 143) i)))), o4, o5], [.int (-((v70a q cc gc h).1)), .ref 142], (v70a q cc gc h).2, 198, sl) = some R := hh
        obtain ⟨n, fr1, lo1, r1, hh1, hh⟩ := rn_call (w := 0) (t := 69) rfl rfl hh
        obtain ⟨er22, hc23, hf24⟩ := v69a_ok (v := (-((v70a q cc gc h).1))) hc20 hh1
        subst er22
        obtain ⟨n, hh⟩ := rn_i rfl rfl rfl rfl hh
        have hh : pm_run PT n fr lo 68 (121, [some (.ref 142), some (.ref 12), some (.int (nI i)), some (.int (v67 q cc gc (-((Ar h 143) i)))), o4, o5], [], v69a q cc gc ((v70a q cc gc h).2) (-((v70a q cc gc h).1)), 198, sl) = some R := hh
        obtain ⟨n, hh⟩ := en_inc (x := i) (c := 1) (j := 2) rfl rfl (by decide) hh
        have hh : pm_run PT n fr lo 68 (124, [some (.ref 142), some (.ref 12), some (.int (nI (i + 1))), some (.int (v67 q cc gc (-((Ar h 143) i)))), o4, o5], [], v69a q cc gc ((v70a q cc gc h).2) (-((v70a q cc gc h).1)), 198, sl) = some R := hh
        obtain ⟨n, hh⟩ := rn_i rfl rfl rfl rfl hh
        have ed : v68a_7b q cc gc h z i = v69a q cc gc ((v70a q cc gc h).2) (-((v70a q cc gc h).1)) := (ct z4).trans ((ct z5).trans ((cf z7).trans rfl))
        rw [ed]
        exact ⟨n, some (.int (v67 q cc gc (-((Ar h 143) i)))), o4, o5, hc23, (fr_g rfl rfl hf24 (fr_g rfl rfl hf21 fr_0)), ((hf24.2 142 1 (by decide +kernel) rfl).trans ((hf21.2 142 1 (by decide +kernel) rfl).trans e1)), hh⟩
    | false =>
      have hh := en_f z5 hh
      have hh : pm_run PT n fr lo 68 (52, [some (.ref 142), some (.ref 12), some (.int (nI i)), some (.int (v67 q cc gc (-((Ar h 143) i)))), o4, o5], [], h, 198, sl) = some R := hh
      obtain ⟨n, hh⟩ := rn_i rfl rfl rfl rfl hh
      obtain ⟨n, hh⟩ := rn_i rfl rfl rfl rfl hh
      have hh : pm_run PT n fr lo 68 (54, [some (.ref 142), some (.ref 12), some (.int (nI i)), some (.int (v67 q cc gc (-((Ar h 143) i)))), o4, o5], [.ref 12, .int (v67 q cc gc (-((Ar h 143) i)))], h, 198, sl) = some R := hh
      obtain ⟨n, hh⟩ := en_al hw.wt rfl (by decide) rfl (by decide) rfl hh
      have hh : pm_run PT n fr lo 68 (55, [some (.ref 142), some (.ref 12), some (.int (nI i)), some (.int (v67 q cc gc (-((Ar h 143) i)))), o4, o5], [.int (nI 7), .int (v67 q cc gc (-((Ar h 143) i)))], h, 198, sl) = some R := hh
      obtain ⟨n, hh⟩ := en_cn (cc := .ge) (off := 13) (t := 68) (b := pm_cmp .ge (v67 q cc gc (-((Ar h 143) i))) (nI 7)) rfl rfl rfl hh
      cases z25 : pm_cmp .ge (v67 q cc gc (-((Ar h 143) i))) (nI 7) with
      | true =>
        have hh := en_t z25 hh
        have hh : pm_run PT n fr lo 68 (68, [some (.ref 142), some (.ref 12), some (.int (nI i)), some (.int (v67 q cc gc (-((Ar h 143) i)))), o4, o5], [], h, 198, sl) = some R := hh
        obtain ⟨n, hh⟩ := rn_i rfl rfl rfl rfl hh
        have hh : pm_run PT n fr lo 68 (69, [some (.ref 142), some (.ref 12), some (.int (nI i)), some (.int (v67 q cc gc (-((Ar h 143) i)))), o4, o5], [.ref 142], h, 198, sl) = some R := hh
        obtain ⟨n, hh⟩ := rn_gr hw.wt rfl rfl (by decide) rfl (by decide) (show _ = some (2, ((143 : Nat) : Int), 1) from rfl) rfl hh
        obtain ⟨n, hh⟩ := rn_i rfl rfl rfl rfl hh
        have hh : pm_run PT n fr lo 68 (73, [some (.ref 142), some (.ref 12), some (.int (nI i)), some (.int (v67 q cc gc (-((Ar h 143) i)))), o4, o5], [.int (nI i), .ref 143], h, 198, sl) = some R := hh
        obtain ⟨n, hx26, hh⟩ := en_lu (t := i) (f := Ar h 143) (w := (Ar h 143) i) (nI_clamp (by omega)) hw.wt rfl (by decide) rfl (by decide) rfl (fun _ => rfl) hh
        obtain ⟨n, hh⟩ := rn_i rfl rfl rfl rfl hh
        have hh : pm_run PT n fr lo 68 (76, [some (.ref 142), some (.ref 12), some (.int (nI i)), some (.int (v67 q cc gc (-((Ar h 143) i)))), o4, o5], [.int (Int32.ofInt (-126)), .int ((Ar h 143) i)], h, 198, sl) = some R := hh
        obtain ⟨n, hh⟩ := en_cn (cc := .ne) (off := 15) (t := 91) (b := pm_cmp .ne ((Ar h 143) i) (Int32.ofInt (-126))) rfl rfl rfl hh
        cases z27 : pm_cmp .ne ((Ar h 143) i) (Int32.ofInt (-126)) with
        | true =>
          have hh := en_t z27 hh
          have hh : pm_run PT n fr lo 68 (91, [some (.ref 142), some (.ref 12), some (.int (nI i)), some (.int (v67 q cc gc (-((Ar h 143) i)))), o4, o5], [], h, 198, sl) = some R := hh
          obtain ⟨n, hh⟩ := rn_i rfl rfl rfl rfl hh
          have hh : pm_run PT n fr lo 68 (92, [some (.ref 142), some (.ref 12), some (.int (nI i)), some (.int (v67 q cc gc (-((Ar h 143) i)))), o4, o5], [.ref 142], h, 198, sl) = some R := hh
          obtain ⟨n, fr1, lo1, r1, hh1, hh⟩ := rn_call (w := 0) (t := 70) rfl rfl hh
          obtain ⟨er28, hc29, hf30⟩ := v70a_ok hw hh1
          subst er28
          obtain ⟨n, hh⟩ := rn_i rfl rfl rfl rfl hh
          obtain ⟨n, hh⟩ := rn_i rfl rfl rfl rfl hh
          have hh : pm_run PT n fr lo 68 (98, [some (.ref 142), some (.ref 12), some (.int (nI i)), some (.int (v67 q cc gc (-((Ar h 143) i)))), some (.int ((v70a q cc gc h).1)), o5], [.ref 142], (v70a q cc gc h).2, 198, sl) = some R := hh
          obtain ⟨n, fr1, lo1, r1, hh1, hh⟩ := rn_call (w := 0) (t := 70) rfl rfl hh
          obtain ⟨er31, hc32, hf33⟩ := v70a_ok hc29 hh1
          subst er31
          obtain ⟨n, hh⟩ := rn_i rfl rfl rfl rfl hh
          obtain ⟨n, hh⟩ := rn_i rfl rfl rfl rfl hh
          obtain ⟨n, hh⟩ := rn_i rfl rfl rfl rfl hh
          have hh : pm_run PT n fr lo 68 (105, [some (.ref 142), some (.ref 12), some (.int (nI i)), some (.int (v67 q cc gc (-((Ar h 143) i)))), some (.int ((v70a q cc gc h).1)), some (.int ((v70a q cc gc ((v70a q cc gc h).2)).1))], [.ref 142, .ref 142], (v70a q cc gc ((v70a q cc gc h).2)).2, 198, sl) = some R := hh
          obtain ⟨n, hh⟩ := rn_gr hc32.wt rfl rfl (by decide) rfl (by decide) (show _ = some (2, ((143 : Nat) : Int), 1) from rfl) rfl hh
          obtain ⟨n, hh⟩ := rn_i rfl rfl rfl rfl hh
          have hh : pm_run PT n fr lo 68 (109, [some (.ref 142), some (.ref 12), some (.int (nI i)), some (.int (v67 q cc gc (-((Ar h 143) i)))), some (.int ((v70a q cc gc h).1)), some (.int ((v70a q cc gc ((v70a q cc gc h).2)).1))], [.int (nI i), .ref 143, .ref 142], (v70a q cc gc ((v70a q cc gc h).2)).2, 198, sl) = some R := hh
          obtain ⟨n, hx34, hh⟩ := en_lu (t := i) (f := Ar h 143) (w := (Ar h 143) i) (nI_clamp (by omega)) hc32.wt rfl (by decide) rfl (by decide) ((Ar_e (hf33.1 143 rfl)).trans ((Ar_e (hf30.1 143 rfl)).trans rfl)) (fun _ => rfl) hh
          obtain ⟨n, hh⟩ := rn_i rfl rfl rfl rfl hh
          obtain ⟨n, hh⟩ := rn_i rfl rfl rfl rfl hh
          obtain ⟨n, hh⟩ := rn_i rfl rfl rfl rfl hh
          have hh : pm_run PT n fr lo 68 (115, [some (.ref 142), some (.ref 12), some (.int (nI i)), some (.int (v67 q cc gc (-((Ar h 143) i)))), some (.int ((v70a q cc gc h).1)), some (.int ((v70a q cc gc ((v70a q cc gc h).2)).1))], [.int ((v70a q cc gc h).1), .int ((v70a q cc gc ((v70a q cc gc h).2)).1), .int (-((Ar h 143) i)), .ref 142], (v70a q cc gc ((v70a q cc gc h).2)).2, 198, sl) = some R := hh
          obtain ⟨n, fr1, lo1, r1, hh1, hh⟩ := rn_call (w := 2) (t := 71) rfl rfl hh
          have er35 := v71_ok (s := (-((Ar h 143) i))) (a := ((v70a q cc gc ((v70a q cc gc h).2)).1)) (b := ((v70a q cc gc h).1)) hc32 hh1
          subst er35
          have hh : pm_run PT n fr lo 68 (118, [some (.ref 142), some (.ref 12), some (.int (nI i)), some (.int (v67 q cc gc (-((Ar h 143) i)))), some (.int ((v70a q cc gc h).1)), some (.int ((v70a q cc gc ((v70a q cc gc h).2)).1))], [.int (v71 q cc gc (-((Ar h 143) i)) ((v70a q cc gc ((v70a q cc gc h).2)).1) ((v70a q cc gc h).1)), .ref 142], (v70a q cc gc ((v70a q cc gc h).2)).2, 198, sl) = some R := hh
          obtain ⟨n, fr1, lo1, r1, hh1, hh⟩ := rn_call (w := 0) (t := 69) rfl rfl hh
          obtain ⟨er36, hc37, hf38⟩ := v69a_ok (v := (v71 q cc gc (-((Ar h 143) i)) ((v70a q cc gc ((v70a q cc gc h).2)).1) ((v70a q cc gc h).1))) hc32 hh1
          subst er36
          have hh : pm_run PT n fr lo 68 (121, [some (.ref 142), some (.ref 12), some (.int (nI i)), some (.int (v67 q cc gc (-((Ar h 143) i)))), some (.int ((v70a q cc gc h).1)), some (.int ((v70a q cc gc ((v70a q cc gc h).2)).1))], [], v69a q cc gc ((v70a q cc gc ((v70a q cc gc h).2)).2) (v71 q cc gc (-((Ar h 143) i)) ((v70a q cc gc ((v70a q cc gc h).2)).1) ((v70a q cc gc h).1)), 198, sl) = some R := hh
          obtain ⟨n, hh⟩ := en_inc (x := i) (c := 1) (j := 2) rfl rfl (by decide) hh
          have hh : pm_run PT n fr lo 68 (124, [some (.ref 142), some (.ref 12), some (.int (nI (i + 1))), some (.int (v67 q cc gc (-((Ar h 143) i)))), some (.int ((v70a q cc gc h).1)), some (.int ((v70a q cc gc ((v70a q cc gc h).2)).1))], [], v69a q cc gc ((v70a q cc gc ((v70a q cc gc h).2)).2) (v71 q cc gc (-((Ar h 143) i)) ((v70a q cc gc ((v70a q cc gc h).2)).1) ((v70a q cc gc h).1)), 198, sl) = some R := hh
          obtain ⟨n, hh⟩ := rn_i rfl rfl rfl rfl hh
          have ed : v68a_7b q cc gc h z i = v69a q cc gc ((v70a q cc gc ((v70a q cc gc h).2)).2) (v71 q cc gc (-((Ar h 143) i)) ((v70a q cc gc ((v70a q cc gc h).2)).1) ((v70a q cc gc h).1)) := (ct z4).trans ((cf z5).trans ((ct z25).trans ((ct z27).trans rfl)))
          rw [ed]
          exact ⟨n, some (.int (v67 q cc gc (-((Ar h 143) i)))), some (.int ((v70a q cc gc h).1)), some (.int ((v70a q cc gc ((v70a q cc gc h).2)).1)), hc37, (fr_g rfl rfl hf38 (fr_g rfl rfl hf33 (fr_g rfl rfl hf30 fr_0))), ((hf38.2 142 1 (by decide +kernel) rfl).trans ((hf33.2 142 1 (by decide +kernel) rfl).trans ((hf30.2 142 1 (by decide +kernel) rfl).trans e1))), hh⟩
        | false =>
          have hh := en_f z27 hh
          have hh : pm_run PT n fr lo 68 (79, [some (.ref 142), some (.ref 12), some (.int (nI i)), some (.int (v67 q cc gc (-((Ar h 143) i)))), o4, o5], [], h, 198, sl) = some R := hh
          obtain ⟨n, hh⟩ := rn_i rfl rfl rfl rfl hh
          obtain ⟨n, hh⟩ := rn_i rfl rfl rfl rfl hh
          have hh : pm_run PT n fr lo 68 (81, [some (.ref 142), some (.ref 12), some (.int (nI i)), some (.int (v67 q cc gc (-((Ar h 143) i)))), o4, o5], [.ref 142, .ref 142], h, 198, sl) = some R := hh
          obtain ⟨n, fr1, lo1, r1, hh1, hh⟩ := rn_call (w := 0) (t := 70) rfl rfl hh
          obtain ⟨er39, hc40, hf41⟩ := v70a_ok hw hh1
          subst er39
          obtain ⟨n, hh⟩ := rn_i rfl rfl rfl rfl hh
          have hh : pm_run PT n fr lo 68 (85, [some (.ref 142), some (.ref 12), some (.int (nI i)), some (.int (v67 q cc gc (-((Ar h 143) i)))), o4, o5], [.int (-((v70a q cc gc h).1)), .ref 142], (v70a q cc gc h).2, 198, sl) = some R := hh
          obtain ⟨n, fr1, lo1, r1, hh1, hh⟩ := rn_call (w := 0) (t := 69) rfl rfl hh
          obtain ⟨er42, hc43, hf44⟩ := v69a_ok (v := (-((v70a q cc gc h).1))) hc40 hh1
          subst er42
          obtain ⟨n, hh⟩ := rn_i rfl rfl rfl rfl hh
          have hh : pm_run PT n fr lo 68 (121, [some (.ref 142), some (.ref 12), some (.int (nI i)), some (.int (v67 q cc gc (-((Ar h 143) i)))), o4, o5], [], v69a q cc gc ((v70a q cc gc h).2) (-((v70a q cc gc h).1)), 198, sl) = some R := hh
          obtain ⟨n, hh⟩ := en_inc (x := i) (c := 1) (j := 2) rfl rfl (by decide) hh
          have hh : pm_run PT n fr lo 68 (124, [some (.ref 142), some (.ref 12), some (.int (nI (i + 1))), some (.int (v67 q cc gc (-((Ar h 143) i)))), o4, o5], [], v69a q cc gc ((v70a q cc gc h).2) (-((v70a q cc gc h).1)), 198, sl) = some R := hh
          obtain ⟨n, hh⟩ := rn_i rfl rfl rfl rfl hh
          have ed : v68a_7b q cc gc h z i = v69a q cc gc ((v70a q cc gc h).2) (-((v70a q cc gc h).1)) := (ct z4).trans ((cf z5).trans ((ct z25).trans ((cf z27).trans rfl)))
          rw [ed]
          exact ⟨n, some (.int (v67 q cc gc (-((Ar h 143) i)))), o4, o5, hc43, (fr_g rfl rfl hf44 (fr_g rfl rfl hf41 fr_0)), ((hf44.2 142 1 (by decide +kernel) rfl).trans ((hf41.2 142 1 (by decide +kernel) rfl).trans e1)), hh⟩
      | false =>
        have hh := en_f z25 hh
        have hh : pm_run PT n fr lo 68 (58, [some (.ref 142), some (.ref 12), some (.int (nI i)), some (.int (v67 q cc gc (-((Ar h 143) i)))), o4, o5], [], h, 198, sl) = some R := hh
        obtain ⟨n, hh⟩ := rn_i rfl rfl rfl rfl hh
        obtain ⟨n, hh⟩ := rn_i rfl rfl rfl rfl hh
        obtain ⟨n, hh⟩ := rn_i rfl rfl rfl rfl hh
        have hh : pm_run PT n fr lo 68 (61, [some (.ref 142), some (.ref 12), some (.int (nI i)), some (.int (v67 q cc gc (-((Ar h 143) i)))), o4, o5], [.int (v67 q cc gc (-((Ar h 143) i))), .ref 12, .ref 142], h, 198, sl) = some R := hh
        obtain ⟨n, hx45, hh⟩ := en_lu (t := (v67 q cc gc (-((Ar h 143) i))).toNatClampNeg) (f := Ar h 12) (w := (Ar h 12) ((v67 q cc gc (-((Ar h 143) i))).toNatClampNeg)) rfl hw.wt rfl (by decide) rfl (by decide) rfl (fun _ => rfl) hh
        have hh : pm_run PT n fr lo 68 (62, [some (.ref 142), some (.ref 12), some (.int (nI i)), some (.int (v67 q cc gc (-((Ar h 143) i)))), o4, o5], [.int ((Ar h 12) ((v67 q cc gc (-((Ar h 143) i))).toNatClampNeg)), .ref 142], h, 198, sl) = some R := hh
        obtain ⟨n, fr1, lo1, r1, hh1, hh⟩ := rn_call (w := 0) (t := 69) rfl rfl hh
        obtain ⟨er46, hc47, hf48⟩ := v69a_ok (v := ((Ar h 12) ((v67 q cc gc (-((Ar h 143) i))).toNatClampNeg))) hw hh1
        subst er46
        obtain ⟨n, hh⟩ := rn_i rfl rfl rfl rfl hh
        have hh : pm_run PT n fr lo 68 (121, [some (.ref 142), some (.ref 12), some (.int (nI i)), some (.int (v67 q cc gc (-((Ar h 143) i)))), o4, o5], [], v69a q cc gc h ((Ar h 12) ((v67 q cc gc (-((Ar h 143) i))).toNatClampNeg)), 198, sl) = some R := hh
        obtain ⟨n, hh⟩ := en_inc (x := i) (c := 1) (j := 2) rfl rfl (by decide) hh
        have hh : pm_run PT n fr lo 68 (124, [some (.ref 142), some (.ref 12), some (.int (nI (i + 1))), some (.int (v67 q cc gc (-((Ar h 143) i)))), o4, o5], [], v69a q cc gc h ((Ar h 12) ((v67 q cc gc (-((Ar h 143) i))).toNatClampNeg)), 198, sl) = some R := hh
        obtain ⟨n, hh⟩ := rn_i rfl rfl rfl rfl hh
        have ed : v68a_7b q cc gc h z i = v69a q cc gc h ((Ar h 12) ((v67 q cc gc (-((Ar h 143) i))).toNatClampNeg)) := (ct z4).trans ((cf z5).trans ((cf z25).trans rfl))
        rw [ed]
        exact ⟨n, some (.int (v67 q cc gc (-((Ar h 143) i)))), o4, o5, hc47, (fr_g rfl rfl hf48 fr_0), ((hf48.2 142 1 (by decide +kernel) rfl).trans e1), hh⟩
  | false =>
    have hh := en_f z4 hh
    have hh : pm_run PT n fr lo 68 (35, [some (.ref 142), some (.ref 12), some (.int (nI i)), some (.int (v67 q cc gc (-((Ar h 143) i)))), o4, o5], [], h, 198, sl) = some R := hh
    obtain ⟨n, hh⟩ := rn_i rfl rfl rfl rfl hh
    obtain ⟨n, hh⟩ := rn_i rfl rfl rfl rfl hh
    have hh : pm_run PT n fr lo 68 (37, [some (.ref 142), some (.ref 12), some (.int (nI i)), some (.int (v67 q cc gc (-((Ar h 143) i)))), o4, o5], [.ref 142, .ref 142], h, 198, sl) = some R := hh
    obtain ⟨n, hh⟩ := rn_gr hw.wt rfl rfl (by decide) rfl (by decide) (show _ = some (2, ((143 : Nat) : Int), 1) from rfl) rfl hh
    obtain ⟨n, hh⟩ := rn_i rfl rfl rfl rfl hh
    have hh : pm_run PT n fr lo 68 (41, [some (.ref 142), some (.ref 12), some (.int (nI i)), some (.int (v67 q cc gc (-((Ar h 143) i)))), o4, o5], [.int (nI i), .ref 143, .ref 142], h, 198, sl) = some R := hh
    obtain ⟨n, hx49, hh⟩ := en_lu (t := i) (f := Ar h 143) (w := (Ar h 143) i) (nI_clamp (by omega)) hw.wt rfl (by decide) rfl (by decide) rfl (fun _ => rfl) hh
    have hh : pm_run PT n fr lo 68 (42, [some (.ref 142), some (.ref 12), some (.int (nI i)), some (.int (v67 q cc gc (-((Ar h 143) i)))), o4, o5], [.int ((Ar h 143) i), .ref 142], h, 198, sl) = some R := hh
    obtain ⟨n, fr1, lo1, r1, hh1, hh⟩ := rn_call (w := 0) (t := 69) rfl rfl hh
    obtain ⟨er50, hc51, hf52⟩ := v69a_ok (v := ((Ar h 143) i)) hw hh1
    subst er50
    obtain ⟨n, hh⟩ := rn_i rfl rfl rfl rfl hh
    have hh : pm_run PT n fr lo 68 (121, [some (.ref 142), some (.ref 12), some (.int (nI i)), some (.int (v67 q cc gc (-((Ar h 143) i)))), o4, o5], [], v69a q cc gc h ((Ar h 143) i), 198, sl) = some R := hh
    obtain ⟨n, hh⟩ := en_inc (x := i) (c := 1) (j := 2) rfl rfl (by decide) hh
    have hh : pm_run PT n fr lo 68 (124, [some (.ref 142), some (.ref 12), some (.int (nI (i + 1))), some (.int (v67 q cc gc (-((Ar h 143) i)))), o4, o5], [], v69a q cc gc h ((Ar h 143) i), 198, sl) = some R := hh
    obtain ⟨n, hh⟩ := rn_i rfl rfl rfl rfl hh
    have ed : v68a_7b q cc gc h z i = v69a q cc gc h ((Ar h 143) i) := (cf z4).trans rfl
    rw [ed]
    exact ⟨n, some (.int (v67 q cc gc (-((Ar h 143) i)))), o4, o5, hc51, (fr_g rfl rfl hf52 fr_0), ((hf52.2 142 1 (by decide +kernel) rfl).trans e1), hh⟩
theorem v68a_7_ok {fr lo sl cc gc : Nat} {q : QT} {R : pm_Rs} {z : Nat} : ∀ {j i : Nat} {o3 : Option Value} {o4 : Option Value} {o5 : Option Value} {h : pm_H} {n : Nat}, z - i = j → i + j < 1000000 → HC q cc gc h → z ≤ 40 → Fi h 142 1 = nI z → pm_run PT n fr lo 68 (7, [some (.ref 142), some (.ref 12), some (.int (nI i)), o3, o4, o5], [], h, 198, sl) = some R → ∃ m wc w3 w4 w5, HC q cc gc ((v68a_7 q cc gc z j i h)) ∧ frm [142, 144] [(142, 3)] h ((v68a_7 q cc gc z j i h)) ∧ Fi ((v68a_7 q cc gc z j i h)) 142 1 = nI z ∧ pm_run PT m fr lo 68 (127, [some (.ref 142), some (.ref 12), wc, w3, w4, w5], [], (v68a_7 q cc gc z j i h), 198, sl) = some R := by
  intro j
  induction j with
  | zero =>
    intro i o3 o4 o5 h n e eI hw hz e1 hh
    obtain ⟨n, hh⟩ := v68a_7_e hw hz e1 (by omega) (by omega) hh
    exact ⟨n, _, o3, o4, o5, hw, fr_0, e1, hh⟩
  | succ j ih =>
    intro i o3 o4 o5 h n e eI hw hz e1 hh
    obtain ⟨n, w3, w4, w5, hc, hf, e1', hh⟩ := v68a_7_s hw hz e1 (by omega) (by omega) hh
    obtain ⟨n, wc, v3, v4, v5, hc2, hf2, e1'', hh⟩ := ih (by omega) (by omega) hc hz e1' hh
    exact ⟨n, wc, v3, v4, v5, hc2, fr_t hf2 hf, e1'', hh⟩
theorem v68a_7_fb {cc gc : Nat} {q : QT} {h : pm_H} {z : Nat} {i : Nat} (hw : HC q cc gc h) (hz : z ≤ 40) : HC q cc gc ((v68a_7b q cc gc h z i)) ∧ frm [142, 144] [(142, 3)] h ((v68a_7b q cc gc h z i)) := by
  unfold v68a_7b
  refine cd_s (P := fun (p : pm_H) => HC q cc gc ((p)) ∧ frm [142, 144] [(142, 3)] h ((p))) (b := pm_cmp .lt ((Ar h 143) i) 0) (fun _ => ?_) (fun _ => ?_)
  · refine cd_s (P := fun (p : pm_H) => HC q cc gc ((p)) ∧ frm [142, 144] [(142, 3)] h ((p))) (b := pm_cmp .lt (v67 q cc gc (-((Ar h 143) i))) 0) (fun _ => ?_) (fun _ => ?_)
    · refine cd_s (P := fun (p : pm_H) => HC q cc gc ((p)) ∧ frm [142, 144] [(142, 3)] h ((p))) (b := pm_cmp .ne ((Ar h 143) i) (Int32.ofInt (-126))) (fun _ => ?_) (fun _ => ?_)
      · show HC q cc gc (v69a q cc gc ((v70a q cc gc ((v70a q cc gc h).2)).2) (v71 q cc gc (-((Ar h 143) i)) ((v70a q cc gc ((v70a q cc gc h).2)).1) ((v70a q cc gc h).1))) ∧ frm [142, 144] [(142, 3)] h (v69a q cc gc ((v70a q cc gc ((v70a q cc gc h).2)).2) (v71 q cc gc (-((Ar h 143) i)) ((v70a q cc gc ((v70a q cc gc h).2)).1) ((v70a q cc gc h).1)))
        exact ⟨(v69a_fr (v := (v71 q cc gc (-((Ar h 143) i)) ((v70a q cc gc ((v70a q cc gc h).2)).1) ((v70a q cc gc h).1))) (v70a_fr (v70a_fr hw).1).1).1, (fr_g rfl rfl (v69a_fr (v := (v71 q cc gc (-((Ar h 143) i)) ((v70a q cc gc ((v70a q cc gc h).2)).1) ((v70a q cc gc h).1))) (v70a_fr (v70a_fr hw).1).1).2 (fr_g rfl rfl (v70a_fr (v70a_fr hw).1).2 (fr_g rfl rfl (v70a_fr hw).2 fr_0)))⟩
      · show HC q cc gc (v69a q cc gc ((v70a q cc gc h).2) (-((v70a q cc gc h).1))) ∧ frm [142, 144] [(142, 3)] h (v69a q cc gc ((v70a q cc gc h).2) (-((v70a q cc gc h).1)))
        exact ⟨(v69a_fr (v := (-((v70a q cc gc h).1))) (v70a_fr hw).1).1, (fr_g rfl rfl (v69a_fr (v := (-((v70a q cc gc h).1))) (v70a_fr hw).1).2 (fr_g rfl rfl (v70a_fr hw).2 fr_0))⟩
    · refine cd_s (P := fun (p : pm_H) => HC q cc gc ((p)) ∧ frm [142, 144] [(142, 3)] h ((p))) (b := pm_cmp .ge (v67 q cc gc (-((Ar h 143) i))) (nI 7)) (fun _ => ?_) (fun _ => ?_)
      · refine cd_s (P := fun (p : pm_H) => HC q cc gc ((p)) ∧ frm [142, 144] [(142, 3)] h ((p))) (b := pm_cmp .ne ((Ar h 143) i) (Int32.ofInt (-126))) (fun _ => ?_) (fun _ => ?_)
        · show HC q cc gc (v69a q cc gc ((v70a q cc gc ((v70a q cc gc h).2)).2) (v71 q cc gc (-((Ar h 143) i)) ((v70a q cc gc ((v70a q cc gc h).2)).1) ((v70a q cc gc h).1))) ∧ frm [142, 144] [(142, 3)] h (v69a q cc gc ((v70a q cc gc ((v70a q cc gc h).2)).2) (v71 q cc gc (-((Ar h 143) i)) ((v70a q cc gc ((v70a q cc gc h).2)).1) ((v70a q cc gc h).1)))
          exact ⟨(v69a_fr (v := (v71 q cc gc (-((Ar h 143) i)) ((v70a q cc gc ((v70a q cc gc h).2)).1) ((v70a q cc gc h).1))) (v70a_fr (v70a_fr hw).1).1).1, (fr_g rfl rfl (v69a_fr (v := (v71 q cc gc (-((Ar h 143) i)) ((v70a q cc gc ((v70a q cc gc h).2)).1) ((v70a q cc gc h).1))) (v70a_fr (v70a_fr hw).1).1).2 (fr_g rfl rfl (v70a_fr (v70a_fr hw).1).2 (fr_g rfl rfl (v70a_fr hw).2 fr_0)))⟩
        · show HC q cc gc (v69a q cc gc ((v70a q cc gc h).2) (-((v70a q cc gc h).1))) ∧ frm [142, 144] [(142, 3)] h (v69a q cc gc ((v70a q cc gc h).2) (-((v70a q cc gc h).1)))
          exact ⟨(v69a_fr (v := (-((v70a q cc gc h).1))) (v70a_fr hw).1).1, (fr_g rfl rfl (v69a_fr (v := (-((v70a q cc gc h).1))) (v70a_fr hw).1).2 (fr_g rfl rfl (v70a_fr hw).2 fr_0))⟩
      · show HC q cc gc (v69a q cc gc h ((Ar h 12) ((v67 q cc gc (-((Ar h 143) i))).toNatClampNeg))) ∧ frm [142, 144] [(142, 3)] h (v69a q cc gc h ((Ar h 12) ((v67 q cc gc (-((Ar h 143) i))).toNatClampNeg)))
        exact ⟨(v69a_fr (v := ((Ar h 12) ((v67 q cc gc (-((Ar h 143) i))).toNatClampNeg))) hw).1, (fr_g rfl rfl (v69a_fr (v := ((Ar h 12) ((v67 q cc gc (-((Ar h 143) i))).toNatClampNeg))) hw).2 fr_0)⟩
  · show HC q cc gc (v69a q cc gc h ((Ar h 143) i)) ∧ frm [142, 144] [(142, 3)] h (v69a q cc gc h ((Ar h 143) i))
    exact ⟨(v69a_fr (v := ((Ar h 143) i)) hw).1, (fr_g rfl rfl (v69a_fr (v := ((Ar h 143) i)) hw).2 fr_0)⟩
theorem v68a_7_fr {cc gc : Nat} {q : QT} {z : Nat} (hz : z ≤ 40) : ∀ {j i : Nat} {h : pm_H}, HC q cc gc h → HC q cc gc ((v68a_7 q cc gc z j i h)) ∧ frm [142, 144] [(142, 3)] h ((v68a_7 q cc gc z j i h)) := by
  intro j
  induction j with
  | zero =>
    intro i h hw
    exact ⟨hw, fr_0⟩
  | succ j ih =>
    intro i h hw
    obtain ⟨a1, a2⟩ := v68a_7_fb (i := i) (z := z) hw hz
    obtain ⟨b1, b2⟩ := ih (i := i + 1) a1
    exact ⟨b1, fr_t b2 a2⟩
def v68a (q : QT) (cc gc : Nat) (h : pm_H) (z : Nat) : Int32 × pm_H := ((v70a q cc gc (v68a_7 q cc gc z z 0 (fset h 142 3 (.int (nI 0))))).1, (v70a q cc gc (v68a_7 q cc gc z z 0 (fset h 142 3 (.int (nI 0))))).2)
theorem v68a_ok {n fr lo sl cc gc : Nat} {q : QT} {h : pm_H} {R : pm_Rs} {z : Nat} (hw : HC q cc gc h) (hz : z ≤ 40) (e1 : Fi h 142 1 = nI z) (hh : pm_run PT n fr lo 68 (0, pm_l0 [.ref 142, .ref 12] 6, [], h, 198, sl) = some R) : R = (some (.int ((v68a q cc gc h z).1)), (v68a q cc gc h z).2, 198, sl) ∧ HC q cc gc ((v68a q cc gc h z).2) ∧ frm [142, 144] [(142, 3)] h ((v68a q cc gc h z).2) := by
  have hcc := hw.cb
  have hgc := hw.gb
  have hzr := hw.zr
  obtain ⟨n, hh⟩ := rn_i rfl rfl rfl rfl hh
  obtain ⟨n, hh⟩ := rn_i rfl rfl rfl rfl hh
  have hh : pm_run PT n fr lo 68 (2, [some (.ref 142), some (.ref 12), none, none, none, none], [.int (nI 0), .ref 142], h, 198, sl) = some R := hh
  obtain ⟨n, hh⟩ := rn_pi hw.wt rfl rfl (by decide) rfl (by decide) rfl hh
  obtain ⟨n, hh⟩ := rn_i rfl rfl rfl rfl hh
  obtain ⟨n, hh⟩ := rn_i rfl rfl rfl rfl hh
  have hh : pm_run PT n fr lo 68 (7, [some (.ref 142), some (.ref 12), some (.int (nI 0)), none, none, none], [], fset h 142 3 (.int (nI 0)), 198, sl) = some R := hh
  obtain ⟨n, u4, u1, u2, u3, hc5, hf6, _, hh⟩ := v68a_7_ok  (i := 0) (o3 := none) (o4 := none) (o5 := none) (j := z) (by omega) (by omega) (hc_f rfl rfl (by decide) rfl hw) hz ((Fi_n (Or.inr (by decide))).trans e1) hh
  have hh : pm_run PT n fr lo 68 (127, [some (.ref 142), some (.ref 12), u4, u1, u2, u3], [], (v68a_7 q cc gc z z 0 (fset h 142 3 (.int (nI 0)))), 198, sl) = some R := hh
  obtain ⟨n, hh⟩ := rn_i rfl rfl rfl rfl hh
  have hh : pm_run PT n fr lo 68 (128, [some (.ref 142), some (.ref 12), u4, u1, u2, u3], [.ref 142], (v68a_7 q cc gc z z 0 (fset h 142 3 (.int (nI 0)))), 198, sl) = some R := hh
  obtain ⟨n, fr1, lo1, r1, hh1, hh⟩ := rn_call (w := 0) (t := 70) rfl rfl hh
  obtain ⟨er7, hc8, hf9⟩ := v70a_ok hc5 hh1
  subst er7
  have hh : pm_run PT n fr lo 68 (131, [some (.ref 142), some (.ref 12), u4, u1, u2, u3], [.int ((v70a q cc gc (v68a_7 q cc gc z z 0 (fset h 142 3 (.int (nI 0))))).1)], (v70a q cc gc (v68a_7 q cc gc z z 0 (fset h 142 3 (.int (nI 0))))).2, 198, sl) = some R := hh
  have er10 : R = (some (.int ((v70a q cc gc (v68a_7 q cc gc z z 0 (fset h 142 3 (.int (nI 0))))).1)), (v70a q cc gc (v68a_7 q cc gc z z 0 (fset h 142 3 (.int (nI 0))))).2, 198, sl) := (rn_ret rfl (Or.inl rfl) hh).2
  have ed : v68a q cc gc h z = ((v70a q cc gc (v68a_7 q cc gc z z 0 (fset h 142 3 (.int (nI 0))))).1, (v70a q cc gc (v68a_7 q cc gc z z 0 (fset h 142 3 (.int (nI 0))))).2) := rfl
  refine ⟨?_, ?_, ?_⟩ <;> rw [ed]
  · exact er10
  · exact hc8
  · exact (fr_g rfl rfl hf9 (fr_g rfl rfl hf6 (fr_f rfl rfl fr_0)))
theorem v68a_fr {cc gc : Nat} {q : QT} {h : pm_H} {z : Nat} (hw : HC q cc gc h) (hz : z ≤ 40) : HC q cc gc ((v68a q cc gc h z).2) ∧ frm [142, 144] [(142, 3)] h ((v68a q cc gc h z).2) := by
  unfold v68a
  show HC q cc gc ((v70a q cc gc (v68a_7 q cc gc z z 0 (fset h 142 3 (.int (nI 0))))).2) ∧ frm [142, 144] [(142, 3)] h ((v70a q cc gc (v68a_7 q cc gc z z 0 (fset h 142 3 (.int (nI 0))))).2)
  exact ⟨(v70a_fr (v68a_7_fr (z := z) (j := z) (i := 0) hz (hc_f rfl rfl (by decide) rfl hw)).1).1, (fr_g rfl rfl (v70a_fr (v68a_7_fr (z := z) (j := z) (i := 0) hz (hc_f rfl rfl (by decide) rfl hw)).1).2 (fr_g rfl rfl (v68a_7_fr (z := z) (j := z) (i := 0) hz (hc_f rfl rfl (by decide) rfl hw)).2 (fr_f rfl rfl fr_0)))⟩
def v69b (q : QT) (cc gc : Nat) (h : pm_H) (v : Int32) : pm_H := cond (pm_cmp .ge (Fi h 145 3) (nI 40)) h (fset (aset h 147 40 (upd (Ar h 147) ((Fi h 145 3).toNatClampNeg) v)) 145 3 (.int ((Fi h 145 3) + (nI 1))))
theorem v69b_ok {n fr lo sl cc gc : Nat} {q : QT} {h : pm_H} {R : pm_Rs} {v : Int32} (hw : HC q cc gc h) (hh : pm_run PT n fr lo 69 (0, pm_l0 [.ref 145, .int v] 2, [], h, 198, sl) = some R) : R = (none, v69b q cc gc h v, 198, sl) ∧ HC q cc gc (v69b q cc gc h v) ∧ frm [145, 147] [(145, 3)] h (v69b q cc gc h v) := by
  have hcc := hw.cb
  have hgc := hw.gb
  have hzr := hw.zr
  obtain ⟨n, hh⟩ := rn_i rfl rfl rfl rfl hh
  have hh : pm_run PT n fr lo 69 (1, [some (.ref 145), some (.int v)], [.ref 145], h, 198, sl) = some R := hh
  obtain ⟨n, hh⟩ := rn_gi (x := Fi h 145 3) hw.wt rfl rfl (by decide) rfl (by decide) rfl rfl hh
  obtain ⟨n, hh⟩ := rn_i rfl rfl rfl rfl hh
  have hh : pm_run PT n fr lo 69 (6, [some (.ref 145), some (.int v)], [.int (nI 40), .int (Fi h 145 3)], h, 198, sl) = some R := hh
  obtain ⟨n, hh⟩ := en_cn (cc := .ge) (off := 23) (t := 29) (b := pm_cmp .ge (Fi h 145 3) (nI 40)) rfl rfl rfl hh
  cases z1 : pm_cmp .ge (Fi h 145 3) (nI 40) with
  | true =>
    have hh := en_t z1 hh
    have hh : pm_run PT n fr lo 69 (29, [some (.ref 145), some (.int v)], [], h, 198, sl) = some R := hh
    have er2 : R = (none, h, 198, sl) := rn_vret rfl rfl hh
    have ed : v69b q cc gc h v = h := (ct z1).trans rfl
    refine ⟨?_, ?_, ?_⟩ <;> rw [ed]
    · exact er2
    · exact hw
    · exact fr_0
  | false =>
    have hh := en_f z1 hh
    have hh : pm_run PT n fr lo 69 (9, [some (.ref 145), some (.int v)], [], h, 198, sl) = some R := hh
    obtain ⟨n, hh⟩ := rn_i rfl rfl rfl rfl hh
    have hh : pm_run PT n fr lo 69 (10, [some (.ref 145), some (.int v)], [.ref 145], h, 198, sl) = some R := hh
    obtain ⟨n, hh⟩ := rn_gr hw.wt rfl rfl (by decide) rfl (by decide) (show _ = some (2, ((147 : Nat) : Int), 1) from rfl) rfl hh
    obtain ⟨n, hh⟩ := rn_i rfl rfl rfl rfl hh
    have hh : pm_run PT n fr lo 69 (14, [some (.ref 145), some (.int v)], [.ref 145, .ref 147], h, 198, sl) = some R := hh
    obtain ⟨n, hh⟩ := rn_gi (x := Fi h 145 3) hw.wt rfl rfl (by decide) rfl (by decide) rfl rfl hh
    obtain ⟨n, hh⟩ := rn_i rfl rfl rfl rfl hh
    have hh : pm_run PT n fr lo 69 (18, [some (.ref 145), some (.int v)], [.int v, .int (Fi h 145 3), .ref 147], h, 198, sl) = some R := hh
    obtain ⟨n, hx3, hh⟩ := en_st (t := (Fi h 145 3).toNatClampNeg) (f := Ar h 147) rfl hw.wt rfl (by decide) rfl (by decide) rfl hh
    obtain ⟨n, hh⟩ := rn_i rfl rfl rfl rfl hh
    obtain ⟨n, hh⟩ := rn_i rfl rfl rfl rfl hh
    have hh : pm_run PT n fr lo 69 (21, [some (.ref 145), some (.int v)], [.ref 145, .ref 145], aset h 147 40 (upd (Ar h 147) ((Fi h 145 3).toNatClampNeg) v), 198, sl) = some R := hh
    obtain ⟨n, hh⟩ := rn_gi (x := Fi h 145 3) (hc_a rfl rfl hw).wt rfl rfl (by decide) rfl (by decide) rfl ((Fi_a (by decide)).trans rfl) hh
    obtain ⟨n, hh⟩ := rn_i rfl rfl rfl rfl hh
    obtain ⟨n, hh⟩ := rn_i rfl rfl rfl rfl hh
    have hh : pm_run PT n fr lo 69 (26, [some (.ref 145), some (.int v)], [.int ((Fi h 145 3) + (nI 1)), .ref 145], aset h 147 40 (upd (Ar h 147) ((Fi h 145 3).toNatClampNeg) v), 198, sl) = some R := hh
    obtain ⟨n, hh⟩ := rn_pi (hc_a rfl rfl hw).wt rfl rfl (by decide) rfl (by decide) rfl hh
    have er4 : R = (none, fset (aset h 147 40 (upd (Ar h 147) ((Fi h 145 3).toNatClampNeg) v)) 145 3 (.int ((Fi h 145 3) + (nI 1))), 198, sl) := rn_vret rfl rfl hh
    have ed : v69b q cc gc h v = fset (aset h 147 40 (upd (Ar h 147) ((Fi h 145 3).toNatClampNeg) v)) 145 3 (.int ((Fi h 145 3) + (nI 1))) := (cf z1).trans rfl
    refine ⟨?_, ?_, ?_⟩ <;> rw [ed]
    · exact er4
    · exact (hc_f rfl rfl (by decide) rfl (hc_a rfl rfl hw))
    · exact (fr_f rfl rfl (fr_a rfl rfl fr_0))
theorem v69b_fr {cc gc : Nat} {q : QT} {h : pm_H} {v : Int32} (hw : HC q cc gc h) : HC q cc gc (v69b q cc gc h v) ∧ frm [145, 147] [(145, 3)] h (v69b q cc gc h v) := by
  unfold v69b
  refine cd_s (P := fun (p : pm_H) => HC q cc gc (p) ∧ frm [145, 147] [(145, 3)] h (p)) (b := pm_cmp .ge (Fi h 145 3) (nI 40)) (fun _ => ?_) (fun _ => ?_)
  · show HC q cc gc (h) ∧ frm [145, 147] [(145, 3)] h (h)
    exact ⟨hw, fr_0⟩
  · show HC q cc gc (fset (aset h 147 40 (upd (Ar h 147) ((Fi h 145 3).toNatClampNeg) v)) 145 3 (.int ((Fi h 145 3) + (nI 1)))) ∧ frm [145, 147] [(145, 3)] h (fset (aset h 147 40 (upd (Ar h 147) ((Fi h 145 3).toNatClampNeg) v)) 145 3 (.int ((Fi h 145 3) + (nI 1))))
    exact ⟨(hc_f rfl rfl (by decide) rfl (hc_a rfl rfl hw)), (fr_f rfl rfl (fr_a rfl rfl fr_0))⟩
def v70b (q : QT) (cc gc : Nat) (h : pm_H) : Int32 × pm_H := cond (pm_cmp .gt (Fi h 145 3) 0) ((Ar h 147) (((Fi h 145 3) - (nI 1)).toNatClampNeg), fset h 145 3 (.int ((Fi h 145 3) - (nI 1)))) (nI 0, h)
theorem v70b_ok {n fr lo sl cc gc : Nat} {q : QT} {h : pm_H} {R : pm_Rs} (hw : HC q cc gc h) (hh : pm_run PT n fr lo 70 (0, pm_l0 [.ref 145] 1, [], h, 198, sl) = some R) : R = (some (.int ((v70b q cc gc h).1)), (v70b q cc gc h).2, 198, sl) ∧ HC q cc gc ((v70b q cc gc h).2) ∧ frm [145] [(145, 3)] h ((v70b q cc gc h).2) := by
  have hcc := hw.cb
  have hgc := hw.gb
  have hzr := hw.zr
  obtain ⟨n, hh⟩ := rn_i rfl rfl rfl rfl hh
  have hh : pm_run PT n fr lo 70 (1, [some (.ref 145)], [.ref 145], h, 198, sl) = some R := hh
  obtain ⟨n, hh⟩ := rn_gi (x := Fi h 145 3) hw.wt rfl rfl (by decide) rfl (by decide) rfl rfl hh
  have hh : pm_run PT n fr lo 70 (4, [some (.ref 145)], [.int (Fi h 145 3)], h, 198, sl) = some R := hh
  obtain ⟨n, hh⟩ := en_zn (cc := .gt) (off := 5) (t := 9) (b := pm_cmp .gt (Fi h 145 3) 0) rfl rfl rfl hh
  cases z1 : pm_cmp .gt (Fi h 145 3) 0 with
  | true =>
    have hh := en_t z1 hh
    have hh : pm_run PT n fr lo 70 (9, [some (.ref 145)], [], h, 198, sl) = some R := hh
    obtain ⟨n, hh⟩ := rn_i rfl rfl rfl rfl hh
    obtain ⟨n, hh⟩ := rn_i rfl rfl rfl rfl hh
    have hh : pm_run PT n fr lo 70 (11, [some (.ref 145)], [.ref 145, .ref 145], h, 198, sl) = some R := hh
    obtain ⟨n, hh⟩ := rn_gi (x := Fi h 145 3) hw.wt rfl rfl (by decide) rfl (by decide) rfl rfl hh
    obtain ⟨n, hh⟩ := rn_i rfl rfl rfl rfl hh
    obtain ⟨n, hh⟩ := rn_i rfl rfl rfl rfl hh
    have hh : pm_run PT n fr lo 70 (16, [some (.ref 145)], [.int ((Fi h 145 3) - (nI 1)), .ref 145], h, 198, sl) = some R := hh
    obtain ⟨n, hh⟩ := rn_pi hw.wt rfl rfl (by decide) rfl (by decide) rfl hh
    obtain ⟨n, hh⟩ := rn_i rfl rfl rfl rfl hh
    have hh : pm_run PT n fr lo 70 (20, [some (.ref 145)], [.ref 145], fset h 145 3 (.int ((Fi h 145 3) - (nI 1))), 198, sl) = some R := hh
    obtain ⟨n, hh⟩ := rn_gr (hc_f rfl rfl (by decide) rfl hw).wt rfl rfl (by decide) rfl (by decide) (show _ = some (2, ((147 : Nat) : Int), 1) from rfl) rfl hh
    obtain ⟨n, hh⟩ := rn_i rfl rfl rfl rfl hh
    have hh : pm_run PT n fr lo 70 (24, [some (.ref 145)], [.ref 145, .ref 147], fset h 145 3 (.int ((Fi h 145 3) - (nI 1))), 198, sl) = some R := hh
    obtain ⟨n, hh⟩ := rn_gi (x := (Fi h 145 3) - (nI 1)) (hc_f rfl rfl (by decide) rfl hw).wt rfl rfl (by decide) rfl (by decide) rfl (Fi_s hw.wt (by decide) rfl (by decide) rfl) hh
    have hh : pm_run PT n fr lo 70 (27, [some (.ref 145)], [.int ((Fi h 145 3) - (nI 1)), .ref 147], fset h 145 3 (.int ((Fi h 145 3) - (nI 1))), 198, sl) = some R := hh
    obtain ⟨n, hx2, hh⟩ := en_lu (t := ((Fi h 145 3) - (nI 1)).toNatClampNeg) (f := Ar h 147) (w := (Ar h 147) (((Fi h 145 3) - (nI 1)).toNatClampNeg)) rfl (hc_f rfl rfl (by decide) rfl hw).wt rfl (by decide) rfl (by decide) (Ar_f.trans rfl) (fun _ => rfl) hh
    have hh : pm_run PT n fr lo 70 (28, [some (.ref 145)], [.int ((Ar h 147) (((Fi h 145 3) - (nI 1)).toNatClampNeg))], fset h 145 3 (.int ((Fi h 145 3) - (nI 1))), 198, sl) = some R := hh
    have er3 : R = (some (.int ((Ar h 147) (((Fi h 145 3) - (nI 1)).toNatClampNeg))), fset h 145 3 (.int ((Fi h 145 3) - (nI 1))), 198, sl) := (rn_ret rfl (Or.inl rfl) hh).2
    have ed : v70b q cc gc h = ((Ar h 147) (((Fi h 145 3) - (nI 1)).toNatClampNeg), fset h 145 3 (.int ((Fi h 145 3) - (nI 1)))) := (ct z1).trans rfl
    refine ⟨?_, ?_, ?_⟩ <;> rw [ed]
    · exact er3
    · exact (hc_f rfl rfl (by decide) rfl hw)
    · exact (fr_f rfl rfl fr_0)
  | false =>
    have hh := en_f z1 hh
    have hh : pm_run PT n fr lo 70 (7, [some (.ref 145)], [], h, 198, sl) = some R := hh
    obtain ⟨n, hh⟩ := rn_i rfl rfl rfl rfl hh
    have hh : pm_run PT n fr lo 70 (8, [some (.ref 145)], [.int (nI 0)], h, 198, sl) = some R := hh
    have er4 : R = (some (.int (nI 0)), h, 198, sl) := (rn_ret rfl (Or.inl rfl) hh).2
    have ed : v70b q cc gc h = (nI 0, h) := (cf z1).trans rfl
    refine ⟨?_, ?_, ?_⟩ <;> rw [ed]
    · exact er4
    · exact hw
    · exact fr_0
theorem v70b_fr {cc gc : Nat} {q : QT} {h : pm_H} (hw : HC q cc gc h) : HC q cc gc ((v70b q cc gc h).2) ∧ frm [145] [(145, 3)] h ((v70b q cc gc h).2) := by
  unfold v70b
  refine cd_s (P := fun (p : Int32 × pm_H) => HC q cc gc ((p).2) ∧ frm [145] [(145, 3)] h ((p).2)) (b := pm_cmp .gt (Fi h 145 3) 0) (fun _ => ?_) (fun _ => ?_)
  · show HC q cc gc (fset h 145 3 (.int ((Fi h 145 3) - (nI 1)))) ∧ frm [145] [(145, 3)] h (fset h 145 3 (.int ((Fi h 145 3) - (nI 1))))
    exact ⟨(hc_f rfl rfl (by decide) rfl hw), (fr_f rfl rfl fr_0)⟩
  · show HC q cc gc (h) ∧ frm [145] [(145, 3)] h (h)
    exact ⟨hw, fr_0⟩
def v68b_7b (q : QT) (cc gc : Nat) (h : pm_H) (z : Nat) (i : Nat) : pm_H := cond (pm_cmp .lt ((Ar h 146) i) 0) (cond (pm_cmp .lt (v67 q cc gc (-((Ar h 146) i))) 0) (cond (pm_cmp .ne ((Ar h 146) i) (Int32.ofInt (-126))) (v69b q cc gc ((v70b q cc gc ((v70b q cc gc h).2)).2) (v71 q cc gc (-((Ar h 146) i)) ((v70b q cc gc ((v70b q cc gc h).2)).1) ((v70b q cc gc h).1))) (v69b q cc gc ((v70b q cc gc h).2) (-((v70b q cc gc h).1)))) (cond (pm_cmp .ge (v67 q cc gc (-((Ar h 146) i))) (nI 7)) (cond (pm_cmp .ne ((Ar h 146) i) (Int32.ofInt (-126))) (v69b q cc gc ((v70b q cc gc ((v70b q cc gc h).2)).2) (v71 q cc gc (-((Ar h 146) i)) ((v70b q cc gc ((v70b q cc gc h).2)).1) ((v70b q cc gc h).1))) (v69b q cc gc ((v70b q cc gc h).2) (-((v70b q cc gc h).1)))) (v69b q cc gc h ((Ar h 12) ((v67 q cc gc (-((Ar h 146) i))).toNatClampNeg))))) (v69b q cc gc h ((Ar h 146) i))
def v68b_7 (q : QT) (cc gc : Nat) (z : Nat) (j i : Nat) (a : pm_H) : pm_H := lp (fun i a => v68b_7b q cc gc a z i) j i a
theorem v68b_7_e {n fr lo sl cc gc : Nat} {q : QT} {h : pm_H} {R : pm_Rs} {z : Nat} {i : Nat} {o3 : Option Value} {o4 : Option Value} {o5 : Option Value} (hw : HC q cc gc h) (hz : z ≤ 40) (e1 : Fi h 145 1 = nI z) (hi : z ≤ i) (hI : i < 1000000) (hh : pm_run PT n fr lo 68 (7, [some (.ref 145), some (.ref 12), some (.int (nI i)), o3, o4, o5], [], h, 198, sl) = some R) : ∃ m, pm_run PT m fr lo 68 (127, [some (.ref 145), some (.ref 12), some (.int (nI i)), o3, o4, o5], [], h, 198, sl) = some R := by
  have hcc := hw.cb
  have hgc := hw.gb
  have hzr := hw.zr
  obtain ⟨n, hh⟩ := rn_i rfl rfl rfl rfl hh
  obtain ⟨n, hh⟩ := rn_i rfl rfl rfl rfl hh
  have hh : pm_run PT n fr lo 68 (9, [some (.ref 145), some (.ref 12), some (.int (nI i)), o3, o4, o5], [.ref 145, .int (nI i)], h, 198, sl) = some R := hh
  obtain ⟨n, hh⟩ := rn_gi (x := nI z) hw.wt rfl rfl (by decide) rfl (by decide) rfl e1 hh
  have hh : pm_run PT n fr lo 68 (12, [some (.ref 145), some (.ref 12), some (.int (nI i)), o3, o4, o5], [.int (nI z), .int (nI i)], h, 198, sl) = some R := hh
  obtain ⟨n, hh⟩ := en_cn (cc := .ge) (off := 115) (t := 127) (b := decide (z ≤ i)) (hI_ge (by omega) (by omega)) rfl rfl hh
  have hh := en_t (show decide (z ≤ i) = true from decide_eq_true (by omega)) hh
  have hh : pm_run PT n fr lo 68 (127, [some (.ref 145), some (.ref 12), some (.int (nI i)), o3, o4, o5], [], h, 198, sl) = some R := hh
  exact ⟨n, hh⟩
theorem v68b_7_s {n fr lo sl cc gc : Nat} {q : QT} {h : pm_H} {R : pm_Rs} {z : Nat} {i : Nat} {o3 : Option Value} {o4 : Option Value} {o5 : Option Value} (hw : HC q cc gc h) (hz : z ≤ 40) (e1 : Fi h 145 1 = nI z) (hi : i < z) (hI : i < 1000000) (hh : pm_run PT n fr lo 68 (7, [some (.ref 145), some (.ref 12), some (.int (nI i)), o3, o4, o5], [], h, 198, sl) = some R) : ∃ m w3 w4 w5, HC q cc gc ((v68b_7b q cc gc h z i)) ∧ frm [145, 147] [(145, 3)] h ((v68b_7b q cc gc h z i)) ∧ Fi ((v68b_7b q cc gc h z i)) 145 1 = nI z ∧ pm_run PT m fr lo 68 (7, [some (.ref 145), some (.ref 12), some (.int (nI (i + 1))), w3, w4, w5], [], (v68b_7b q cc gc h z i), 198, sl) = some R := by
  have hcc := hw.cb
  have hgc := hw.gb
  have hzr := hw.zr
  obtain ⟨n, hh⟩ := rn_i rfl rfl rfl rfl hh
  obtain ⟨n, hh⟩ := rn_i rfl rfl rfl rfl hh
  have hh : pm_run PT n fr lo 68 (9, [some (.ref 145), some (.ref 12), some (.int (nI i)), o3, o4, o5], [.ref 145, .int (nI i)], h, 198, sl) = some R := hh
  obtain ⟨n, hh⟩ := rn_gi (x := nI z) hw.wt rfl rfl (by decide) rfl (by decide) rfl e1 hh
  have hh : pm_run PT n fr lo 68 (12, [some (.ref 145), some (.ref 12), some (.int (nI i)), o3, o4, o5], [.int (nI z), .int (nI i)], h, 198, sl) = some R := hh
  obtain ⟨n, hh⟩ := en_cn (cc := .ge) (off := 115) (t := 127) (b := decide (z ≤ i)) (hI_ge (by omega) (by omega)) rfl rfl hh
  have hh := en_f (show decide (z ≤ i) = false from decide_eq_false (by omega)) hh
  have hh : pm_run PT n fr lo 68 (15, [some (.ref 145), some (.ref 12), some (.int (nI i)), o3, o4, o5], [], h, 198, sl) = some R := hh
  obtain ⟨n, hh⟩ := rn_i rfl rfl rfl rfl hh
  have hh : pm_run PT n fr lo 68 (16, [some (.ref 145), some (.ref 12), some (.int (nI i)), o3, o4, o5], [.ref 145], h, 198, sl) = some R := hh
  obtain ⟨n, hh⟩ := rn_gr hw.wt rfl rfl (by decide) rfl (by decide) (show _ = some (2, ((146 : Nat) : Int), 1) from rfl) rfl hh
  obtain ⟨n, hh⟩ := rn_i rfl rfl rfl rfl hh
  have hh : pm_run PT n fr lo 68 (20, [some (.ref 145), some (.ref 12), some (.int (nI i)), o3, o4, o5], [.int (nI i), .ref 146], h, 198, sl) = some R := hh
  obtain ⟨n, hx1, hh⟩ := en_lu (t := i) (f := Ar h 146) (w := (Ar h 146) i) (nI_clamp (by omega)) hw.wt rfl (by decide) rfl (by decide) rfl (fun _ => rfl) hh
  obtain ⟨n, hh⟩ := rn_i rfl rfl rfl rfl hh
  have hh : pm_run PT n fr lo 68 (22, [some (.ref 145), some (.ref 12), some (.int (nI i)), o3, o4, o5], [.int (-((Ar h 146) i))], h, 198, sl) = some R := hh
  obtain ⟨n, fr1, lo1, r1, hh1, hh⟩ := rn_call (w := 2) (t := 67) rfl rfl hh
  have er2 := v67_ok (x := (-((Ar h 146) i))) hw hh1
  subst er2
  obtain ⟨n, hh⟩ := rn_i rfl rfl rfl rfl hh
  obtain ⟨n, hh⟩ := rn_i rfl rfl rfl rfl hh
  have hh : pm_run PT n fr lo 68 (27, [some (.ref 145), some (.ref 12), some (.int (nI i)), some (.int (v67 q cc gc (-((Ar h 146) i)))), o4, o5], [.ref 145], h, 198, sl) = some R := hh
  obtain ⟨n, hh⟩ := rn_gr hw.wt rfl rfl (by decide) rfl (by decide) (show _ = some (2, ((146 : Nat) : Int), 1) from rfl) rfl hh
  obtain ⟨n, hh⟩ := rn_i rfl rfl rfl rfl hh
  have hh : pm_run PT n fr lo 68 (31, [some (.ref 145), some (.ref 12), some (.int (nI i)), some (.int (v67 q cc gc (-((Ar h 146) i)))), o4, o5], [.int (nI i), .ref 146], h, 198, sl) = some R := hh
  obtain ⟨n, hx3, hh⟩ := en_lu (t := i) (f := Ar h 146) (w := (Ar h 146) i) (nI_clamp (by omega)) hw.wt rfl (by decide) rfl (by decide) rfl (fun _ => rfl) hh
  have hh : pm_run PT n fr lo 68 (32, [some (.ref 145), some (.ref 12), some (.int (nI i)), some (.int (v67 q cc gc (-((Ar h 146) i)))), o4, o5], [.int ((Ar h 146) i)], h, 198, sl) = some R := hh
  obtain ⟨n, hh⟩ := en_zn (cc := .lt) (off := 16) (t := 48) (b := pm_cmp .lt ((Ar h 146) i) 0) rfl rfl rfl hh
  cases z4 : pm_cmp .lt ((Ar h 146) i) 0 with
  | true =>
    have hh := en_t z4 hh
    have hh : pm_run PT n fr lo 68 (48, [some (.ref 145), some (.ref 12), some (.int (nI i)), some (.int (v67 q cc gc (-((Ar h 146) i)))), o4, o5], [], h, 198, sl) = some R := hh
    obtain ⟨n, hh⟩ := rn_i rfl rfl rfl rfl hh
    have hh : pm_run PT n fr lo 68 (49, [some (.ref 145), some (.ref 12), some (.int (nI i)), some (.int (v67 q cc gc (-((Ar h 146) i)))), o4, o5], [.int (v67 q cc gc (-((Ar h 146) i)))], h, 198, sl) = some R := hh
    obtain ⟨n, hh⟩ := en_zn (cc := .lt) (off := 19) (t := 68) (b := pm_cmp .lt (v67 q cc gc (-((Ar h 146) i))) 0) rfl rfl rfl hh
    cases z5 : pm_cmp .lt (v67 q cc gc (-((Ar h 146) i))) 0 with
    | true =>
      have hh := en_t z5 hh
      have hh : pm_run PT n fr lo 68 (68, [some (.ref 145), some (.ref 12), some (.int (nI i)), some (.int (v67 q cc gc (-((Ar h 146) i)))), o4, o5], [], h, 198, sl) = some R := hh
      obtain ⟨n, hh⟩ := rn_i rfl rfl rfl rfl hh
      have hh : pm_run PT n fr lo 68 (69, [some (.ref 145), some (.ref 12), some (.int (nI i)), some (.int (v67 q cc gc (-((Ar h 146) i)))), o4, o5], [.ref 145], h, 198, sl) = some R := hh
      obtain ⟨n, hh⟩ := rn_gr hw.wt rfl rfl (by decide) rfl (by decide) (show _ = some (2, ((146 : Nat) : Int), 1) from rfl) rfl hh
      obtain ⟨n, hh⟩ := rn_i rfl rfl rfl rfl hh
      have hh : pm_run PT n fr lo 68 (73, [some (.ref 145), some (.ref 12), some (.int (nI i)), some (.int (v67 q cc gc (-((Ar h 146) i)))), o4, o5], [.int (nI i), .ref 146], h, 198, sl) = some R := hh
      obtain ⟨n, hx6, hh⟩ := en_lu (t := i) (f := Ar h 146) (w := (Ar h 146) i) (nI_clamp (by omega)) hw.wt rfl (by decide) rfl (by decide) rfl (fun _ => rfl) hh
      obtain ⟨n, hh⟩ := rn_i rfl rfl rfl rfl hh
      have hh : pm_run PT n fr lo 68 (76, [some (.ref 145), some (.ref 12), some (.int (nI i)), some (.int (v67 q cc gc (-((Ar h 146) i)))), o4, o5], [.int (Int32.ofInt (-126)), .int ((Ar h 146) i)], h, 198, sl) = some R := hh
      obtain ⟨n, hh⟩ := en_cn (cc := .ne) (off := 15) (t := 91) (b := pm_cmp .ne ((Ar h 146) i) (Int32.ofInt (-126))) rfl rfl rfl hh
      cases z7 : pm_cmp .ne ((Ar h 146) i) (Int32.ofInt (-126)) with
      | true =>
        have hh := en_t z7 hh
        have hh : pm_run PT n fr lo 68 (91, [some (.ref 145), some (.ref 12), some (.int (nI i)), some (.int (v67 q cc gc (-((Ar h 146) i)))), o4, o5], [], h, 198, sl) = some R := hh
        obtain ⟨n, hh⟩ := rn_i rfl rfl rfl rfl hh
        have hh : pm_run PT n fr lo 68 (92, [some (.ref 145), some (.ref 12), some (.int (nI i)), some (.int (v67 q cc gc (-((Ar h 146) i)))), o4, o5], [.ref 145], h, 198, sl) = some R := hh
        obtain ⟨n, fr1, lo1, r1, hh1, hh⟩ := rn_call (w := 0) (t := 70) rfl rfl hh
        obtain ⟨er8, hc9, hf10⟩ := v70b_ok hw hh1
        subst er8
        obtain ⟨n, hh⟩ := rn_i rfl rfl rfl rfl hh
        obtain ⟨n, hh⟩ := rn_i rfl rfl rfl rfl hh
        have hh : pm_run PT n fr lo 68 (98, [some (.ref 145), some (.ref 12), some (.int (nI i)), some (.int (v67 q cc gc (-((Ar h 146) i)))), some (.int ((v70b q cc gc h).1)), o5], [.ref 145], (v70b q cc gc h).2, 198, sl) = some R := hh
        obtain ⟨n, fr1, lo1, r1, hh1, hh⟩ := rn_call (w := 0) (t := 70) rfl rfl hh
        obtain ⟨er11, hc12, hf13⟩ := v70b_ok hc9 hh1
        subst er11
        obtain ⟨n, hh⟩ := rn_i rfl rfl rfl rfl hh
        obtain ⟨n, hh⟩ := rn_i rfl rfl rfl rfl hh
        obtain ⟨n, hh⟩ := rn_i rfl rfl rfl rfl hh
        have hh : pm_run PT n fr lo 68 (105, [some (.ref 145), some (.ref 12), some (.int (nI i)), some (.int (v67 q cc gc (-((Ar h 146) i)))), some (.int ((v70b q cc gc h).1)), some (.int ((v70b q cc gc ((v70b q cc gc h).2)).1))], [.ref 145, .ref 145], (v70b q cc gc ((v70b q cc gc h).2)).2, 198, sl) = some R := hh
        obtain ⟨n, hh⟩ := rn_gr hc12.wt rfl rfl (by decide) rfl (by decide) (show _ = some (2, ((146 : Nat) : Int), 1) from rfl) rfl hh
        obtain ⟨n, hh⟩ := rn_i rfl rfl rfl rfl hh
        have hh : pm_run PT n fr lo 68 (109, [some (.ref 145), some (.ref 12), some (.int (nI i)), some (.int (v67 q cc gc (-((Ar h 146) i)))), some (.int ((v70b q cc gc h).1)), some (.int ((v70b q cc gc ((v70b q cc gc h).2)).1))], [.int (nI i), .ref 146, .ref 145], (v70b q cc gc ((v70b q cc gc h).2)).2, 198, sl) = some R := hh
        obtain ⟨n, hx14, hh⟩ := en_lu (t := i) (f := Ar h 146) (w := (Ar h 146) i) (nI_clamp (by omega)) hc12.wt rfl (by decide) rfl (by decide) ((Ar_e (hf13.1 146 rfl)).trans ((Ar_e (hf10.1 146 rfl)).trans rfl)) (fun _ => rfl) hh
        obtain ⟨n, hh⟩ := rn_i rfl rfl rfl rfl hh
        obtain ⟨n, hh⟩ := rn_i rfl rfl rfl rfl hh
        obtain ⟨n, hh⟩ := rn_i rfl rfl rfl rfl hh
        have hh : pm_run PT n fr lo 68 (115, [some (.ref 145), some (.ref 12), some (.int (nI i)), some (.int (v67 q cc gc (-((Ar h 146) i)))), some (.int ((v70b q cc gc h).1)), some (.int ((v70b q cc gc ((v70b q cc gc h).2)).1))], [.int ((v70b q cc gc h).1), .int ((v70b q cc gc ((v70b q cc gc h).2)).1), .int (-((Ar h 146) i)), .ref 145], (v70b q cc gc ((v70b q cc gc h).2)).2, 198, sl) = some R := hh
        obtain ⟨n, fr1, lo1, r1, hh1, hh⟩ := rn_call (w := 2) (t := 71) rfl rfl hh
        have er15 := v71_ok (s := (-((Ar h 146) i))) (a := ((v70b q cc gc ((v70b q cc gc h).2)).1)) (b := ((v70b q cc gc h).1)) hc12 hh1
        subst er15
        have hh : pm_run PT n fr lo 68 (118, [some (.ref 145), some (.ref 12), some (.int (nI i)), some (.int (v67 q cc gc (-((Ar h 146) i)))), some (.int ((v70b q cc gc h).1)), some (.int ((v70b q cc gc ((v70b q cc gc h).2)).1))], [.int (v71 q cc gc (-((Ar h 146) i)) ((v70b q cc gc ((v70b q cc gc h).2)).1) ((v70b q cc gc h).1)), .ref 145], (v70b q cc gc ((v70b q cc gc h).2)).2, 198, sl) = some R := hh
        obtain ⟨n, fr1, lo1, r1, hh1, hh⟩ := rn_call (w := 0) (t := 69) rfl rfl hh
        obtain ⟨er16, hc17, hf18⟩ := v69b_ok (v := (v71 q cc gc (-((Ar h 146) i)) ((v70b q cc gc ((v70b q cc gc h).2)).1) ((v70b q cc gc h).1))) hc12 hh1
        subst er16
        have hh : pm_run PT n fr lo 68 (121, [some (.ref 145), some (.ref 12), some (.int (nI i)), some (.int (v67 q cc gc (-((Ar h 146) i)))), some (.int ((v70b q cc gc h).1)), some (.int ((v70b q cc gc ((v70b q cc gc h).2)).1))], [], v69b q cc gc ((v70b q cc gc ((v70b q cc gc h).2)).2) (v71 q cc gc (-((Ar h 146) i)) ((v70b q cc gc ((v70b q cc gc h).2)).1) ((v70b q cc gc h).1)), 198, sl) = some R := hh
        obtain ⟨n, hh⟩ := en_inc (x := i) (c := 1) (j := 2) rfl rfl (by decide) hh
        have hh : pm_run PT n fr lo 68 (124, [some (.ref 145), some (.ref 12), some (.int (nI (i + 1))), some (.int (v67 q cc gc (-((Ar h 146) i)))), some (.int ((v70b q cc gc h).1)), some (.int ((v70b q cc gc ((v70b q cc gc h).2)).1))], [], v69b q cc gc ((v70b q cc gc ((v70b q cc gc h).2)).2) (v71 q cc gc (-((Ar h 146) i)) ((v70b q cc gc ((v70b q cc gc h).2)).1) ((v70b q cc gc h).1)), 198, sl) = some R := hh
        obtain ⟨n, hh⟩ := rn_i rfl rfl rfl rfl hh
        have ed : v68b_7b q cc gc h z i = v69b q cc gc ((v70b q cc gc ((v70b q cc gc h).2)).2) (v71 q cc gc (-((Ar h 146) i)) ((v70b q cc gc ((v70b q cc gc h).2)).1) ((v70b q cc gc h).1)) := (ct z4).trans ((ct z5).trans ((ct z7).trans rfl))
        rw [ed]
        exact ⟨n, some (.int (v67 q cc gc (-((Ar h 146) i)))), some (.int ((v70b q cc gc h).1)), some (.int ((v70b q cc gc ((v70b q cc gc h).2)).1)), hc17, (fr_g rfl rfl hf18 (fr_g rfl rfl hf13 (fr_g rfl rfl hf10 fr_0))), ((hf18.2 145 1 (by decide +kernel) rfl).trans ((hf13.2 145 1 (by decide +kernel) rfl).trans ((hf10.2 145 1 (by decide +kernel) rfl).trans e1))), hh⟩
      | false =>
        have hh := en_f z7 hh
        have hh : pm_run PT n fr lo 68 (79, [some (.ref 145), some (.ref 12), some (.int (nI i)), some (.int (v67 q cc gc (-((Ar h 146) i)))), o4, o5], [], h, 198, sl) = some R := hh
        obtain ⟨n, hh⟩ := rn_i rfl rfl rfl rfl hh
        obtain ⟨n, hh⟩ := rn_i rfl rfl rfl rfl hh
        have hh : pm_run PT n fr lo 68 (81, [some (.ref 145), some (.ref 12), some (.int (nI i)), some (.int (v67 q cc gc (-((Ar h 146) i)))), o4, o5], [.ref 145, .ref 145], h, 198, sl) = some R := hh
        obtain ⟨n, fr1, lo1, r1, hh1, hh⟩ := rn_call (w := 0) (t := 70) rfl rfl hh
        obtain ⟨er19, hc20, hf21⟩ := v70b_ok hw hh1
        subst er19
        obtain ⟨n, hh⟩ := rn_i rfl rfl rfl rfl hh
        have hh : pm_run PT n fr lo 68 (85, [some (.ref 145), some (.ref 12), some (.int (nI i)), some (.int (v67 q cc gc (-((Ar h 146) i)))), o4, o5], [.int (-((v70b q cc gc h).1)), .ref 145], (v70b q cc gc h).2, 198, sl) = some R := hh
        obtain ⟨n, fr1, lo1, r1, hh1, hh⟩ := rn_call (w := 0) (t := 69) rfl rfl hh
        obtain ⟨er22, hc23, hf24⟩ := v69b_ok (v := (-((v70b q cc gc h).1))) hc20 hh1
        subst er22
        obtain ⟨n, hh⟩ := rn_i rfl rfl rfl rfl hh
        have hh : pm_run PT n fr lo 68 (121, [some (.ref 145), some (.ref 12), some (.int (nI i)), some (.int (v67 q cc gc (-((Ar h 146) i)))), o4, o5], [], v69b q cc gc ((v70b q cc gc h).2) (-((v70b q cc gc h).1)), 198, sl) = some R := hh
        obtain ⟨n, hh⟩ := en_inc (x := i) (c := 1) (j := 2) rfl rfl (by decide) hh
        have hh : pm_run PT n fr lo 68 (124, [some (.ref 145), some (.ref 12), some (.int (nI (i + 1))), some (.int (v67 q cc gc (-((Ar h 146) i)))), o4, o5], [], v69b q cc gc ((v70b q cc gc h).2) (-((v70b q cc gc h).1)), 198, sl) = some R := hh
        obtain ⟨n, hh⟩ := rn_i rfl rfl rfl rfl hh
        have ed : v68b_7b q cc gc h z i = v69b q cc gc ((v70b q cc gc h).2) (-((v70b q cc gc h).1)) := (ct z4).trans ((ct z5).trans ((cf z7).trans rfl))
        rw [ed]
        exact ⟨n, some (.int (v67 q cc gc (-((Ar h 146) i)))), o4, o5, hc23, (fr_g rfl rfl hf24 (fr_g rfl rfl hf21 fr_0)), ((hf24.2 145 1 (by decide +kernel) rfl).trans ((hf21.2 145 1 (by decide +kernel) rfl).trans e1)), hh⟩
    | false =>
      have hh := en_f z5 hh
      have hh : pm_run PT n fr lo 68 (52, [some (.ref 145), some (.ref 12), some (.int (nI i)), some (.int (v67 q cc gc (-((Ar h 146) i)))), o4, o5], [], h, 198, sl) = some R := hh
      obtain ⟨n, hh⟩ := rn_i rfl rfl rfl rfl hh
      obtain ⟨n, hh⟩ := rn_i rfl rfl rfl rfl hh
      have hh : pm_run PT n fr lo 68 (54, [some (.ref 145), some (.ref 12), some (.int (nI i)), some (.int (v67 q cc gc (-((Ar h 146) i)))), o4, o5], [.ref 12, .int (v67 q cc gc (-((Ar h 146) i)))], h, 198, sl) = some R := hh
      obtain ⟨n, hh⟩ := en_al hw.wt rfl (by decide) rfl (by decide) rfl hh
      have hh : pm_run PT n fr lo 68 (55, [some (.ref 145), some (.ref 12), some (.int (nI i)), some (.int (v67 q cc gc (-((Ar h 146) i)))), o4, o5], [.int (nI 7), .int (v67 q cc gc (-((Ar h 146) i)))], h, 198, sl) = some R := hh
      obtain ⟨n, hh⟩ := en_cn (cc := .ge) (off := 13) (t := 68) (b := pm_cmp .ge (v67 q cc gc (-((Ar h 146) i))) (nI 7)) rfl rfl rfl hh
      cases z25 : pm_cmp .ge (v67 q cc gc (-((Ar h 146) i))) (nI 7) with
      | true =>
        have hh := en_t z25 hh
        have hh : pm_run PT n fr lo 68 (68, [some (.ref 145), some (.ref 12), some (.int (nI i)), some (.int (v67 q cc gc (-((Ar h 146) i)))), o4, o5], [], h, 198, sl) = some R := hh
        obtain ⟨n, hh⟩ := rn_i rfl rfl rfl rfl hh
        have hh : pm_run PT n fr lo 68 (69, [some (.ref 145), some (.ref 12), some (.int (nI i)), some (.int (v67 q cc gc (-((Ar h 146) i)))), o4, o5], [.ref 145], h, 198, sl) = some R := hh
        obtain ⟨n, hh⟩ := rn_gr hw.wt rfl rfl (by decide) rfl (by decide) (show _ = some (2, ((146 : Nat) : Int), 1) from rfl) rfl hh
        obtain ⟨n, hh⟩ := rn_i rfl rfl rfl rfl hh
        have hh : pm_run PT n fr lo 68 (73, [some (.ref 145), some (.ref 12), some (.int (nI i)), some (.int (v67 q cc gc (-((Ar h 146) i)))), o4, o5], [.int (nI i), .ref 146], h, 198, sl) = some R := hh
        obtain ⟨n, hx26, hh⟩ := en_lu (t := i) (f := Ar h 146) (w := (Ar h 146) i) (nI_clamp (by omega)) hw.wt rfl (by decide) rfl (by decide) rfl (fun _ => rfl) hh
        obtain ⟨n, hh⟩ := rn_i rfl rfl rfl rfl hh
        have hh : pm_run PT n fr lo 68 (76, [some (.ref 145), some (.ref 12), some (.int (nI i)), some (.int (v67 q cc gc (-((Ar h 146) i)))), o4, o5], [.int (Int32.ofInt (-126)), .int ((Ar h 146) i)], h, 198, sl) = some R := hh
        obtain ⟨n, hh⟩ := en_cn (cc := .ne) (off := 15) (t := 91) (b := pm_cmp .ne ((Ar h 146) i) (Int32.ofInt (-126))) rfl rfl rfl hh
        cases z27 : pm_cmp .ne ((Ar h 146) i) (Int32.ofInt (-126)) with
        | true =>
          have hh := en_t z27 hh
          have hh : pm_run PT n fr lo 68 (91, [some (.ref 145), some (.ref 12), some (.int (nI i)), some (.int (v67 q cc gc (-((Ar h 146) i)))), o4, o5], [], h, 198, sl) = some R := hh
          obtain ⟨n, hh⟩ := rn_i rfl rfl rfl rfl hh
          have hh : pm_run PT n fr lo 68 (92, [some (.ref 145), some (.ref 12), some (.int (nI i)), some (.int (v67 q cc gc (-((Ar h 146) i)))), o4, o5], [.ref 145], h, 198, sl) = some R := hh
          obtain ⟨n, fr1, lo1, r1, hh1, hh⟩ := rn_call (w := 0) (t := 70) rfl rfl hh
          obtain ⟨er28, hc29, hf30⟩ := v70b_ok hw hh1
          subst er28
          obtain ⟨n, hh⟩ := rn_i rfl rfl rfl rfl hh
          obtain ⟨n, hh⟩ := rn_i rfl rfl rfl rfl hh
          have hh : pm_run PT n fr lo 68 (98, [some (.ref 145), some (.ref 12), some (.int (nI i)), some (.int (v67 q cc gc (-((Ar h 146) i)))), some (.int ((v70b q cc gc h).1)), o5], [.ref 145], (v70b q cc gc h).2, 198, sl) = some R := hh
          obtain ⟨n, fr1, lo1, r1, hh1, hh⟩ := rn_call (w := 0) (t := 70) rfl rfl hh
          obtain ⟨er31, hc32, hf33⟩ := v70b_ok hc29 hh1
          subst er31
          obtain ⟨n, hh⟩ := rn_i rfl rfl rfl rfl hh
          obtain ⟨n, hh⟩ := rn_i rfl rfl rfl rfl hh
          obtain ⟨n, hh⟩ := rn_i rfl rfl rfl rfl hh
          have hh : pm_run PT n fr lo 68 (105, [some (.ref 145), some (.ref 12), some (.int (nI i)), some (.int (v67 q cc gc (-((Ar h 146) i)))), some (.int ((v70b q cc gc h).1)), some (.int ((v70b q cc gc ((v70b q cc gc h).2)).1))], [.ref 145, .ref 145], (v70b q cc gc ((v70b q cc gc h).2)).2, 198, sl) = some R := hh
          obtain ⟨n, hh⟩ := rn_gr hc32.wt rfl rfl (by decide) rfl (by decide) (show _ = some (2, ((146 : Nat) : Int), 1) from rfl) rfl hh
          obtain ⟨n, hh⟩ := rn_i rfl rfl rfl rfl hh
          have hh : pm_run PT n fr lo 68 (109, [some (.ref 145), some (.ref 12), some (.int (nI i)), some (.int (v67 q cc gc (-((Ar h 146) i)))), some (.int ((v70b q cc gc h).1)), some (.int ((v70b q cc gc ((v70b q cc gc h).2)).1))], [.int (nI i), .ref 146, .ref 145], (v70b q cc gc ((v70b q cc gc h).2)).2, 198, sl) = some R := hh
          obtain ⟨n, hx34, hh⟩ := en_lu (t := i) (f := Ar h 146) (w := (Ar h 146) i) (nI_clamp (by omega)) hc32.wt rfl (by decide) rfl (by decide) ((Ar_e (hf33.1 146 rfl)).trans ((Ar_e (hf30.1 146 rfl)).trans rfl)) (fun _ => rfl) hh
          obtain ⟨n, hh⟩ := rn_i rfl rfl rfl rfl hh
          obtain ⟨n, hh⟩ := rn_i rfl rfl rfl rfl hh
          obtain ⟨n, hh⟩ := rn_i rfl rfl rfl rfl hh
          have hh : pm_run PT n fr lo 68 (115, [some (.ref 145), some (.ref 12), some (.int (nI i)), some (.int (v67 q cc gc (-((Ar h 146) i)))), some (.int ((v70b q cc gc h).1)), some (.int ((v70b q cc gc ((v70b q cc gc h).2)).1))], [.int ((v70b q cc gc h).1), .int ((v70b q cc gc ((v70b q cc gc h).2)).1), .int (-((Ar h 146) i)), .ref 145], (v70b q cc gc ((v70b q cc gc h).2)).2, 198, sl) = some R := hh
          obtain ⟨n, fr1, lo1, r1, hh1, hh⟩ := rn_call (w := 2) (t := 71) rfl rfl hh
          have er35 := v71_ok (s := (-((Ar h 146) i))) (a := ((v70b q cc gc ((v70b q cc gc h).2)).1)) (b := ((v70b q cc gc h).1)) hc32 hh1
          subst er35
          have hh : pm_run PT n fr lo 68 (118, [some (.ref 145), some (.ref 12), some (.int (nI i)), some (.int (v67 q cc gc (-((Ar h 146) i)))), some (.int ((v70b q cc gc h).1)), some (.int ((v70b q cc gc ((v70b q cc gc h).2)).1))], [.int (v71 q cc gc (-((Ar h 146) i)) ((v70b q cc gc ((v70b q cc gc h).2)).1) ((v70b q cc gc h).1)), .ref 145], (v70b q cc gc ((v70b q cc gc h).2)).2, 198, sl) = some R := hh
          obtain ⟨n, fr1, lo1, r1, hh1, hh⟩ := rn_call (w := 0) (t := 69) rfl rfl hh
          obtain ⟨er36, hc37, hf38⟩ := v69b_ok (v := (v71 q cc gc (-((Ar h 146) i)) ((v70b q cc gc ((v70b q cc gc h).2)).1) ((v70b q cc gc h).1))) hc32 hh1
          subst er36
          have hh : pm_run PT n fr lo 68 (121, [some (.ref 145), some (.ref 12), some (.int (nI i)), some (.int (v67 q cc gc (-((Ar h 146) i)))), some (.int ((v70b q cc gc h).1)), some (.int ((v70b q cc gc ((v70b q cc gc h).2)).1))], [], v69b q cc gc ((v70b q cc gc ((v70b q cc gc h).2)).2) (v71 q cc gc (-((Ar h 146) i)) ((v70b q cc gc ((v70b q cc gc h).2)).1) ((v70b q cc gc h).1)), 198, sl) = some R := hh
          obtain ⟨n, hh⟩ := en_inc (x := i) (c := 1) (j := 2) rfl rfl (by decide) hh
          have hh : pm_run PT n fr lo 68 (124, [some (.ref 145), some (.ref 12), some (.int (nI (i + 1))), some (.int (v67 q cc gc (-((Ar h 146) i)))), some (.int ((v70b q cc gc h).1)), some (.int ((v70b q cc gc ((v70b q cc gc h).2)).1))], [], v69b q cc gc ((v70b q cc gc ((v70b q cc gc h).2)).2) (v71 q cc gc (-((Ar h 146) i)) ((v70b q cc gc ((v70b q cc gc h).2)).1) ((v70b q cc gc h).1)), 198, sl) = some R := hh
          obtain ⟨n, hh⟩ := rn_i rfl rfl rfl rfl hh
          have ed : v68b_7b q cc gc h z i = v69b q cc gc ((v70b q cc gc ((v70b q cc gc h).2)).2) (v71 q cc gc (-((Ar h 146) i)) ((v70b q cc gc ((v70b q cc gc h).2)).1) ((v70b q cc gc h).1)) := (ct z4).trans ((cf z5).trans ((ct z25).trans ((ct z27).trans rfl)))
          rw [ed]
          exact ⟨n, some (.int (v67 q cc gc (-((Ar h 146) i)))), some (.int ((v70b q cc gc h).1)), some (.int ((v70b q cc gc ((v70b q cc gc h).2)).1)), hc37, (fr_g rfl rfl hf38 (fr_g rfl rfl hf33 (fr_g rfl rfl hf30 fr_0))), ((hf38.2 145 1 (by decide +kernel) rfl).trans ((hf33.2 145 1 (by decide +kernel) rfl).trans ((hf30.2 145 1 (by decide +kernel) rfl).trans e1))), hh⟩
        | false =>
          have hh := en_f z27 hh
          have hh : pm_run PT n fr lo 68 (79, [some (.ref 145), some (.ref 12), some (.int (nI i)), some (.int (v67 q cc gc (-((Ar h 146) i)))), o4, o5], [], h, 198, sl) = some R := hh
          obtain ⟨n, hh⟩ := rn_i rfl rfl rfl rfl hh
          obtain ⟨n, hh⟩ := rn_i rfl rfl rfl rfl hh
          have hh : pm_run PT n fr lo 68 (81, [some (.ref 145), some (.ref 12), some (.int (nI i)), some (.int (v67 q cc gc (-((Ar h 146) i)))), o4, o5], [.ref 145, .ref 145], h, 198, sl) = some R := hh
          obtain ⟨n, fr1, lo1, r1, hh1, hh⟩ := rn_call (w := 0) (t := 70) rfl rfl hh
          obtain ⟨er39, hc40, hf41⟩ := v70b_ok hw hh1
          subst er39
          obtain ⟨n, hh⟩ := rn_i rfl rfl rfl rfl hh
          have hh : pm_run PT n fr lo 68 (85, [some (.ref 145), some (.ref 12), some (.int (nI i)), some (.int (v67 q cc gc (-((Ar h 146) i)))), o4, o5], [.int (-((v70b q cc gc h).1)), .ref 145], (v70b q cc gc h).2, 198, sl) = some R := hh
          obtain ⟨n, fr1, lo1, r1, hh1, hh⟩ := rn_call (w := 0) (t := 69) rfl rfl hh
          obtain ⟨er42, hc43, hf44⟩ := v69b_ok (v := (-((v70b q cc gc h).1))) hc40 hh1
          subst er42
          obtain ⟨n, hh⟩ := rn_i rfl rfl rfl rfl hh
          have hh : pm_run PT n fr lo 68 (121, [some (.ref 145), some (.ref 12), some (.int (nI i)), some (.int (v67 q cc gc (-((Ar h 146) i)))), o4, o5], [], v69b q cc gc ((v70b q cc gc h).2) (-((v70b q cc gc h).1)), 198, sl) = some R := hh
          obtain ⟨n, hh⟩ := en_inc (x := i) (c := 1) (j := 2) rfl rfl (by decide) hh
          have hh : pm_run PT n fr lo 68 (124, [some (.ref 145), some (.ref 12), some (.int (nI (i + 1))), some (.int (v67 q cc gc (-((Ar h 146) i)))), o4, o5], [], v69b q cc gc ((v70b q cc gc h).2) (-((v70b q cc gc h).1)), 198, sl) = some R := hh
          obtain ⟨n, hh⟩ := rn_i rfl rfl rfl rfl hh
          have ed : v68b_7b q cc gc h z i = v69b q cc gc ((v70b q cc gc h).2) (-((v70b q cc gc h).1)) := (ct z4).trans ((cf z5).trans ((ct z25).trans ((cf z27).trans rfl)))
          rw [ed]
          exact ⟨n, some (.int (v67 q cc gc (-((Ar h 146) i)))), o4, o5, hc43, (fr_g rfl rfl hf44 (fr_g rfl rfl hf41 fr_0)), ((hf44.2 145 1 (by decide +kernel) rfl).trans ((hf41.2 145 1 (by decide +kernel) rfl).trans e1)), hh⟩
      | false =>
        have hh := en_f z25 hh
        have hh : pm_run PT n fr lo 68 (58, [some (.ref 145), some (.ref 12), some (.int (nI i)), some (.int (v67 q cc gc (-((Ar h 146) i)))), o4, o5], [], h, 198, sl) = some R := hh
        obtain ⟨n, hh⟩ := rn_i rfl rfl rfl rfl hh
        obtain ⟨n, hh⟩ := rn_i rfl rfl rfl rfl hh
        obtain ⟨n, hh⟩ := rn_i rfl rfl rfl rfl hh
        have hh : pm_run PT n fr lo 68 (61, [some (.ref 145), some (.ref 12), some (.int (nI i)), some (.int (v67 q cc gc (-((Ar h 146) i)))), o4, o5], [.int (v67 q cc gc (-((Ar h 146) i))), .ref 12, .ref 145], h, 198, sl) = some R := hh
        obtain ⟨n, hx45, hh⟩ := en_lu (t := (v67 q cc gc (-((Ar h 146) i))).toNatClampNeg) (f := Ar h 12) (w := (Ar h 12) ((v67 q cc gc (-((Ar h 146) i))).toNatClampNeg)) rfl hw.wt rfl (by decide) rfl (by decide) rfl (fun _ => rfl) hh
        have hh : pm_run PT n fr lo 68 (62, [some (.ref 145), some (.ref 12), some (.int (nI i)), some (.int (v67 q cc gc (-((Ar h 146) i)))), o4, o5], [.int ((Ar h 12) ((v67 q cc gc (-((Ar h 146) i))).toNatClampNeg)), .ref 145], h, 198, sl) = some R := hh
        obtain ⟨n, fr1, lo1, r1, hh1, hh⟩ := rn_call (w := 0) (t := 69) rfl rfl hh
        obtain ⟨er46, hc47, hf48⟩ := v69b_ok (v := ((Ar h 12) ((v67 q cc gc (-((Ar h 146) i))).toNatClampNeg))) hw hh1
        subst er46
        obtain ⟨n, hh⟩ := rn_i rfl rfl rfl rfl hh
        have hh : pm_run PT n fr lo 68 (121, [some (.ref 145), some (.ref 12), some (.int (nI i)), some (.int (v67 q cc gc (-((Ar h 146) i)))), o4, o5], [], v69b q cc gc h ((Ar h 12) ((v67 q cc gc (-((Ar h 146) i))).toNatClampNeg)), 198, sl) = some R := hh
        obtain ⟨n, hh⟩ := en_inc (x := i) (c := 1) (j := 2) rfl rfl (by decide) hh
        have hh : pm_run PT n fr lo 68 (124, [some (.ref 145), some (.ref 12), some (.int (nI (i + 1))), some (.int (v67 q cc gc (-((Ar h 146) i)))), o4, o5], [], v69b q cc gc h ((Ar h 12) ((v67 q cc gc (-((Ar h 146) i))).toNatClampNeg)), 198, sl) = some R := hh
        obtain ⟨n, hh⟩ := rn_i rfl rfl rfl rfl hh
        have ed : v68b_7b q cc gc h z i = v69b q cc gc h ((Ar h 12) ((v67 q cc gc (-((Ar h 146) i))).toNatClampNeg)) := (ct z4).trans ((cf z5).trans ((cf z25).trans rfl))
        rw [ed]
        exact ⟨n, some (.int (v67 q cc gc (-((Ar h 146) i)))), o4, o5, hc47, (fr_g rfl rfl hf48 fr_0), ((hf48.2 145 1 (by decide +kernel) rfl).trans e1), hh⟩
  | false =>
    have hh := en_f z4 hh
    have hh : pm_run PT n fr lo 68 (35, [some (.ref 145), some (.ref 12), some (.int (nI i)), some (.int (v67 q cc gc (-((Ar h 146) i)))), o4, o5], [], h, 198, sl) = some R := hh
    obtain ⟨n, hh⟩ := rn_i rfl rfl rfl rfl hh
    obtain ⟨n, hh⟩ := rn_i rfl rfl rfl rfl hh
    have hh : pm_run PT n fr lo 68 (37, [some (.ref 145), some (.ref 12), some (.int (nI i)), some (.int (v67 q cc gc (-((Ar h 146) i)))), o4, o5], [.ref 145, .ref 145], h, 198, sl) = some R := hh
    obtain ⟨n, hh⟩ := rn_gr hw.wt rfl rfl (by decide) rfl (by decide) (show _ = some (2, ((146 : Nat) : Int), 1) from rfl) rfl hh
    obtain ⟨n, hh⟩ := rn_i rfl rfl rfl rfl hh
    have hh : pm_run PT n fr lo 68 (41, [some (.ref 145), some (.ref 12), some (.int (nI i)), some (.int (v67 q cc gc (-((Ar h 146) i)))), o4, o5], [.int (nI i), .ref 146, .ref 145], h, 198, sl) = some R := hh
    obtain ⟨n, hx49, hh⟩ := en_lu (t := i) (f := Ar h 146) (w := (Ar h 146) i) (nI_clamp (by omega)) hw.wt rfl (by decide) rfl (by decide) rfl (fun _ => rfl) hh
    have hh : pm_run PT n fr lo 68 (42, [some (.ref 145), some (.ref 12), some (.int (nI i)), some (.int (v67 q cc gc (-((Ar h 146) i)))), o4, o5], [.int ((Ar h 146) i), .ref 145], h, 198, sl) = some R := hh
    obtain ⟨n, fr1, lo1, r1, hh1, hh⟩ := rn_call (w := 0) (t := 69) rfl rfl hh
    obtain ⟨er50, hc51, hf52⟩ := v69b_ok (v := ((Ar h 146) i)) hw hh1
    subst er50
    obtain ⟨n, hh⟩ := rn_i rfl rfl rfl rfl hh
    have hh : pm_run PT n fr lo 68 (121, [some (.ref 145), some (.ref 12), some (.int (nI i)), some (.int (v67 q cc gc (-((Ar h 146) i)))), o4, o5], [], v69b q cc gc h ((Ar h 146) i), 198, sl) = some R := hh
    obtain ⟨n, hh⟩ := en_inc (x := i) (c := 1) (j := 2) rfl rfl (by decide) hh
    have hh : pm_run PT n fr lo 68 (124, [some (.ref 145), some (.ref 12), some (.int (nI (i + 1))), some (.int (v67 q cc gc (-((Ar h 146) i)))), o4, o5], [], v69b q cc gc h ((Ar h 146) i), 198, sl) = some R := hh
    obtain ⟨n, hh⟩ := rn_i rfl rfl rfl rfl hh
    have ed : v68b_7b q cc gc h z i = v69b q cc gc h ((Ar h 146) i) := (cf z4).trans rfl
    rw [ed]
    exact ⟨n, some (.int (v67 q cc gc (-((Ar h 146) i)))), o4, o5, hc51, (fr_g rfl rfl hf52 fr_0), ((hf52.2 145 1 (by decide +kernel) rfl).trans e1), hh⟩
theorem v68b_7_ok {fr lo sl cc gc : Nat} {q : QT} {R : pm_Rs} {z : Nat} : ∀ {j i : Nat} {o3 : Option Value} {o4 : Option Value} {o5 : Option Value} {h : pm_H} {n : Nat}, z - i = j → i + j < 1000000 → HC q cc gc h → z ≤ 40 → Fi h 145 1 = nI z → pm_run PT n fr lo 68 (7, [some (.ref 145), some (.ref 12), some (.int (nI i)), o3, o4, o5], [], h, 198, sl) = some R → ∃ m wc w3 w4 w5, HC q cc gc ((v68b_7 q cc gc z j i h)) ∧ frm [145, 147] [(145, 3)] h ((v68b_7 q cc gc z j i h)) ∧ Fi ((v68b_7 q cc gc z j i h)) 145 1 = nI z ∧ pm_run PT m fr lo 68 (127, [some (.ref 145), some (.ref 12), wc, w3, w4, w5], [], (v68b_7 q cc gc z j i h), 198, sl) = some R := by
  intro j
  induction j with
  | zero =>
    intro i o3 o4 o5 h n e eI hw hz e1 hh
    obtain ⟨n, hh⟩ := v68b_7_e hw hz e1 (by omega) (by omega) hh
    exact ⟨n, _, o3, o4, o5, hw, fr_0, e1, hh⟩
  | succ j ih =>
    intro i o3 o4 o5 h n e eI hw hz e1 hh
    obtain ⟨n, w3, w4, w5, hc, hf, e1', hh⟩ := v68b_7_s hw hz e1 (by omega) (by omega) hh
    obtain ⟨n, wc, v3, v4, v5, hc2, hf2, e1'', hh⟩ := ih (by omega) (by omega) hc hz e1' hh
    exact ⟨n, wc, v3, v4, v5, hc2, fr_t hf2 hf, e1'', hh⟩
theorem v68b_7_fb {cc gc : Nat} {q : QT} {h : pm_H} {z : Nat} {i : Nat} (hw : HC q cc gc h) (hz : z ≤ 40) : HC q cc gc ((v68b_7b q cc gc h z i)) ∧ frm [145, 147] [(145, 3)] h ((v68b_7b q cc gc h z i)) := by
  unfold v68b_7b
  refine cd_s (P := fun (p : pm_H) => HC q cc gc ((p)) ∧ frm [145, 147] [(145, 3)] h ((p))) (b := pm_cmp .lt ((Ar h 146) i) 0) (fun _ => ?_) (fun _ => ?_)
  · refine cd_s (P := fun (p : pm_H) => HC q cc gc ((p)) ∧ frm [145, 147] [(145, 3)] h ((p))) (b := pm_cmp .lt (v67 q cc gc (-((Ar h 146) i))) 0) (fun _ => ?_) (fun _ => ?_)
    · refine cd_s (P := fun (p : pm_H) => HC q cc gc ((p)) ∧ frm [145, 147] [(145, 3)] h ((p))) (b := pm_cmp .ne ((Ar h 146) i) (Int32.ofInt (-126))) (fun _ => ?_) (fun _ => ?_)
      · show HC q cc gc (v69b q cc gc ((v70b q cc gc ((v70b q cc gc h).2)).2) (v71 q cc gc (-((Ar h 146) i)) ((v70b q cc gc ((v70b q cc gc h).2)).1) ((v70b q cc gc h).1))) ∧ frm [145, 147] [(145, 3)] h (v69b q cc gc ((v70b q cc gc ((v70b q cc gc h).2)).2) (v71 q cc gc (-((Ar h 146) i)) ((v70b q cc gc ((v70b q cc gc h).2)).1) ((v70b q cc gc h).1)))
        exact ⟨(v69b_fr (v := (v71 q cc gc (-((Ar h 146) i)) ((v70b q cc gc ((v70b q cc gc h).2)).1) ((v70b q cc gc h).1))) (v70b_fr (v70b_fr hw).1).1).1, (fr_g rfl rfl (v69b_fr (v := (v71 q cc gc (-((Ar h 146) i)) ((v70b q cc gc ((v70b q cc gc h).2)).1) ((v70b q cc gc h).1))) (v70b_fr (v70b_fr hw).1).1).2 (fr_g rfl rfl (v70b_fr (v70b_fr hw).1).2 (fr_g rfl rfl (v70b_fr hw).2 fr_0)))⟩
      · show HC q cc gc (v69b q cc gc ((v70b q cc gc h).2) (-((v70b q cc gc h).1))) ∧ frm [145, 147] [(145, 3)] h (v69b q cc gc ((v70b q cc gc h).2) (-((v70b q cc gc h).1)))
        exact ⟨(v69b_fr (v := (-((v70b q cc gc h).1))) (v70b_fr hw).1).1, (fr_g rfl rfl (v69b_fr (v := (-((v70b q cc gc h).1))) (v70b_fr hw).1).2 (fr_g rfl rfl (v70b_fr hw).2 fr_0))⟩
    · refine cd_s (P := fun (p : pm_H) => HC q cc gc ((p)) ∧ frm [145, 147] [(145, 3)] h ((p))) (b := pm_cmp .ge (v67 q cc gc (-((Ar h 146) i))) (nI 7)) (fun _ => ?_) (fun _ => ?_)
      · refine cd_s (P := fun (p : pm_H) => HC q cc gc ((p)) ∧ frm [145, 147] [(145, 3)] h ((p))) (b := pm_cmp .ne ((Ar h 146) i) (Int32.ofInt (-126))) (fun _ => ?_) (fun _ => ?_)
        · show HC q cc gc (v69b q cc gc ((v70b q cc gc ((v70b q cc gc h).2)).2) (v71 q cc gc (-((Ar h 146) i)) ((v70b q cc gc ((v70b q cc gc h).2)).1) ((v70b q cc gc h).1))) ∧ frm [145, 147] [(145, 3)] h (v69b q cc gc ((v70b q cc gc ((v70b q cc gc h).2)).2) (v71 q cc gc (-((Ar h 146) i)) ((v70b q cc gc ((v70b q cc gc h).2)).1) ((v70b q cc gc h).1)))
          exact ⟨(v69b_fr (v := (v71 q cc gc (-((Ar h 146) i)) ((v70b q cc gc ((v70b q cc gc h).2)).1) ((v70b q cc gc h).1))) (v70b_fr (v70b_fr hw).1).1).1, (fr_g rfl rfl (v69b_fr (v := (v71 q cc gc (-((Ar h 146) i)) ((v70b q cc gc ((v70b q cc gc h).2)).1) ((v70b q cc gc h).1))) (v70b_fr (v70b_fr hw).1).1).2 (fr_g rfl rfl (v70b_fr (v70b_fr hw).1).2 (fr_g rfl rfl (v70b_fr hw).2 fr_0)))⟩
        · show HC q cc gc (v69b q cc gc ((v70b q cc gc h).2) (-((v70b q cc gc h).1))) ∧ frm [145, 147] [(145, 3)] h (v69b q cc gc ((v70b q cc gc h).2) (-((v70b q cc gc h).1)))
          exact ⟨(v69b_fr (v := (-((v70b q cc gc h).1))) (v70b_fr hw).1).1, (fr_g rfl rfl (v69b_fr (v := (-((v70b q cc gc h).1))) (v70b_fr hw).1).2 (fr_g rfl rfl (v70b_fr hw).2 fr_0))⟩
      · show HC q cc gc (v69b q cc gc h ((Ar h 12) ((v67 q cc gc (-((Ar h 146) i))).toNatClampNeg))) ∧ frm [145, 147] [(145, 3)] h (v69b q cc gc h ((Ar h 12) ((v67 q cc gc (-((Ar h 146) i))).toNatClampNeg)))
        exact ⟨(v69b_fr (v := ((Ar h 12) ((v67 q cc gc (-((Ar h 146) i))).toNatClampNeg))) hw).1, (fr_g rfl rfl (v69b_fr (v := ((Ar h 12) ((v67 q cc gc (-((Ar h 146) i))).toNatClampNeg))) hw).2 fr_0)⟩
  · show HC q cc gc (v69b q cc gc h ((Ar h 146) i)) ∧ frm [145, 147] [(145, 3)] h (v69b q cc gc h ((Ar h 146) i))
    exact ⟨(v69b_fr (v := ((Ar h 146) i)) hw).1, (fr_g rfl rfl (v69b_fr (v := ((Ar h 146) i)) hw).2 fr_0)⟩
theorem v68b_7_fr {cc gc : Nat} {q : QT} {z : Nat} (hz : z ≤ 40) : ∀ {j i : Nat} {h : pm_H}, HC q cc gc h → HC q cc gc ((v68b_7 q cc gc z j i h)) ∧ frm [145, 147] [(145, 3)] h ((v68b_7 q cc gc z j i h)) := by
  intro j
  induction j with
  | zero =>
    intro i h hw
    exact ⟨hw, fr_0⟩
  | succ j ih =>
    intro i h hw
    obtain ⟨a1, a2⟩ := v68b_7_fb (i := i) (z := z) hw hz
    obtain ⟨b1, b2⟩ := ih (i := i + 1) a1
    exact ⟨b1, fr_t b2 a2⟩
def v68b (q : QT) (cc gc : Nat) (h : pm_H) (z : Nat) : Int32 × pm_H := ((v70b q cc gc (v68b_7 q cc gc z z 0 (fset h 145 3 (.int (nI 0))))).1, (v70b q cc gc (v68b_7 q cc gc z z 0 (fset h 145 3 (.int (nI 0))))).2)
theorem v68b_ok {n fr lo sl cc gc : Nat} {q : QT} {h : pm_H} {R : pm_Rs} {z : Nat} (hw : HC q cc gc h) (hz : z ≤ 40) (e1 : Fi h 145 1 = nI z) (hh : pm_run PT n fr lo 68 (0, pm_l0 [.ref 145, .ref 12] 6, [], h, 198, sl) = some R) : R = (some (.int ((v68b q cc gc h z).1)), (v68b q cc gc h z).2, 198, sl) ∧ HC q cc gc ((v68b q cc gc h z).2) ∧ frm [145, 147] [(145, 3)] h ((v68b q cc gc h z).2) := by
  have hcc := hw.cb
  have hgc := hw.gb
  have hzr := hw.zr
  obtain ⟨n, hh⟩ := rn_i rfl rfl rfl rfl hh
  obtain ⟨n, hh⟩ := rn_i rfl rfl rfl rfl hh
  have hh : pm_run PT n fr lo 68 (2, [some (.ref 145), some (.ref 12), none, none, none, none], [.int (nI 0), .ref 145], h, 198, sl) = some R := hh
  obtain ⟨n, hh⟩ := rn_pi hw.wt rfl rfl (by decide) rfl (by decide) rfl hh
  obtain ⟨n, hh⟩ := rn_i rfl rfl rfl rfl hh
  obtain ⟨n, hh⟩ := rn_i rfl rfl rfl rfl hh
  have hh : pm_run PT n fr lo 68 (7, [some (.ref 145), some (.ref 12), some (.int (nI 0)), none, none, none], [], fset h 145 3 (.int (nI 0)), 198, sl) = some R := hh
  obtain ⟨n, u4, u1, u2, u3, hc5, hf6, _, hh⟩ := v68b_7_ok  (i := 0) (o3 := none) (o4 := none) (o5 := none) (j := z) (by omega) (by omega) (hc_f rfl rfl (by decide) rfl hw) hz ((Fi_n (Or.inr (by decide))).trans e1) hh
  have hh : pm_run PT n fr lo 68 (127, [some (.ref 145), some (.ref 12), u4, u1, u2, u3], [], (v68b_7 q cc gc z z 0 (fset h 145 3 (.int (nI 0)))), 198, sl) = some R := hh
  obtain ⟨n, hh⟩ := rn_i rfl rfl rfl rfl hh
  have hh : pm_run PT n fr lo 68 (128, [some (.ref 145), some (.ref 12), u4, u1, u2, u3], [.ref 145], (v68b_7 q cc gc z z 0 (fset h 145 3 (.int (nI 0)))), 198, sl) = some R := hh
  obtain ⟨n, fr1, lo1, r1, hh1, hh⟩ := rn_call (w := 0) (t := 70) rfl rfl hh
  obtain ⟨er7, hc8, hf9⟩ := v70b_ok hc5 hh1
  subst er7
  have hh : pm_run PT n fr lo 68 (131, [some (.ref 145), some (.ref 12), u4, u1, u2, u3], [.int ((v70b q cc gc (v68b_7 q cc gc z z 0 (fset h 145 3 (.int (nI 0))))).1)], (v70b q cc gc (v68b_7 q cc gc z z 0 (fset h 145 3 (.int (nI 0))))).2, 198, sl) = some R := hh
  have er10 : R = (some (.int ((v70b q cc gc (v68b_7 q cc gc z z 0 (fset h 145 3 (.int (nI 0))))).1)), (v70b q cc gc (v68b_7 q cc gc z z 0 (fset h 145 3 (.int (nI 0))))).2, 198, sl) := (rn_ret rfl (Or.inl rfl) hh).2
  have ed : v68b q cc gc h z = ((v70b q cc gc (v68b_7 q cc gc z z 0 (fset h 145 3 (.int (nI 0))))).1, (v70b q cc gc (v68b_7 q cc gc z z 0 (fset h 145 3 (.int (nI 0))))).2) := rfl
  refine ⟨?_, ?_, ?_⟩ <;> rw [ed]
  · exact er10
  · exact hc8
  · exact (fr_g rfl rfl hf9 (fr_g rfl rfl hf6 (fr_f rfl rfl fr_0)))
theorem v68b_fr {cc gc : Nat} {q : QT} {h : pm_H} {z : Nat} (hw : HC q cc gc h) (hz : z ≤ 40) : HC q cc gc ((v68b q cc gc h z).2) ∧ frm [145, 147] [(145, 3)] h ((v68b q cc gc h z).2) := by
  unfold v68b
  show HC q cc gc ((v70b q cc gc (v68b_7 q cc gc z z 0 (fset h 145 3 (.int (nI 0))))).2) ∧ frm [145, 147] [(145, 3)] h ((v70b q cc gc (v68b_7 q cc gc z z 0 (fset h 145 3 (.int (nI 0))))).2)
  exact ⟨(v70b_fr (v68b_7_fr (z := z) (j := z) (i := 0) hz (hc_f rfl rfl (by decide) rfl hw)).1).1, (fr_g rfl rfl (v70b_fr (v68b_7_fr (z := z) (j := z) (i := 0) hz (hc_f rfl rfl (by decide) rfl hw)).1).2 (fr_g rfl rfl (v68b_7_fr (z := z) (j := z) (i := 0) hz (hc_f rfl rfl (by decide) rfl hw)).2 (fr_f rfl rfl fr_0)))⟩
end EC
end MH95zzxfx0
section MH95zzxfx1
/-! what the ruling rule answers, whichever of both objects it is -/
section EVL
variable {n fr lo sl cc gc : Nat} {q : QT} {h : pm_H} {R : pm_Rs}
def v68 (q : QT) (cc gc : Nat) (h : pm_H) : Int32 × pm_H := if q.1 = 142 then v68a q cc gc h q.2.1 else v68b q cc gc h q.2.1
theorem v68_ok (hw : HC q cc gc h) (hh : pm_run PT n fr lo 68 (0, pm_l0 [.ref q.1, .ref 12] 6, [], h, 198, sl) = some R) : R = (some (.int ((v68 q cc gc h).1)), (v68 q cc gc h).2, 198, sl) ∧ HC q cc gc (v68 q cc gc h).2 ∧ frm [142, 144, 145, 147] [(142, 3), (145, 3)] h (v68 q cc gc h).2 := by
  have hr := hw.rs
  rcases hw.qq with e | e
  · rw [e] at hh hr
    have ev : v68 q cc gc h = v68a q cc gc h q.2.1 := if_pos e
    rw [ev]
    obtain ⟨a1, a2, a3⟩ := v68a_ok hw hw.zx hr hh
    exact ⟨a1, a2, fr_g rfl rfl a3 fr_0⟩
  · rw [e] at hh hr
    have ev : v68 q cc gc h = v68b q cc gc h q.2.1 := if_neg (by rw [e]; decide)
    rw [ev]
    obtain ⟨a1, a2, a3⟩ := v68b_ok hw hw.zx hr hh
    exact ⟨a1, a2, fr_g rfl rfl a3 fr_0⟩
theorem v68_fr (hw : HC q cc gc h) : HC q cc gc (v68 q cc gc h).2 ∧ frm [142, 144, 145, 147] [(142, 3), (145, 3)] h (v68 q cc gc h).2 := by
  unfold v68
  rcases hw.qq with e | e
  · rw [if_pos e]
    obtain ⟨a2, a3⟩ := v68a_fr (z := q.2.1) hw hw.zx
    exact ⟨a2, fr_g rfl rfl a3 fr_0⟩
  · rw [if_neg (by rw [e]; decide)]
    obtain ⟨a2, a3⟩ := v68b_fr (z := q.2.1) hw hw.zx
    exact ⟨a2, fr_g rfl rfl a3 fr_0⟩
end EVL
end MH95zzxfx1
section MH95zzxfx2
/-! runs told exactly, written by ext.py -/
section ED
def v76 (q : QT) (cc gc : Nat) (d0 : Nat → Int32) (d1 : Int32) (g : Nat) (c : Nat) : Bool := cond (v75 q cc gc (d0) g c) false (cond (v74 q cc gc (d1) g) false true)
theorem v76_ok {n fr lo sl cc gc : Nat} {q : QT} {h : pm_H} {R : pm_Rs} {g : Nat} {c : Nat} (hw : HC q cc gc h) (h_g : g < 10000) (h_c : c < 10000) (hh : pm_run PT n fr lo 76 (0, pm_l0 [.ref 13, .int (nI g), .int (nI c)] 3, [], h, 198, sl) = some R) : R = (some (.int (cond (v76 q cc gc (Ar h 18) (Fi h 13 5) g c) 1 0)), h, 198, sl) := by
  have hcc := hw.cb
  have hgc := hw.gb
  have hzr := hw.zr
  obtain ⟨n, hh⟩ := rn_i rfl rfl rfl rfl hh
  obtain ⟨n, hh⟩ := rn_i rfl rfl rfl rfl hh
  obtain ⟨n, hh⟩ := rn_i rfl rfl rfl rfl hh
  have hh : pm_run PT n fr lo 76 (3, [some (.ref 13), some (.int (nI g)), some (.int (nI c))], [.int (nI c), .int (nI g), .ref 13], h, 198, sl) = some R := hh
  obtain ⟨n, fr1, lo1, r1, hh1, hh⟩ := rn_call (w := 0) (t := 75) rfl rfl hh
  have er1 := v75_ok (g := g) (c := c) hw (by omega) (by omega) hh1
  subst er1
  have hh : pm_run PT n fr lo 76 (6, [some (.ref 13), some (.int (nI g)), some (.int (nI c))], [.int (cond (v75 q cc gc (Ar h 18) g c) 1 0)], h, 198, sl) = some R := hh
  obtain ⟨n, hh⟩ := en_zn (cc := .ne) (off := 15) (t := 21) (b := v75 q cc gc (Ar h 18) g c) eb_ne rfl rfl hh
  have hj6 : ∃ mJ, pm_run PT mJ fr lo 76 (cond (v75 q cc gc (Ar h 18) g c) (22, [some (.ref 13), some (.int (nI g)), some (.int (nI c))], [.int (nI 0)], h, 198, sl) (22, [some (.ref 13), some (.int (nI g)), some (.int (nI c))], [.int (cond (cond (v74 q cc gc (Fi h 13 5) g) false true) 1 0)], h, 198, sl)) = some R := en_J (fun z2 => by
      have hh := en_t z2 hh
      have hh : pm_run PT n fr lo 76 (21, [some (.ref 13), some (.int (nI g)), some (.int (nI c))], [], h, 198, sl) = some R := hh
      obtain ⟨n, hh⟩ := rn_i rfl rfl rfl rfl hh
      exact ⟨n, hh⟩) (fun z2 => by
      have hh := en_f z2 hh
      have hh : pm_run PT n fr lo 76 (9, [some (.ref 13), some (.int (nI g)), some (.int (nI c))], [], h, 198, sl) = some R := hh
      obtain ⟨n, hh⟩ := rn_i rfl rfl rfl rfl hh
      obtain ⟨n, hh⟩ := rn_i rfl rfl rfl rfl hh
      have hh : pm_run PT n fr lo 76 (11, [some (.ref 13), some (.int (nI g)), some (.int (nI c))], [.int (nI g), .ref 13], h, 198, sl) = some R := hh
      obtain ⟨n, fr1, lo1, r1, hh1, hh⟩ := rn_call (w := 0) (t := 74) rfl rfl hh
      have er3 := v74_ok (g := g) hw (by omega) hh1
      subst er3
      have hh : pm_run PT n fr lo 76 (14, [some (.ref 13), some (.int (nI g)), some (.int (nI c))], [.int (cond (v74 q cc gc (Fi h 13 5) g) 1 0)], h, 198, sl) = some R := hh
      obtain ⟨n, hh⟩ := en_zn (cc := .ne) (off := 7) (t := 21) (b := v74 q cc gc (Fi h 13 5) g) eb_ne rfl rfl hh
      have hj5 : ∃ mJ, pm_run PT mJ fr lo 76 (cond (v74 q cc gc (Fi h 13 5) g) (22, [some (.ref 13), some (.int (nI g)), some (.int (nI c))], [.int (nI 0)], h, 198, sl) (22, [some (.ref 13), some (.int (nI g)), some (.int (nI c))], [.int (nI 1)], h, 198, sl)) = some R := en_J (fun z4 => by
          have hh := en_t z4 hh
          have hh : pm_run PT n fr lo 76 (21, [some (.ref 13), some (.int (nI g)), some (.int (nI c))], [], h, 198, sl) = some R := hh
          obtain ⟨n, hh⟩ := rn_i rfl rfl rfl rfl hh
          exact ⟨n, hh⟩) (fun z4 => by
          have hh := en_f z4 hh
          have hh : pm_run PT n fr lo 76 (17, [some (.ref 13), some (.int (nI g)), some (.int (nI c))], [], h, 198, sl) = some R := hh
          obtain ⟨n, hh⟩ := rn_i rfl rfl rfl rfl hh
          obtain ⟨n, hh⟩ := rn_i rfl rfl rfl rfl hh
          exact ⟨n, hh⟩)
      obtain ⟨n, hh⟩ := hj5
      rw [show (cond (v74 q cc gc (Fi h 13 5) g) (22, [some (.ref 13), some (.int (nI g)), some (.int (nI c))], [.int (nI 0)], h, 198, sl) (22, [some (.ref 13), some (.int (nI g)), some (.int (nI c))], [.int (nI 1)], h, 198, sl) : pm_St) = (22, [some (.ref 13), some (.int (nI g)), some (.int (nI c))], [.int (cond (cond (v74 q cc gc (Fi h 13 5) g) false true) 1 0)], h, 198, sl) from by cases (v74 q cc gc (Fi h 13 5) g) <;> rfl] at hh
      exact ⟨n, hh⟩)
  obtain ⟨n, hh⟩ := hj6
  rw [show (cond (v75 q cc gc (Ar h 18) g c) (22, [some (.ref 13), some (.int (nI g)), some (.int (nI c))], [.int (nI 0)], h, 198, sl) (22, [some (.ref 13), some (.int (nI g)), some (.int (nI c))], [.int (cond (cond (v74 q cc gc (Fi h 13 5) g) false true) 1 0)], h, 198, sl) : pm_St) = (22, [some (.ref 13), some (.int (nI g)), some (.int (nI c))], [.int (cond (cond (v75 q cc gc (Ar h 18) g c) false (cond (v74 q cc gc (Fi h 13 5) g) false true)) 1 0)], h, 198, sl) from by cases (v75 q cc gc (Ar h 18) g c) <;> rfl] at hh
  have hh : pm_run PT n fr lo 76 (22, [some (.ref 13), some (.int (nI g)), some (.int (nI c))], [.int (cond (cond (v75 q cc gc (Ar h 18) g c) false (cond (v74 q cc gc (Fi h 13 5) g) false true)) 1 0)], h, 198, sl) = some R := hh
  have er7 : R = (some (.int (cond (cond (v75 q cc gc (Ar h 18) g c) false (cond (v74 q cc gc (Fi h 13 5) g) false true)) 1 0)), h, 198, sl) := (rn_ret rfl (Or.inr rfl) hh).2
  have ed : v76 q cc gc (Ar h 18) (Fi h 13 5) g c = cond (v75 q cc gc (Ar h 18) g c) false (cond (v74 q cc gc (Fi h 13 5) g) false true) := rfl
  rw [ed]
  exact er7
def v77 (q : QT) (cc gc : Nat) (d0 : Nat → Int32) (d1 : Int32) (g : Nat) (c : Nat) (o : Int32) (v : Int32) : Int32 := cond (v75 q cc gc (d0) g c) (Int32.ofInt (-6)) (cond (v74 q cc gc (d1) g) (Int32.ofInt (-4)) (cond (pm_cmp .gt o 0) (cond (pm_cmp .ge ((nI 2) * v) o) (cond (pm_cmp .le v ((nI 2) * o)) (nI 4) (Int32.ofInt (-2))) (Int32.ofInt (-5))) (nI 2)))
theorem v77_ok {n fr lo sl cc gc : Nat} {q : QT} {h : pm_H} {R : pm_Rs} {g : Nat} {c : Nat} {o : Int32} {v : Int32} (hw : HC q cc gc h) (h_g : g < 10000) (h_c : c < 10000) (hh : pm_run PT n fr lo 77 (0, pm_l0 [.ref 13, .int (nI g), .int (nI c), .int o, .int v] 5, [], h, 198, sl) = some R) : R = (some (.int (v77 q cc gc (Ar h 18) (Fi h 13 5) g c o v)), h, 198, sl) := by
  have hcc := hw.cb
  have hgc := hw.gb
  have hzr := hw.zr
  obtain ⟨n, hh⟩ := rn_i rfl rfl rfl rfl hh
  obtain ⟨n, hh⟩ := rn_i rfl rfl rfl rfl hh
  obtain ⟨n, hh⟩ := rn_i rfl rfl rfl rfl hh
  have hh : pm_run PT n fr lo 77 (3, [some (.ref 13), some (.int (nI g)), some (.int (nI c)), some (.int o), some (.int v)], [.int (nI c), .int (nI g), .ref 13], h, 198, sl) = some R := hh
  obtain ⟨n, fr1, lo1, r1, hh1, hh⟩ := rn_call (w := 0) (t := 75) rfl rfl hh
  have er1 := v75_ok (g := g) (c := c) hw (by omega) (by omega) hh1
  subst er1
  have hh : pm_run PT n fr lo 77 (6, [some (.ref 13), some (.int (nI g)), some (.int (nI c)), some (.int o), some (.int v)], [.int (cond (v75 q cc gc (Ar h 18) g c) 1 0)], h, 198, sl) = some R := hh
  obtain ⟨n, hh⟩ := en_zn (cc := .eq) (off := 6) (t := 12) (b := !(v75 q cc gc (Ar h 18) g c)) eb_eq rfl rfl hh
  cases z2 : v75 q cc gc (Ar h 18) g c with
  | true =>
    have hh := en_nt z2 hh
    have hh : pm_run PT n fr lo 77 (9, [some (.ref 13), some (.int (nI g)), some (.int (nI c)), some (.int o), some (.int v)], [], h, 198, sl) = some R := hh
    obtain ⟨n, hh⟩ := rn_i rfl rfl rfl rfl hh
    have hh : pm_run PT n fr lo 77 (11, [some (.ref 13), some (.int (nI g)), some (.int (nI c)), some (.int o), some (.int v)], [.int (Int32.ofInt (-6))], h, 198, sl) = some R := hh
    have er3 : R = (some (.int (Int32.ofInt (-6))), h, 198, sl) := (rn_ret rfl (Or.inl rfl) hh).2
    have ed : v77 q cc gc (Ar h 18) (Fi h 13 5) g c o v = (Int32.ofInt (-6)) := (ct z2).trans rfl
    rw [ed]
    exact er3
  | false =>
    have hh := en_nf z2 hh
    have hh : pm_run PT n fr lo 77 (12, [some (.ref 13), some (.int (nI g)), some (.int (nI c)), some (.int o), some (.int v)], [], h, 198, sl) = some R := hh
    obtain ⟨n, hh⟩ := rn_i rfl rfl rfl rfl hh
    obtain ⟨n, hh⟩ := rn_i rfl rfl rfl rfl hh
    have hh : pm_run PT n fr lo 77 (14, [some (.ref 13), some (.int (nI g)), some (.int (nI c)), some (.int o), some (.int v)], [.int (nI g), .ref 13], h, 198, sl) = some R := hh
    obtain ⟨n, fr1, lo1, r1, hh1, hh⟩ := rn_call (w := 0) (t := 74) rfl rfl hh
    have er4 := v74_ok (g := g) hw (by omega) hh1
    subst er4
    have hh : pm_run PT n fr lo 77 (17, [some (.ref 13), some (.int (nI g)), some (.int (nI c)), some (.int o), some (.int v)], [.int (cond (v74 q cc gc (Fi h 13 5) g) 1 0)], h, 198, sl) = some R := hh
    obtain ⟨n, hh⟩ := en_zn (cc := .eq) (off := 6) (t := 23) (b := !(v74 q cc gc (Fi h 13 5) g)) eb_eq rfl rfl hh
    cases z5 : v74 q cc gc (Fi h 13 5) g with
    | true =>
      have hh := en_nt z5 hh
      have hh : pm_run PT n fr lo 77 (20, [some (.ref 13), some (.int (nI g)), some (.int (nI c)), some (.int o), some (.int v)], [], h, 198, sl) = some R := hh
      obtain ⟨n, hh⟩ := rn_i rfl rfl rfl rfl hh
      have hh : pm_run PT n fr lo 77 (22, [some (.ref 13), some (.int (nI g)), some (.int (nI c)), some (.int o), some (.int v)], [.int (Int32.ofInt (-4))], h, 198, sl) = some R := hh
      have er6 : R = (some (.int (Int32.ofInt (-4))), h, 198, sl) := (rn_ret rfl (Or.inl rfl) hh).2
      have ed : v77 q cc gc (Ar h 18) (Fi h 13 5) g c o v = (Int32.ofInt (-4)) := (cf z2).trans ((ct z5).trans rfl)
      rw [ed]
      exact er6
    | false =>
      have hh := en_nf z5 hh
      have hh : pm_run PT n fr lo 77 (23, [some (.ref 13), some (.int (nI g)), some (.int (nI c)), some (.int o), some (.int v)], [], h, 198, sl) = some R := hh
      obtain ⟨n, hh⟩ := rn_i rfl rfl rfl rfl hh
      have hh : pm_run PT n fr lo 77 (24, [some (.ref 13), some (.int (nI g)), some (.int (nI c)), some (.int o), some (.int v)], [.int o], h, 198, sl) = some R := hh
      obtain ⟨n, hh⟩ := en_zn (cc := .gt) (off := 5) (t := 29) (b := pm_cmp .gt o 0) rfl rfl rfl hh
      cases z7 : pm_cmp .gt o 0 with
      | true =>
        have hh := en_t z7 hh
        have hh : pm_run PT n fr lo 77 (29, [some (.ref 13), some (.int (nI g)), some (.int (nI c)), some (.int o), some (.int v)], [], h, 198, sl) = some R := hh
        obtain ⟨n, hh⟩ := rn_i rfl rfl rfl rfl hh
        obtain ⟨n, hh⟩ := rn_i rfl rfl rfl rfl hh
        obtain ⟨n, hh⟩ := rn_i rfl rfl rfl rfl hh
        obtain ⟨n, hh⟩ := rn_i rfl rfl rfl rfl hh
        have hh : pm_run PT n fr lo 77 (34, [some (.ref 13), some (.int (nI g)), some (.int (nI c)), some (.int o), some (.int v)], [.int o, .int ((nI 2) * v)], h, 198, sl) = some R := hh
        obtain ⟨n, hh⟩ := en_cn (cc := .ge) (off := 6) (t := 40) (b := pm_cmp .ge ((nI 2) * v) o) rfl rfl rfl hh
        cases z8 : pm_cmp .ge ((nI 2) * v) o with
        | true =>
          have hh := en_t z8 hh
          have hh : pm_run PT n fr lo 77 (40, [some (.ref 13), some (.int (nI g)), some (.int (nI c)), some (.int o), some (.int v)], [], h, 198, sl) = some R := hh
          obtain ⟨n, hh⟩ := rn_i rfl rfl rfl rfl hh
          obtain ⟨n, hh⟩ := rn_i rfl rfl rfl rfl hh
          obtain ⟨n, hh⟩ := rn_i rfl rfl rfl rfl hh
          obtain ⟨n, hh⟩ := rn_i rfl rfl rfl rfl hh
          have hh : pm_run PT n fr lo 77 (45, [some (.ref 13), some (.int (nI g)), some (.int (nI c)), some (.int o), some (.int v)], [.int ((nI 2) * o), .int v], h, 198, sl) = some R := hh
          obtain ⟨n, hh⟩ := en_cn (cc := .le) (off := 8) (t := 53) (b := pm_cmp .le v ((nI 2) * o)) rfl rfl rfl hh
          have hj10 : ∃ mJ, pm_run PT mJ fr lo 77 (cond (pm_cmp .le v ((nI 2) * o)) (54, [some (.ref 13), some (.int (nI g)), some (.int (nI c)), some (.int o), some (.int v)], [.int (nI 4)], h, 198, sl) (54, [some (.ref 13), some (.int (nI g)), some (.int (nI c)), some (.int o), some (.int v)], [.int (Int32.ofInt (-2))], h, 198, sl)) = some R := en_J (fun z9 => by
              have hh := en_t z9 hh
              have hh : pm_run PT n fr lo 77 (53, [some (.ref 13), some (.int (nI g)), some (.int (nI c)), some (.int o), some (.int v)], [], h, 198, sl) = some R := hh
              obtain ⟨n, hh⟩ := rn_i rfl rfl rfl rfl hh
              exact ⟨n, hh⟩) (fun z9 => by
              have hh := en_f z9 hh
              have hh : pm_run PT n fr lo 77 (48, [some (.ref 13), some (.int (nI g)), some (.int (nI c)), some (.int o), some (.int v)], [], h, 198, sl) = some R := hh
              obtain ⟨n, hh⟩ := rn_i rfl rfl rfl rfl hh
              obtain ⟨n, hh⟩ := rn_i rfl rfl rfl rfl hh
              exact ⟨n, hh⟩)
          obtain ⟨n, hh⟩ := hj10
          rw [show (cond (pm_cmp .le v ((nI 2) * o)) (54, [some (.ref 13), some (.int (nI g)), some (.int (nI c)), some (.int o), some (.int v)], [.int (nI 4)], h, 198, sl) (54, [some (.ref 13), some (.int (nI g)), some (.int (nI c)), some (.int o), some (.int v)], [.int (Int32.ofInt (-2))], h, 198, sl) : pm_St) = (54, [some (.ref 13), some (.int (nI g)), some (.int (nI c)), some (.int o), some (.int v)], [.int (cond (pm_cmp .le v ((nI 2) * o)) (nI 4) (Int32.ofInt (-2)))], h, 198, sl) from by cases (pm_cmp .le v ((nI 2) * o)) <;> rfl] at hh
          have hh : pm_run PT n fr lo 77 (54, [some (.ref 13), some (.int (nI g)), some (.int (nI c)), some (.int o), some (.int v)], [.int (cond (pm_cmp .le v ((nI 2) * o)) (nI 4) (Int32.ofInt (-2)))], h, 198, sl) = some R := hh
          have er11 : R = (some (.int (cond (pm_cmp .le v ((nI 2) * o)) (nI 4) (Int32.ofInt (-2)))), h, 198, sl) := (rn_ret rfl (Or.inl rfl) hh).2
          have ed : v77 q cc gc (Ar h 18) (Fi h 13 5) g c o v = cond (pm_cmp .le v ((nI 2) * o)) (nI 4) (Int32.ofInt (-2)) := (cf z2).trans ((cf z5).trans ((ct z7).trans ((ct z8).trans rfl)))
          rw [ed]
          exact er11
        | false =>
          have hh := en_f z8 hh
          have hh : pm_run PT n fr lo 77 (37, [some (.ref 13), some (.int (nI g)), some (.int (nI c)), some (.int o), some (.int v)], [], h, 198, sl) = some R := hh
          obtain ⟨n, hh⟩ := rn_i rfl rfl rfl rfl hh
          have hh : pm_run PT n fr lo 77 (39, [some (.ref 13), some (.int (nI g)), some (.int (nI c)), some (.int o), some (.int v)], [.int (Int32.ofInt (-5))], h, 198, sl) = some R := hh
          have er12 : R = (some (.int (Int32.ofInt (-5))), h, 198, sl) := (rn_ret rfl (Or.inl rfl) hh).2
          have ed : v77 q cc gc (Ar h 18) (Fi h 13 5) g c o v = (Int32.ofInt (-5)) := (cf z2).trans ((cf z5).trans ((ct z7).trans ((cf z8).trans rfl)))
          rw [ed]
          exact er12
      | false =>
        have hh := en_f z7 hh
        have hh : pm_run PT n fr lo 77 (27, [some (.ref 13), some (.int (nI g)), some (.int (nI c)), some (.int o), some (.int v)], [], h, 198, sl) = some R := hh
        obtain ⟨n, hh⟩ := rn_i rfl rfl rfl rfl hh
        have hh : pm_run PT n fr lo 77 (28, [some (.ref 13), some (.int (nI g)), some (.int (nI c)), some (.int o), some (.int v)], [.int (nI 2)], h, 198, sl) = some R := hh
        have er13 : R = (some (.int (nI 2)), h, 198, sl) := (rn_ret rfl (Or.inl rfl) hh).2
        have ed : v77 q cc gc (Ar h 18) (Fi h 13 5) g c o v = nI 2 := (cf z2).trans ((cf z5).trans ((cf z7).trans rfl))
        rw [ed]
        exact er13
theorem v76t_ok {n fr lo sl cc gc : Nat} {q : QT} {h : pm_H} {R : pm_Rs} {g : Nat} {c : Nat} (hw : HC q cc gc h) (h_g : g < 10000) (h_c : c < 10000) (hh : pm_run PT n fr lo 76 (0, pm_l0 [.ref 19, .int (nI g), .int (nI c)] 3, [], h, 198, sl) = some R) : R = (some (.int (cond (v76 q cc gc (Ar h 24) (Fi h 19 5) g c) 1 0)), h, 198, sl) := by
  have hcc := hw.cb
  have hgc := hw.gb
  have hzr := hw.zr
  obtain ⟨n, hh⟩ := rn_i rfl rfl rfl rfl hh
  obtain ⟨n, hh⟩ := rn_i rfl rfl rfl rfl hh
  obtain ⟨n, hh⟩ := rn_i rfl rfl rfl rfl hh
  have hh : pm_run PT n fr lo 76 (3, [some (.ref 19), some (.int (nI g)), some (.int (nI c))], [.int (nI c), .int (nI g), .ref 19], h, 198, sl) = some R := hh
  obtain ⟨n, fr1, lo1, r1, hh1, hh⟩ := rn_call (w := 0) (t := 75) rfl rfl hh
  have er1 := v75t_ok (g := g) (c := c) hw (by omega) (by omega) hh1
  subst er1
  have hh : pm_run PT n fr lo 76 (6, [some (.ref 19), some (.int (nI g)), some (.int (nI c))], [.int (cond (v75 q cc gc (Ar h 24) g c) 1 0)], h, 198, sl) = some R := hh
  obtain ⟨n, hh⟩ := en_zn (cc := .ne) (off := 15) (t := 21) (b := v75 q cc gc (Ar h 24) g c) eb_ne rfl rfl hh
  have hj6 : ∃ mJ, pm_run PT mJ fr lo 76 (cond (v75 q cc gc (Ar h 24) g c) (22, [some (.ref 19), some (.int (nI g)), some (.int (nI c))], [.int (nI 0)], h, 198, sl) (22, [some (.ref 19), some (.int (nI g)), some (.int (nI c))], [.int (cond (cond (v74 q cc gc (Fi h 19 5) g) false true) 1 0)], h, 198, sl)) = some R := en_J (fun z2 => by
      have hh := en_t z2 hh
      have hh : pm_run PT n fr lo 76 (21, [some (.ref 19), some (.int (nI g)), some (.int (nI c))], [], h, 198, sl) = some R := hh
      obtain ⟨n, hh⟩ := rn_i rfl rfl rfl rfl hh
      exact ⟨n, hh⟩) (fun z2 => by
      have hh := en_f z2 hh
      have hh : pm_run PT n fr lo 76 (9, [some (.ref 19), some (.int (nI g)), some (.int (nI c))], [], h, 198, sl) = some R := hh
      obtain ⟨n, hh⟩ := rn_i rfl rfl rfl rfl hh
      obtain ⟨n, hh⟩ := rn_i rfl rfl rfl rfl hh
      have hh : pm_run PT n fr lo 76 (11, [some (.ref 19), some (.int (nI g)), some (.int (nI c))], [.int (nI g), .ref 19], h, 198, sl) = some R := hh
      obtain ⟨n, fr1, lo1, r1, hh1, hh⟩ := rn_call (w := 0) (t := 74) rfl rfl hh
      have er3 := v74t_ok (g := g) hw (by omega) hh1
      subst er3
      have hh : pm_run PT n fr lo 76 (14, [some (.ref 19), some (.int (nI g)), some (.int (nI c))], [.int (cond (v74 q cc gc (Fi h 19 5) g) 1 0)], h, 198, sl) = some R := hh
      obtain ⟨n, hh⟩ := en_zn (cc := .ne) (off := 7) (t := 21) (b := v74 q cc gc (Fi h 19 5) g) eb_ne rfl rfl hh
      have hj5 : ∃ mJ, pm_run PT mJ fr lo 76 (cond (v74 q cc gc (Fi h 19 5) g) (22, [some (.ref 19), some (.int (nI g)), some (.int (nI c))], [.int (nI 0)], h, 198, sl) (22, [some (.ref 19), some (.int (nI g)), some (.int (nI c))], [.int (nI 1)], h, 198, sl)) = some R := en_J (fun z4 => by
          have hh := en_t z4 hh
          have hh : pm_run PT n fr lo 76 (21, [some (.ref 19), some (.int (nI g)), some (.int (nI c))], [], h, 198, sl) = some R := hh
          obtain ⟨n, hh⟩ := rn_i rfl rfl rfl rfl hh
          exact ⟨n, hh⟩) (fun z4 => by
          have hh := en_f z4 hh
          have hh : pm_run PT n fr lo 76 (17, [some (.ref 19), some (.int (nI g)), some (.int (nI c))], [], h, 198, sl) = some R := hh
          obtain ⟨n, hh⟩ := rn_i rfl rfl rfl rfl hh
          obtain ⟨n, hh⟩ := rn_i rfl rfl rfl rfl hh
          exact ⟨n, hh⟩)
      obtain ⟨n, hh⟩ := hj5
      rw [show (cond (v74 q cc gc (Fi h 19 5) g) (22, [some (.ref 19), some (.int (nI g)), some (.int (nI c))], [.int (nI 0)], h, 198, sl) (22, [some (.ref 19), some (.int (nI g)), some (.int (nI c))], [.int (nI 1)], h, 198, sl) : pm_St) = (22, [some (.ref 19), some (.int (nI g)), some (.int (nI c))], [.int (cond (cond (v74 q cc gc (Fi h 19 5) g) false true) 1 0)], h, 198, sl) from by cases (v74 q cc gc (Fi h 19 5) g) <;> rfl] at hh
      exact ⟨n, hh⟩)
  obtain ⟨n, hh⟩ := hj6
  rw [show (cond (v75 q cc gc (Ar h 24) g c) (22, [some (.ref 19), some (.int (nI g)), some (.int (nI c))], [.int (nI 0)], h, 198, sl) (22, [some (.ref 19), some (.int (nI g)), some (.int (nI c))], [.int (cond (cond (v74 q cc gc (Fi h 19 5) g) false true) 1 0)], h, 198, sl) : pm_St) = (22, [some (.ref 19), some (.int (nI g)), some (.int (nI c))], [.int (cond (cond (v75 q cc gc (Ar h 24) g c) false (cond (v74 q cc gc (Fi h 19 5) g) false true)) 1 0)], h, 198, sl) from by cases (v75 q cc gc (Ar h 24) g c) <;> rfl] at hh
  have hh : pm_run PT n fr lo 76 (22, [some (.ref 19), some (.int (nI g)), some (.int (nI c))], [.int (cond (cond (v75 q cc gc (Ar h 24) g c) false (cond (v74 q cc gc (Fi h 19 5) g) false true)) 1 0)], h, 198, sl) = some R := hh
  have er7 : R = (some (.int (cond (cond (v75 q cc gc (Ar h 24) g c) false (cond (v74 q cc gc (Fi h 19 5) g) false true)) 1 0)), h, 198, sl) := (rn_ret rfl (Or.inr rfl) hh).2
  have ed : v76 q cc gc (Ar h 24) (Fi h 19 5) g c = cond (v75 q cc gc (Ar h 24) g c) false (cond (v74 q cc gc (Fi h 19 5) g) false true) := rfl
  rw [ed]
  exact er7
theorem v77t_ok {n fr lo sl cc gc : Nat} {q : QT} {h : pm_H} {R : pm_Rs} {g : Nat} {c : Nat} {o : Int32} {v : Int32} (hw : HC q cc gc h) (h_g : g < 10000) (h_c : c < 10000) (hh : pm_run PT n fr lo 77 (0, pm_l0 [.ref 19, .int (nI g), .int (nI c), .int o, .int v] 5, [], h, 198, sl) = some R) : R = (some (.int (v77 q cc gc (Ar h 24) (Fi h 19 5) g c o v)), h, 198, sl) := by
  have hcc := hw.cb
  have hgc := hw.gb
  have hzr := hw.zr
  obtain ⟨n, hh⟩ := rn_i rfl rfl rfl rfl hh
  obtain ⟨n, hh⟩ := rn_i rfl rfl rfl rfl hh
  obtain ⟨n, hh⟩ := rn_i rfl rfl rfl rfl hh
  have hh : pm_run PT n fr lo 77 (3, [some (.ref 19), some (.int (nI g)), some (.int (nI c)), some (.int o), some (.int v)], [.int (nI c), .int (nI g), .ref 19], h, 198, sl) = some R := hh
  obtain ⟨n, fr1, lo1, r1, hh1, hh⟩ := rn_call (w := 0) (t := 75) rfl rfl hh
  have er1 := v75t_ok (g := g) (c := c) hw (by omega) (by omega) hh1
  subst er1
  have hh : pm_run PT n fr lo 77 (6, [some (.ref 19), some (.int (nI g)), some (.int (nI c)), some (.int o), some (.int v)], [.int (cond (v75 q cc gc (Ar h 24) g c) 1 0)], h, 198, sl) = some R := hh
  obtain ⟨n, hh⟩ := en_zn (cc := .eq) (off := 6) (t := 12) (b := !(v75 q cc gc (Ar h 24) g c)) eb_eq rfl rfl hh
  cases z2 : v75 q cc gc (Ar h 24) g c with
  | true =>
    have hh := en_nt z2 hh
    have hh : pm_run PT n fr lo 77 (9, [some (.ref 19), some (.int (nI g)), some (.int (nI c)), some (.int o), some (.int v)], [], h, 198, sl) = some R := hh
    obtain ⟨n, hh⟩ := rn_i rfl rfl rfl rfl hh
    have hh : pm_run PT n fr lo 77 (11, [some (.ref 19), some (.int (nI g)), some (.int (nI c)), some (.int o), some (.int v)], [.int (Int32.ofInt (-6))], h, 198, sl) = some R := hh
    have er3 : R = (some (.int (Int32.ofInt (-6))), h, 198, sl) := (rn_ret rfl (Or.inl rfl) hh).2
    have ed : v77 q cc gc (Ar h 24) (Fi h 19 5) g c o v = (Int32.ofInt (-6)) := (ct z2).trans rfl
    rw [ed]
    exact er3
  | false =>
    have hh := en_nf z2 hh
    have hh : pm_run PT n fr lo 77 (12, [some (.ref 19), some (.int (nI g)), some (.int (nI c)), some (.int o), some (.int v)], [], h, 198, sl) = some R := hh
    obtain ⟨n, hh⟩ := rn_i rfl rfl rfl rfl hh
    obtain ⟨n, hh⟩ := rn_i rfl rfl rfl rfl hh
    have hh : pm_run PT n fr lo 77 (14, [some (.ref 19), some (.int (nI g)), some (.int (nI c)), some (.int o), some (.int v)], [.int (nI g), .ref 19], h, 198, sl) = some R := hh
    obtain ⟨n, fr1, lo1, r1, hh1, hh⟩ := rn_call (w := 0) (t := 74) rfl rfl hh
    have er4 := v74t_ok (g := g) hw (by omega) hh1
    subst er4
    have hh : pm_run PT n fr lo 77 (17, [some (.ref 19), some (.int (nI g)), some (.int (nI c)), some (.int o), some (.int v)], [.int (cond (v74 q cc gc (Fi h 19 5) g) 1 0)], h, 198, sl) = some R := hh
    obtain ⟨n, hh⟩ := en_zn (cc := .eq) (off := 6) (t := 23) (b := !(v74 q cc gc (Fi h 19 5) g)) eb_eq rfl rfl hh
    cases z5 : v74 q cc gc (Fi h 19 5) g with
    | true =>
      have hh := en_nt z5 hh
      have hh : pm_run PT n fr lo 77 (20, [some (.ref 19), some (.int (nI g)), some (.int (nI c)), some (.int o), some (.int v)], [], h, 198, sl) = some R := hh
      obtain ⟨n, hh⟩ := rn_i rfl rfl rfl rfl hh
      have hh : pm_run PT n fr lo 77 (22, [some (.ref 19), some (.int (nI g)), some (.int (nI c)), some (.int o), some (.int v)], [.int (Int32.ofInt (-4))], h, 198, sl) = some R := hh
      have er6 : R = (some (.int (Int32.ofInt (-4))), h, 198, sl) := (rn_ret rfl (Or.inl rfl) hh).2
      have ed : v77 q cc gc (Ar h 24) (Fi h 19 5) g c o v = (Int32.ofInt (-4)) := (cf z2).trans ((ct z5).trans rfl)
      rw [ed]
      exact er6
    | false =>
      have hh := en_nf z5 hh
      have hh : pm_run PT n fr lo 77 (23, [some (.ref 19), some (.int (nI g)), some (.int (nI c)), some (.int o), some (.int v)], [], h, 198, sl) = some R := hh
      obtain ⟨n, hh⟩ := rn_i rfl rfl rfl rfl hh
      have hh : pm_run PT n fr lo 77 (24, [some (.ref 19), some (.int (nI g)), some (.int (nI c)), some (.int o), some (.int v)], [.int o], h, 198, sl) = some R := hh
      obtain ⟨n, hh⟩ := en_zn (cc := .gt) (off := 5) (t := 29) (b := pm_cmp .gt o 0) rfl rfl rfl hh
      cases z7 : pm_cmp .gt o 0 with
      | true =>
        have hh := en_t z7 hh
        have hh : pm_run PT n fr lo 77 (29, [some (.ref 19), some (.int (nI g)), some (.int (nI c)), some (.int o), some (.int v)], [], h, 198, sl) = some R := hh
        obtain ⟨n, hh⟩ := rn_i rfl rfl rfl rfl hh
        obtain ⟨n, hh⟩ := rn_i rfl rfl rfl rfl hh
        obtain ⟨n, hh⟩ := rn_i rfl rfl rfl rfl hh
        obtain ⟨n, hh⟩ := rn_i rfl rfl rfl rfl hh
        have hh : pm_run PT n fr lo 77 (34, [some (.ref 19), some (.int (nI g)), some (.int (nI c)), some (.int o), some (.int v)], [.int o, .int ((nI 2) * v)], h, 198, sl) = some R := hh
        obtain ⟨n, hh⟩ := en_cn (cc := .ge) (off := 6) (t := 40) (b := pm_cmp .ge ((nI 2) * v) o) rfl rfl rfl hh
        cases z8 : pm_cmp .ge ((nI 2) * v) o with
        | true =>
          have hh := en_t z8 hh
          have hh : pm_run PT n fr lo 77 (40, [some (.ref 19), some (.int (nI g)), some (.int (nI c)), some (.int o), some (.int v)], [], h, 198, sl) = some R := hh
          obtain ⟨n, hh⟩ := rn_i rfl rfl rfl rfl hh
          obtain ⟨n, hh⟩ := rn_i rfl rfl rfl rfl hh
          obtain ⟨n, hh⟩ := rn_i rfl rfl rfl rfl hh
          obtain ⟨n, hh⟩ := rn_i rfl rfl rfl rfl hh
          have hh : pm_run PT n fr lo 77 (45, [some (.ref 19), some (.int (nI g)), some (.int (nI c)), some (.int o), some (.int v)], [.int ((nI 2) * o), .int v], h, 198, sl) = some R := hh
          obtain ⟨n, hh⟩ := en_cn (cc := .le) (off := 8) (t := 53) (b := pm_cmp .le v ((nI 2) * o)) rfl rfl rfl hh
          have hj10 : ∃ mJ, pm_run PT mJ fr lo 77 (cond (pm_cmp .le v ((nI 2) * o)) (54, [some (.ref 19), some (.int (nI g)), some (.int (nI c)), some (.int o), some (.int v)], [.int (nI 4)], h, 198, sl) (54, [some (.ref 19), some (.int (nI g)), some (.int (nI c)), some (.int o), some (.int v)], [.int (Int32.ofInt (-2))], h, 198, sl)) = some R := en_J (fun z9 => by
              have hh := en_t z9 hh
              have hh : pm_run PT n fr lo 77 (53, [some (.ref 19), some (.int (nI g)), some (.int (nI c)), some (.int o), some (.int v)], [], h, 198, sl) = some R := hh
              obtain ⟨n, hh⟩ := rn_i rfl rfl rfl rfl hh
              exact ⟨n, hh⟩) (fun z9 => by
              have hh := en_f z9 hh
              have hh : pm_run PT n fr lo 77 (48, [some (.ref 19), some (.int (nI g)), some (.int (nI c)), some (.int o), some (.int v)], [], h, 198, sl) = some R := hh
              obtain ⟨n, hh⟩ := rn_i rfl rfl rfl rfl hh
              obtain ⟨n, hh⟩ := rn_i rfl rfl rfl rfl hh
              exact ⟨n, hh⟩)
          obtain ⟨n, hh⟩ := hj10
          rw [show (cond (pm_cmp .le v ((nI 2) * o)) (54, [some (.ref 19), some (.int (nI g)), some (.int (nI c)), some (.int o), some (.int v)], [.int (nI 4)], h, 198, sl) (54, [some (.ref 19), some (.int (nI g)), some (.int (nI c)), some (.int o), some (.int v)], [.int (Int32.ofInt (-2))], h, 198, sl) : pm_St) = (54, [some (.ref 19), some (.int (nI g)), some (.int (nI c)), some (.int o), some (.int v)], [.int (cond (pm_cmp .le v ((nI 2) * o)) (nI 4) (Int32.ofInt (-2)))], h, 198, sl) from by cases (pm_cmp .le v ((nI 2) * o)) <;> rfl] at hh
          have hh : pm_run PT n fr lo 77 (54, [some (.ref 19), some (.int (nI g)), some (.int (nI c)), some (.int o), some (.int v)], [.int (cond (pm_cmp .le v ((nI 2) * o)) (nI 4) (Int32.ofInt (-2)))], h, 198, sl) = some R := hh
          have er11 : R = (some (.int (cond (pm_cmp .le v ((nI 2) * o)) (nI 4) (Int32.ofInt (-2)))), h, 198, sl) := (rn_ret rfl (Or.inl rfl) hh).2
          have ed : v77 q cc gc (Ar h 24) (Fi h 19 5) g c o v = cond (pm_cmp .le v ((nI 2) * o)) (nI 4) (Int32.ofInt (-2)) := (cf z2).trans ((cf z5).trans ((ct z7).trans ((ct z8).trans rfl)))
          rw [ed]
          exact er11
        | false =>
          have hh := en_f z8 hh
          have hh : pm_run PT n fr lo 77 (37, [some (.ref 19), some (.int (nI g)), some (.int (nI c)), some (.int o), some (.int v)], [], h, 198, sl) = some R := hh
          obtain ⟨n, hh⟩ := rn_i rfl rfl rfl rfl hh
          have hh : pm_run PT n fr lo 77 (39, [some (.ref 19), some (.int (nI g)), some (.int (nI c)), some (.int o), some (.int v)], [.int (Int32.ofInt (-5))], h, 198, sl) = some R := hh
          have er12 : R = (some (.int (Int32.ofInt (-5))), h, 198, sl) := (rn_ret rfl (Or.inl rfl) hh).2
          have ed : v77 q cc gc (Ar h 24) (Fi h 19 5) g c o v = (Int32.ofInt (-5)) := (cf z2).trans ((cf z5).trans ((ct z7).trans ((cf z8).trans rfl)))
          rw [ed]
          exact er12
      | false =>
        have hh := en_f z7 hh
        have hh : pm_run PT n fr lo 77 (27, [some (.ref 19), some (.int (nI g)), some (.int (nI c)), some (.int o), some (.int v)], [], h, 198, sl) = some R := hh
        obtain ⟨n, hh⟩ := rn_i rfl rfl rfl rfl hh
        have hh : pm_run PT n fr lo 77 (28, [some (.ref 19), some (.int (nI g)), some (.int (nI c)), some (.int o), some (.int v)], [.int (nI 2)], h, 198, sl) = some R := hh
        have er13 : R = (some (.int (nI 2)), h, 198, sl) := (rn_ret rfl (Or.inl rfl) hh).2
        have ed : v77 q cc gc (Ar h 24) (Fi h 19 5) g c o v = nI 2 := (cf z2).trans ((cf z5).trans ((cf z7).trans rfl))
        rw [ed]
        exact er13
def v41 (q : QT) (cc gc : Nat) (d0 : Nat → Int32) (d1 : Int32) (g : Nat) : Bool := cond (pm_cmp .eq ((d0) g) (nI 1)) (cond (v74 q cc gc (d1) g) false true) (cond (pm_cmp .ne ((d0) g) (nI 4)) false (cond (v74 q cc gc (d1) g) false true))
theorem v41_ok {n fr lo sl cc gc : Nat} {q : QT} {h : pm_H} {R : pm_Rs} {g : Nat} (hw : HC q cc gc h) (h_g : g < 10000) (hh : pm_run PT n fr lo 41 (0, pm_l0 [.ref 5, .ref 13, .int (nI g)] 3, [], h, 198, sl) = some R) : R = (some (.int (cond (v41 q cc gc (Ar h 9) (Fi h 13 5) g) 1 0)), h, 198, sl) := by
  have hcc := hw.cb
  have hgc := hw.gb
  have hzr := hw.zr
  obtain ⟨n, hh⟩ := rn_i rfl rfl rfl rfl hh
  have hh : pm_run PT n fr lo 41 (1, [some (.ref 5), some (.ref 13), some (.int (nI g))], [.ref 5], h, 198, sl) = some R := hh
  obtain ⟨n, hh⟩ := rn_gr hw.wt rfl rfl (by decide) rfl (by decide) (show _ = some (2, ((9 : Nat) : Int), 1) from rfl) rfl hh
  obtain ⟨n, hh⟩ := rn_i rfl rfl rfl rfl hh
  have hh : pm_run PT n fr lo 41 (5, [some (.ref 5), some (.ref 13), some (.int (nI g))], [.int (nI g), .ref 9], h, 198, sl) = some R := hh
  obtain ⟨n, hx1, hh⟩ := en_lu (t := g) (f := Ar h 9) (w := (Ar h 9) g) (nI_clamp (by omega)) hw.wt rfl (by decide) rfl (by decide) rfl (fun _ => rfl) hh
  obtain ⟨n, hh⟩ := rn_i rfl rfl rfl rfl hh
  have hh : pm_run PT n fr lo 41 (7, [some (.ref 5), some (.ref 13), some (.int (nI g))], [.int (nI 1), .int ((Ar h 9) g)], h, 198, sl) = some R := hh
  obtain ⟨n, hh⟩ := en_cn (cc := .eq) (off := 13) (t := 20) (b := pm_cmp .eq ((Ar h 9) g) (nI 1)) rfl rfl rfl hh
  have hj12 : ∃ mJ, pm_run PT mJ fr lo 41 (cond (pm_cmp .eq ((Ar h 9) g) (nI 1)) (33, [some (.ref 5), some (.ref 13), some (.int (nI g))], [.int (cond (cond (v74 q cc gc (Fi h 13 5) g) false true) 1 0)], h, 198, sl) (33, [some (.ref 5), some (.ref 13), some (.int (nI g))], [.int (cond (cond (pm_cmp .ne ((Ar h 9) g) (nI 4)) false (cond (v74 q cc gc (Fi h 13 5) g) false true)) 1 0)], h, 198, sl)) = some R := en_J (fun z2 => by
      have hh := en_t z2 hh
      have hh : pm_run PT n fr lo 41 (20, [some (.ref 5), some (.ref 13), some (.int (nI g))], [], h, 198, sl) = some R := hh
      obtain ⟨n, hh⟩ := rn_i rfl rfl rfl rfl hh
      obtain ⟨n, hh⟩ := rn_i rfl rfl rfl rfl hh
      have hh : pm_run PT n fr lo 41 (22, [some (.ref 5), some (.ref 13), some (.int (nI g))], [.int (nI g), .ref 13], h, 198, sl) = some R := hh
      obtain ⟨n, fr1, lo1, r1, hh1, hh⟩ := rn_call (w := 0) (t := 74) rfl rfl hh
      have er3 := v74_ok (g := g) hw (by omega) hh1
      subst er3
      have hh : pm_run PT n fr lo 41 (25, [some (.ref 5), some (.ref 13), some (.int (nI g))], [.int (cond (v74 q cc gc (Fi h 13 5) g) 1 0)], h, 198, sl) = some R := hh
      obtain ⟨n, hh⟩ := en_zn (cc := .ne) (off := 7) (t := 32) (b := v74 q cc gc (Fi h 13 5) g) eb_ne rfl rfl hh
      have hj5 : ∃ mJ, pm_run PT mJ fr lo 41 (cond (v74 q cc gc (Fi h 13 5) g) (33, [some (.ref 5), some (.ref 13), some (.int (nI g))], [.int (nI 0)], h, 198, sl) (33, [some (.ref 5), some (.ref 13), some (.int (nI g))], [.int (nI 1)], h, 198, sl)) = some R := en_J (fun z4 => by
          have hh := en_t z4 hh
          have hh : pm_run PT n fr lo 41 (32, [some (.ref 5), some (.ref 13), some (.int (nI g))], [], h, 198, sl) = some R := hh
          obtain ⟨n, hh⟩ := rn_i rfl rfl rfl rfl hh
          exact ⟨n, hh⟩) (fun z4 => by
          have hh := en_f z4 hh
          have hh : pm_run PT n fr lo 41 (28, [some (.ref 5), some (.ref 13), some (.int (nI g))], [], h, 198, sl) = some R := hh
          obtain ⟨n, hh⟩ := rn_i rfl rfl rfl rfl hh
          obtain ⟨n, hh⟩ := rn_i rfl rfl rfl rfl hh
          exact ⟨n, hh⟩)
      obtain ⟨n, hh⟩ := hj5
      rw [show (cond (v74 q cc gc (Fi h 13 5) g) (33, [some (.ref 5), some (.ref 13), some (.int (nI g))], [.int (nI 0)], h, 198, sl) (33, [some (.ref 5), some (.ref 13), some (.int (nI g))], [.int (nI 1)], h, 198, sl) : pm_St) = (33, [some (.ref 5), some (.ref 13), some (.int (nI g))], [.int (cond (cond (v74 q cc gc (Fi h 13 5) g) false true) 1 0)], h, 198, sl) from by cases (v74 q cc gc (Fi h 13 5) g) <;> rfl] at hh
      exact ⟨n, hh⟩) (fun z2 => by
      have hh := en_f z2 hh
      have hh : pm_run PT n fr lo 41 (10, [some (.ref 5), some (.ref 13), some (.int (nI g))], [], h, 198, sl) = some R := hh
      obtain ⟨n, hh⟩ := rn_i rfl rfl rfl rfl hh
      have hh : pm_run PT n fr lo 41 (11, [some (.ref 5), some (.ref 13), some (.int (nI g))], [.ref 5], h, 198, sl) = some R := hh
      obtain ⟨n, hh⟩ := rn_gr hw.wt rfl rfl (by decide) rfl (by decide) (show _ = some (2, ((9 : Nat) : Int), 1) from rfl) rfl hh
      obtain ⟨n, hh⟩ := rn_i rfl rfl rfl rfl hh
      have hh : pm_run PT n fr lo 41 (15, [some (.ref 5), some (.ref 13), some (.int (nI g))], [.int (nI g), .ref 9], h, 198, sl) = some R := hh
      obtain ⟨n, hx6, hh⟩ := en_lu (t := g) (f := Ar h 9) (w := (Ar h 9) g) (nI_clamp (by omega)) hw.wt rfl (by decide) rfl (by decide) rfl (fun _ => rfl) hh
      obtain ⟨n, hh⟩ := rn_i rfl rfl rfl rfl hh
      have hh : pm_run PT n fr lo 41 (17, [some (.ref 5), some (.ref 13), some (.int (nI g))], [.int (nI 4), .int ((Ar h 9) g)], h, 198, sl) = some R := hh
      obtain ⟨n, hh⟩ := en_cn (cc := .ne) (off := 15) (t := 32) (b := pm_cmp .ne ((Ar h 9) g) (nI 4)) rfl rfl rfl hh
      have hj11 : ∃ mJ, pm_run PT mJ fr lo 41 (cond (pm_cmp .ne ((Ar h 9) g) (nI 4)) (33, [some (.ref 5), some (.ref 13), some (.int (nI g))], [.int (nI 0)], h, 198, sl) (33, [some (.ref 5), some (.ref 13), some (.int (nI g))], [.int (cond (cond (v74 q cc gc (Fi h 13 5) g) false true) 1 0)], h, 198, sl)) = some R := en_J (fun z7 => by
          have hh := en_t z7 hh
          have hh : pm_run PT n fr lo 41 (32, [some (.ref 5), some (.ref 13), some (.int (nI g))], [], h, 198, sl) = some R := hh
          obtain ⟨n, hh⟩ := rn_i rfl rfl rfl rfl hh
          exact ⟨n, hh⟩) (fun z7 => by
          have hh := en_f z7 hh
          have hh : pm_run PT n fr lo 41 (20, [some (.ref 5), some (.ref 13), some (.int (nI g))], [], h, 198, sl) = some R := hh
          obtain ⟨n, hh⟩ := rn_i rfl rfl rfl rfl hh
          obtain ⟨n, hh⟩ := rn_i rfl rfl rfl rfl hh
          have hh : pm_run PT n fr lo 41 (22, [some (.ref 5), some (.ref 13), some (.int (nI g))], [.int (nI g), .ref 13], h, 198, sl) = some R := hh
          obtain ⟨n, fr1, lo1, r1, hh1, hh⟩ := rn_call (w := 0) (t := 74) rfl rfl hh
          have er8 := v74_ok (g := g) hw (by omega) hh1
          subst er8
          have hh : pm_run PT n fr lo 41 (25, [some (.ref 5), some (.ref 13), some (.int (nI g))], [.int (cond (v74 q cc gc (Fi h 13 5) g) 1 0)], h, 198, sl) = some R := hh
          obtain ⟨n, hh⟩ := en_zn (cc := .ne) (off := 7) (t := 32) (b := v74 q cc gc (Fi h 13 5) g) eb_ne rfl rfl hh
          have hj10 : ∃ mJ, pm_run PT mJ fr lo 41 (cond (v74 q cc gc (Fi h 13 5) g) (33, [some (.ref 5), some (.ref 13), some (.int (nI g))], [.int (nI 0)], h, 198, sl) (33, [some (.ref 5), some (.ref 13), some (.int (nI g))], [.int (nI 1)], h, 198, sl)) = some R := en_J (fun z9 => by
              have hh := en_t z9 hh
              have hh : pm_run PT n fr lo 41 (32, [some (.ref 5), some (.ref 13), some (.int (nI g))], [], h, 198, sl) = some R := hh
              obtain ⟨n, hh⟩ := rn_i rfl rfl rfl rfl hh
              exact ⟨n, hh⟩) (fun z9 => by
              have hh := en_f z9 hh
              have hh : pm_run PT n fr lo 41 (28, [some (.ref 5), some (.ref 13), some (.int (nI g))], [], h, 198, sl) = some R := hh
              obtain ⟨n, hh⟩ := rn_i rfl rfl rfl rfl hh
              obtain ⟨n, hh⟩ := rn_i rfl rfl rfl rfl hh
              exact ⟨n, hh⟩)
          obtain ⟨n, hh⟩ := hj10
          rw [show (cond (v74 q cc gc (Fi h 13 5) g) (33, [some (.ref 5), some (.ref 13), some (.int (nI g))], [.int (nI 0)], h, 198, sl) (33, [some (.ref 5), some (.ref 13), some (.int (nI g))], [.int (nI 1)], h, 198, sl) : pm_St) = (33, [some (.ref 5), some (.ref 13), some (.int (nI g))], [.int (cond (cond (v74 q cc gc (Fi h 13 5) g) false true) 1 0)], h, 198, sl) from by cases (v74 q cc gc (Fi h 13 5) g) <;> rfl] at hh
          exact ⟨n, hh⟩)
      obtain ⟨n, hh⟩ := hj11
      rw [show (cond (pm_cmp .ne ((Ar h 9) g) (nI 4)) (33, [some (.ref 5), some (.ref 13), some (.int (nI g))], [.int (nI 0)], h, 198, sl) (33, [some (.ref 5), some (.ref 13), some (.int (nI g))], [.int (cond (cond (v74 q cc gc (Fi h 13 5) g) false true) 1 0)], h, 198, sl) : pm_St) = (33, [some (.ref 5), some (.ref 13), some (.int (nI g))], [.int (cond (cond (pm_cmp .ne ((Ar h 9) g) (nI 4)) false (cond (v74 q cc gc (Fi h 13 5) g) false true)) 1 0)], h, 198, sl) from by cases (pm_cmp .ne ((Ar h 9) g) (nI 4)) <;> rfl] at hh
      exact ⟨n, hh⟩)
  obtain ⟨n, hh⟩ := hj12
  rw [show (cond (pm_cmp .eq ((Ar h 9) g) (nI 1)) (33, [some (.ref 5), some (.ref 13), some (.int (nI g))], [.int (cond (cond (v74 q cc gc (Fi h 13 5) g) false true) 1 0)], h, 198, sl) (33, [some (.ref 5), some (.ref 13), some (.int (nI g))], [.int (cond (cond (pm_cmp .ne ((Ar h 9) g) (nI 4)) false (cond (v74 q cc gc (Fi h 13 5) g) false true)) 1 0)], h, 198, sl) : pm_St) = (33, [some (.ref 5), some (.ref 13), some (.int (nI g))], [.int (cond (cond (pm_cmp .eq ((Ar h 9) g) (nI 1)) (cond (v74 q cc gc (Fi h 13 5) g) false true) (cond (pm_cmp .ne ((Ar h 9) g) (nI 4)) false (cond (v74 q cc gc (Fi h 13 5) g) false true))) 1 0)], h, 198, sl) from by cases (pm_cmp .eq ((Ar h 9) g) (nI 1)) <;> rfl] at hh
  have hh : pm_run PT n fr lo 41 (33, [some (.ref 5), some (.ref 13), some (.int (nI g))], [.int (cond (cond (pm_cmp .eq ((Ar h 9) g) (nI 1)) (cond (v74 q cc gc (Fi h 13 5) g) false true) (cond (pm_cmp .ne ((Ar h 9) g) (nI 4)) false (cond (v74 q cc gc (Fi h 13 5) g) false true))) 1 0)], h, 198, sl) = some R := hh
  have er13 : R = (some (.int (cond (cond (pm_cmp .eq ((Ar h 9) g) (nI 1)) (cond (v74 q cc gc (Fi h 13 5) g) false true) (cond (pm_cmp .ne ((Ar h 9) g) (nI 4)) false (cond (v74 q cc gc (Fi h 13 5) g) false true))) 1 0)), h, 198, sl) := (rn_ret rfl (Or.inr rfl) hh).2
  have ed : v41 q cc gc (Ar h 9) (Fi h 13 5) g = cond (pm_cmp .eq ((Ar h 9) g) (nI 1)) (cond (v74 q cc gc (Fi h 13 5) g) false true) (cond (pm_cmp .ne ((Ar h 9) g) (nI 4)) false (cond (v74 q cc gc (Fi h 13 5) g) false true)) := rfl
  rw [ed]
  exact er13
theorem v41t_ok {n fr lo sl cc gc : Nat} {q : QT} {h : pm_H} {R : pm_Rs} {g : Nat} (hw : HC q cc gc h) (h_g : g < 10000) (hh : pm_run PT n fr lo 41 (0, pm_l0 [.ref 5, .ref 19, .int (nI g)] 3, [], h, 198, sl) = some R) : R = (some (.int (cond (v41 q cc gc (Ar h 9) (Fi h 19 5) g) 1 0)), h, 198, sl) := by
  have hcc := hw.cb
  have hgc := hw.gb
  have hzr := hw.zr
  obtain ⟨n, hh⟩ := rn_i rfl rfl rfl rfl hh
  have hh : pm_run PT n fr lo 41 (1, [some (.ref 5), some (.ref 19), some (.int (nI g))], [.ref 5], h, 198, sl) = some R := hh
  obtain ⟨n, hh⟩ := rn_gr hw.wt rfl rfl (by decide) rfl (by decide) (show _ = some (2, ((9 : Nat) : Int), 1) from rfl) rfl hh
  obtain ⟨n, hh⟩ := rn_i rfl rfl rfl rfl hh
  have hh : pm_run PT n fr lo 41 (5, [some (.ref 5), some (.ref 19), some (.int (nI g))], [.int (nI g), .ref 9], h, 198, sl) = some R := hh
  obtain ⟨n, hx1, hh⟩ := en_lu (t := g) (f := Ar h 9) (w := (Ar h 9) g) (nI_clamp (by omega)) hw.wt rfl (by decide) rfl (by decide) rfl (fun _ => rfl) hh
  obtain ⟨n, hh⟩ := rn_i rfl rfl rfl rfl hh
  have hh : pm_run PT n fr lo 41 (7, [some (.ref 5), some (.ref 19), some (.int (nI g))], [.int (nI 1), .int ((Ar h 9) g)], h, 198, sl) = some R := hh
  obtain ⟨n, hh⟩ := en_cn (cc := .eq) (off := 13) (t := 20) (b := pm_cmp .eq ((Ar h 9) g) (nI 1)) rfl rfl rfl hh
  have hj12 : ∃ mJ, pm_run PT mJ fr lo 41 (cond (pm_cmp .eq ((Ar h 9) g) (nI 1)) (33, [some (.ref 5), some (.ref 19), some (.int (nI g))], [.int (cond (cond (v74 q cc gc (Fi h 19 5) g) false true) 1 0)], h, 198, sl) (33, [some (.ref 5), some (.ref 19), some (.int (nI g))], [.int (cond (cond (pm_cmp .ne ((Ar h 9) g) (nI 4)) false (cond (v74 q cc gc (Fi h 19 5) g) false true)) 1 0)], h, 198, sl)) = some R := en_J (fun z2 => by
      have hh := en_t z2 hh
      have hh : pm_run PT n fr lo 41 (20, [some (.ref 5), some (.ref 19), some (.int (nI g))], [], h, 198, sl) = some R := hh
      obtain ⟨n, hh⟩ := rn_i rfl rfl rfl rfl hh
      obtain ⟨n, hh⟩ := rn_i rfl rfl rfl rfl hh
      have hh : pm_run PT n fr lo 41 (22, [some (.ref 5), some (.ref 19), some (.int (nI g))], [.int (nI g), .ref 19], h, 198, sl) = some R := hh
      obtain ⟨n, fr1, lo1, r1, hh1, hh⟩ := rn_call (w := 0) (t := 74) rfl rfl hh
      have er3 := v74t_ok (g := g) hw (by omega) hh1
      subst er3
      have hh : pm_run PT n fr lo 41 (25, [some (.ref 5), some (.ref 19), some (.int (nI g))], [.int (cond (v74 q cc gc (Fi h 19 5) g) 1 0)], h, 198, sl) = some R := hh
      obtain ⟨n, hh⟩ := en_zn (cc := .ne) (off := 7) (t := 32) (b := v74 q cc gc (Fi h 19 5) g) eb_ne rfl rfl hh
      have hj5 : ∃ mJ, pm_run PT mJ fr lo 41 (cond (v74 q cc gc (Fi h 19 5) g) (33, [some (.ref 5), some (.ref 19), some (.int (nI g))], [.int (nI 0)], h, 198, sl) (33, [some (.ref 5), some (.ref 19), some (.int (nI g))], [.int (nI 1)], h, 198, sl)) = some R := en_J (fun z4 => by
          have hh := en_t z4 hh
          have hh : pm_run PT n fr lo 41 (32, [some (.ref 5), some (.ref 19), some (.int (nI g))], [], h, 198, sl) = some R := hh
          obtain ⟨n, hh⟩ := rn_i rfl rfl rfl rfl hh
          exact ⟨n, hh⟩) (fun z4 => by
          have hh := en_f z4 hh
          have hh : pm_run PT n fr lo 41 (28, [some (.ref 5), some (.ref 19), some (.int (nI g))], [], h, 198, sl) = some R := hh
          obtain ⟨n, hh⟩ := rn_i rfl rfl rfl rfl hh
          obtain ⟨n, hh⟩ := rn_i rfl rfl rfl rfl hh
          exact ⟨n, hh⟩)
      obtain ⟨n, hh⟩ := hj5
      rw [show (cond (v74 q cc gc (Fi h 19 5) g) (33, [some (.ref 5), some (.ref 19), some (.int (nI g))], [.int (nI 0)], h, 198, sl) (33, [some (.ref 5), some (.ref 19), some (.int (nI g))], [.int (nI 1)], h, 198, sl) : pm_St) = (33, [some (.ref 5), some (.ref 19), some (.int (nI g))], [.int (cond (cond (v74 q cc gc (Fi h 19 5) g) false true) 1 0)], h, 198, sl) from by cases (v74 q cc gc (Fi h 19 5) g) <;> rfl] at hh
      exact ⟨n, hh⟩) (fun z2 => by
      have hh := en_f z2 hh
      have hh : pm_run PT n fr lo 41 (10, [some (.ref 5), some (.ref 19), some (.int (nI g))], [], h, 198, sl) = some R := hh
      obtain ⟨n, hh⟩ := rn_i rfl rfl rfl rfl hh
      have hh : pm_run PT n fr lo 41 (11, [some (.ref 5), some (.ref 19), some (.int (nI g))], [.ref 5], h, 198, sl) = some R := hh
      obtain ⟨n, hh⟩ := rn_gr hw.wt rfl rfl (by decide) rfl (by decide) (show _ = some (2, ((9 : Nat) : Int), 1) from rfl) rfl hh
      obtain ⟨n, hh⟩ := rn_i rfl rfl rfl rfl hh
      have hh : pm_run PT n fr lo 41 (15, [some (.ref 5), some (.ref 19), some (.int (nI g))], [.int (nI g), .ref 9], h, 198, sl) = some R := hh
      obtain ⟨n, hx6, hh⟩ := en_lu (t := g) (f := Ar h 9) (w := (Ar h 9) g) (nI_clamp (by omega)) hw.wt rfl (by decide) rfl (by decide) rfl (fun _ => rfl) hh
      obtain ⟨n, hh⟩ := rn_i rfl rfl rfl rfl hh
      have hh : pm_run PT n fr lo 41 (17, [some (.ref 5), some (.ref 19), some (.int (nI g))], [.int (nI 4), .int ((Ar h 9) g)], h, 198, sl) = some R := hh
      obtain ⟨n, hh⟩ := en_cn (cc := .ne) (off := 15) (t := 32) (b := pm_cmp .ne ((Ar h 9) g) (nI 4)) rfl rfl rfl hh
      have hj11 : ∃ mJ, pm_run PT mJ fr lo 41 (cond (pm_cmp .ne ((Ar h 9) g) (nI 4)) (33, [some (.ref 5), some (.ref 19), some (.int (nI g))], [.int (nI 0)], h, 198, sl) (33, [some (.ref 5), some (.ref 19), some (.int (nI g))], [.int (cond (cond (v74 q cc gc (Fi h 19 5) g) false true) 1 0)], h, 198, sl)) = some R := en_J (fun z7 => by
          have hh := en_t z7 hh
          have hh : pm_run PT n fr lo 41 (32, [some (.ref 5), some (.ref 19), some (.int (nI g))], [], h, 198, sl) = some R := hh
          obtain ⟨n, hh⟩ := rn_i rfl rfl rfl rfl hh
          exact ⟨n, hh⟩) (fun z7 => by
          have hh := en_f z7 hh
          have hh : pm_run PT n fr lo 41 (20, [some (.ref 5), some (.ref 19), some (.int (nI g))], [], h, 198, sl) = some R := hh
          obtain ⟨n, hh⟩ := rn_i rfl rfl rfl rfl hh
          obtain ⟨n, hh⟩ := rn_i rfl rfl rfl rfl hh
          have hh : pm_run PT n fr lo 41 (22, [some (.ref 5), some (.ref 19), some (.int (nI g))], [.int (nI g), .ref 19], h, 198, sl) = some R := hh
          obtain ⟨n, fr1, lo1, r1, hh1, hh⟩ := rn_call (w := 0) (t := 74) rfl rfl hh
          have er8 := v74t_ok (g := g) hw (by omega) hh1
          subst er8
          have hh : pm_run PT n fr lo 41 (25, [some (.ref 5), some (.ref 19), some (.int (nI g))], [.int (cond (v74 q cc gc (Fi h 19 5) g) 1 0)], h, 198, sl) = some R := hh
          obtain ⟨n, hh⟩ := en_zn (cc := .ne) (off := 7) (t := 32) (b := v74 q cc gc (Fi h 19 5) g) eb_ne rfl rfl hh
          have hj10 : ∃ mJ, pm_run PT mJ fr lo 41 (cond (v74 q cc gc (Fi h 19 5) g) (33, [some (.ref 5), some (.ref 19), some (.int (nI g))], [.int (nI 0)], h, 198, sl) (33, [some (.ref 5), some (.ref 19), some (.int (nI g))], [.int (nI 1)], h, 198, sl)) = some R := en_J (fun z9 => by
              have hh := en_t z9 hh
              have hh : pm_run PT n fr lo 41 (32, [some (.ref 5), some (.ref 19), some (.int (nI g))], [], h, 198, sl) = some R := hh
              obtain ⟨n, hh⟩ := rn_i rfl rfl rfl rfl hh
              exact ⟨n, hh⟩) (fun z9 => by
              have hh := en_f z9 hh
              have hh : pm_run PT n fr lo 41 (28, [some (.ref 5), some (.ref 19), some (.int (nI g))], [], h, 198, sl) = some R := hh
              obtain ⟨n, hh⟩ := rn_i rfl rfl rfl rfl hh
              obtain ⟨n, hh⟩ := rn_i rfl rfl rfl rfl hh
              exact ⟨n, hh⟩)
          obtain ⟨n, hh⟩ := hj10
          rw [show (cond (v74 q cc gc (Fi h 19 5) g) (33, [some (.ref 5), some (.ref 19), some (.int (nI g))], [.int (nI 0)], h, 198, sl) (33, [some (.ref 5), some (.ref 19), some (.int (nI g))], [.int (nI 1)], h, 198, sl) : pm_St) = (33, [some (.ref 5), some (.ref 19), some (.int (nI g))], [.int (cond (cond (v74 q cc gc (Fi h 19 5) g) false true) 1 0)], h, 198, sl) from by cases (v74 q cc gc (Fi h 19 5) g) <;> rfl] at hh
          exact ⟨n, hh⟩)
      obtain ⟨n, hh⟩ := hj11
      rw [show (cond (pm_cmp .ne ((Ar h 9) g) (nI 4)) (33, [some (.ref 5), some (.ref 19), some (.int (nI g))], [.int (nI 0)], h, 198, sl) (33, [some (.ref 5), some (.ref 19), some (.int (nI g))], [.int (cond (cond (v74 q cc gc (Fi h 19 5) g) false true) 1 0)], h, 198, sl) : pm_St) = (33, [some (.ref 5), some (.ref 19), some (.int (nI g))], [.int (cond (cond (pm_cmp .ne ((Ar h 9) g) (nI 4)) false (cond (v74 q cc gc (Fi h 19 5) g) false true)) 1 0)], h, 198, sl) from by cases (pm_cmp .ne ((Ar h 9) g) (nI 4)) <;> rfl] at hh
      exact ⟨n, hh⟩)
  obtain ⟨n, hh⟩ := hj12
  rw [show (cond (pm_cmp .eq ((Ar h 9) g) (nI 1)) (33, [some (.ref 5), some (.ref 19), some (.int (nI g))], [.int (cond (cond (v74 q cc gc (Fi h 19 5) g) false true) 1 0)], h, 198, sl) (33, [some (.ref 5), some (.ref 19), some (.int (nI g))], [.int (cond (cond (pm_cmp .ne ((Ar h 9) g) (nI 4)) false (cond (v74 q cc gc (Fi h 19 5) g) false true)) 1 0)], h, 198, sl) : pm_St) = (33, [some (.ref 5), some (.ref 19), some (.int (nI g))], [.int (cond (cond (pm_cmp .eq ((Ar h 9) g) (nI 1)) (cond (v74 q cc gc (Fi h 19 5) g) false true) (cond (pm_cmp .ne ((Ar h 9) g) (nI 4)) false (cond (v74 q cc gc (Fi h 19 5) g) false true))) 1 0)], h, 198, sl) from by cases (pm_cmp .eq ((Ar h 9) g) (nI 1)) <;> rfl] at hh
  have hh : pm_run PT n fr lo 41 (33, [some (.ref 5), some (.ref 19), some (.int (nI g))], [.int (cond (cond (pm_cmp .eq ((Ar h 9) g) (nI 1)) (cond (v74 q cc gc (Fi h 19 5) g) false true) (cond (pm_cmp .ne ((Ar h 9) g) (nI 4)) false (cond (v74 q cc gc (Fi h 19 5) g) false true))) 1 0)], h, 198, sl) = some R := hh
  have er13 : R = (some (.int (cond (cond (pm_cmp .eq ((Ar h 9) g) (nI 1)) (cond (v74 q cc gc (Fi h 19 5) g) false true) (cond (pm_cmp .ne ((Ar h 9) g) (nI 4)) false (cond (v74 q cc gc (Fi h 19 5) g) false true))) 1 0)), h, 198, sl) := (rn_ret rfl (Or.inr rfl) hh).2
  have ed : v41 q cc gc (Ar h 9) (Fi h 19 5) g = cond (pm_cmp .eq ((Ar h 9) g) (nI 1)) (cond (v74 q cc gc (Fi h 19 5) g) false true) (cond (pm_cmp .ne ((Ar h 9) g) (nI 4)) false (cond (v74 q cc gc (Fi h 19 5) g) false true)) := rfl
  rw [ed]
  exact er13
def v43_25b (q : QT) (cc gc : Nat) (h : pm_H) (m2 : Nat) (i : Nat) (x3 : Int32) : Int32 × pm_H := cond (pm_cmp .ne ((Ar h 17) i) (nI m2)) (x3, h) (cond (v41 q cc gc (Ar h 9) (Fi h 13 5) i) (cond (pm_cmp .ge x3 ((Ar h 11) i)) (x3 - ((Ar h 11) i), h) (nI 0, fset h 13 5 (.int ((Fi h 13 5) ||| (shl (nI 1) (nI i)))))) (x3, h))
def v43_25 (q : QT) (cc gc : Nat) (m2 : Nat) (j i : Nat) (a : Int32 × pm_H) : Int32 × pm_H := lp (fun i a => v43_25b q cc gc a.2 m2 i a.1) j i a
theorem v43_25_e {n fr lo sl cc gc : Nat} {q : QT} {h : pm_H} {R : pm_Rs} {m2 : Nat} {i : Nat} {x3 : Int32} (hw : HC q cc gc h) (h_m2 : m2 < 10000) (hi : gc ≤ i) (hI : i < 1000000) (hh : pm_run PT n fr lo 43 (25, [some (.ref 5), some (.ref 13), some (.int (nI m2)), some (.int x3), some (.int (nI i))], [], h, 198, sl) = some R) : ∃ m, pm_run PT m fr lo 43 (100, [some (.ref 5), some (.ref 13), some (.int (nI m2)), some (.int x3), some (.int (nI i))], [], h, 198, sl) = some R := by
  have hcc := hw.cb
  have hgc := hw.gb
  have hzr := hw.zr
  obtain ⟨n, hh⟩ := rn_i rfl rfl rfl rfl hh
  obtain ⟨n, hh⟩ := rn_i rfl rfl rfl rfl hh
  have hh : pm_run PT n fr lo 43 (28, [some (.ref 5), some (.ref 13), some (.int (nI m2)), some (.int x3), some (.int (nI i))], [.ref 5, .int (nI i)], h, 198, sl) = some R := hh
  obtain ⟨n, hh⟩ := rn_gi (x := nI gc) hw.wt rfl rfl (by decide) rfl (by decide) rfl hw.x1 hh
  have hh : pm_run PT n fr lo 43 (31, [some (.ref 5), some (.ref 13), some (.int (nI m2)), some (.int x3), some (.int (nI i))], [.int (nI gc), .int (nI i)], h, 198, sl) = some R := hh
  obtain ⟨n, hh⟩ := en_cn (cc := .ge) (off := 69) (t := 100) (b := decide (gc ≤ i)) (hI_ge (by omega) (by omega)) rfl rfl hh
  have hh := en_t (show decide (gc ≤ i) = true from decide_eq_true (by omega)) hh
  have hh : pm_run PT n fr lo 43 (100, [some (.ref 5), some (.ref 13), some (.int (nI m2)), some (.int x3), some (.int (nI i))], [], h, 198, sl) = some R := hh
  exact ⟨n, hh⟩
theorem v43_25_s {n fr lo sl cc gc : Nat} {q : QT} {h : pm_H} {R : pm_Rs} {m2 : Nat} {i : Nat} {x3 : Int32} (hw : HC q cc gc h) (h_m2 : m2 < 10000) (hi : i < gc) (hI : i < 1000000) (hh : pm_run PT n fr lo 43 (25, [some (.ref 5), some (.ref 13), some (.int (nI m2)), some (.int x3), some (.int (nI i))], [], h, 198, sl) = some R) : ∃ m, HC q cc gc ((v43_25b q cc gc h m2 i x3).2) ∧ frm [13] [(13, 5)] h ((v43_25b q cc gc h m2 i x3).2) ∧ pm_run PT m fr lo 43 (25, [some (.ref 5), some (.ref 13), some (.int (nI m2)), some (.int ((v43_25b q cc gc h m2 i x3).1)), some (.int (nI (i + 1)))], [], (v43_25b q cc gc h m2 i x3).2, 198, sl) = some R := by
  have hcc := hw.cb
  have hgc := hw.gb
  have hzr := hw.zr
  obtain ⟨n, hh⟩ := rn_i rfl rfl rfl rfl hh
  obtain ⟨n, hh⟩ := rn_i rfl rfl rfl rfl hh
  have hh : pm_run PT n fr lo 43 (28, [some (.ref 5), some (.ref 13), some (.int (nI m2)), some (.int x3), some (.int (nI i))], [.ref 5, .int (nI i)], h, 198, sl) = some R := hh
  obtain ⟨n, hh⟩ := rn_gi (x := nI gc) hw.wt rfl rfl (by decide) rfl (by decide) rfl hw.x1 hh
  have hh : pm_run PT n fr lo 43 (31, [some (.ref 5), some (.ref 13), some (.int (nI m2)), some (.int x3), some (.int (nI i))], [.int (nI gc), .int (nI i)], h, 198, sl) = some R := hh
  obtain ⟨n, hh⟩ := en_cn (cc := .ge) (off := 69) (t := 100) (b := decide (gc ≤ i)) (hI_ge (by omega) (by omega)) rfl rfl hh
  have hh := en_f (show decide (gc ≤ i) = false from decide_eq_false (by omega)) hh
  have hh : pm_run PT n fr lo 43 (34, [some (.ref 5), some (.ref 13), some (.int (nI m2)), some (.int x3), some (.int (nI i))], [], h, 198, sl) = some R := hh
  obtain ⟨n, hh⟩ := rn_i rfl rfl rfl rfl hh
  have hh : pm_run PT n fr lo 43 (35, [some (.ref 5), some (.ref 13), some (.int (nI m2)), some (.int x3), some (.int (nI i))], [.ref 13], h, 198, sl) = some R := hh
  obtain ⟨n, hh⟩ := rn_gr hw.wt rfl rfl (by decide) rfl (by decide) (show _ = some (2, ((17 : Nat) : Int), 1) from rfl) rfl hh
  obtain ⟨n, hh⟩ := rn_i rfl rfl rfl rfl hh
  have hh : pm_run PT n fr lo 43 (40, [some (.ref 5), some (.ref 13), some (.int (nI m2)), some (.int x3), some (.int (nI i))], [.int (nI i), .ref 17], h, 198, sl) = some R := hh
  obtain ⟨n, hx3, hh⟩ := en_lu (t := i) (f := Ar h 17) (w := (Ar h 17) i) (nI_clamp (by omega)) hw.wt rfl (by decide) rfl (by decide) rfl (fun _ => rfl) hh
  obtain ⟨n, hh⟩ := rn_i rfl rfl rfl rfl hh
  have hh : pm_run PT n fr lo 43 (42, [some (.ref 5), some (.ref 13), some (.int (nI m2)), some (.int x3), some (.int (nI i))], [.int (nI m2), .int ((Ar h 17) i)], h, 198, sl) = some R := hh
  obtain ⟨n, hh⟩ := en_cn (cc := .ne) (off := 52) (t := 94) (b := pm_cmp .ne ((Ar h 17) i) (nI m2)) rfl rfl rfl hh
  cases z4 : pm_cmp .ne ((Ar h 17) i) (nI m2) with
  | true =>
    have hh := en_t z4 hh
    have hh : pm_run PT n fr lo 43 (94, [some (.ref 5), some (.ref 13), some (.int (nI m2)), some (.int x3), some (.int (nI i))], [], h, 198, sl) = some R := hh
    have hh : pm_run PT n fr lo 43 (94, [some (.ref 5), some (.ref 13), some (.int (nI m2)), some (.int x3), some (.int (nI i))], [], h, 198, sl) = some R := hh
    obtain ⟨n, hh⟩ := en_inc (x := i) (c := 1) (j := 4) rfl rfl (by decide) hh
    have hh : pm_run PT n fr lo 43 (97, [some (.ref 5), some (.ref 13), some (.int (nI m2)), some (.int x3), some (.int (nI (i + 1)))], [], h, 198, sl) = some R := hh
    obtain ⟨n, hh⟩ := rn_i rfl rfl rfl rfl hh
    have ed : v43_25b q cc gc h m2 i x3 = (x3, h) := (ct z4).trans rfl
    rw [ed]
    exact ⟨n, hw, fr_0, hh⟩
  | false =>
    have hh := en_f z4 hh
    have hh : pm_run PT n fr lo 43 (45, [some (.ref 5), some (.ref 13), some (.int (nI m2)), some (.int x3), some (.int (nI i))], [], h, 198, sl) = some R := hh
    obtain ⟨n, hh⟩ := rn_i rfl rfl rfl rfl hh
    obtain ⟨n, hh⟩ := rn_i rfl rfl rfl rfl hh
    obtain ⟨n, hh⟩ := rn_i rfl rfl rfl rfl hh
    have hh : pm_run PT n fr lo 43 (49, [some (.ref 5), some (.ref 13), some (.int (nI m2)), some (.int x3), some (.int (nI i))], [.int (nI i), .ref 13, .ref 5], h, 198, sl) = some R := hh
    obtain ⟨n, fr1, lo1, r1, hh1, hh⟩ := rn_call (w := 0) (t := 41) rfl rfl hh
    have er5 := v41_ok (g := i) hw (by omega) hh1
    subst er5
    have hh : pm_run PT n fr lo 43 (52, [some (.ref 5), some (.ref 13), some (.int (nI m2)), some (.int x3), some (.int (nI i))], [.int (cond (v41 q cc gc (Ar h 9) (Fi h 13 5) i) 1 0)], h, 198, sl) = some R := hh
    obtain ⟨n, hh⟩ := en_zn (cc := .eq) (off := 42) (t := 94) (b := !(v41 q cc gc (Ar h 9) (Fi h 13 5) i)) eb_eq rfl rfl hh
    cases z6 : v41 q cc gc (Ar h 9) (Fi h 13 5) i with
    | true =>
      have hh := en_nt z6 hh
      have hh : pm_run PT n fr lo 43 (55, [some (.ref 5), some (.ref 13), some (.int (nI m2)), some (.int x3), some (.int (nI i))], [], h, 198, sl) = some R := hh
      obtain ⟨n, hh⟩ := rn_i rfl rfl rfl rfl hh
      obtain ⟨n, hh⟩ := rn_i rfl rfl rfl rfl hh
      have hh : pm_run PT n fr lo 43 (57, [some (.ref 5), some (.ref 13), some (.int (nI m2)), some (.int x3), some (.int (nI i))], [.ref 5, .int x3], h, 198, sl) = some R := hh
      obtain ⟨n, hh⟩ := rn_gr hw.wt rfl rfl (by decide) rfl (by decide) (show _ = some (2, ((11 : Nat) : Int), 1) from rfl) rfl hh
      obtain ⟨n, hh⟩ := rn_i rfl rfl rfl rfl hh
      have hh : pm_run PT n fr lo 43 (62, [some (.ref 5), some (.ref 13), some (.int (nI m2)), some (.int x3), some (.int (nI i))], [.int (nI i), .ref 11, .int x3], h, 198, sl) = some R := hh
      obtain ⟨n, hx7, hh⟩ := en_lu (t := i) (f := Ar h 11) (w := (Ar h 11) i) (nI_clamp (by omega)) hw.wt rfl (by decide) rfl (by decide) rfl (fun _ => rfl) hh
      have hh : pm_run PT n fr lo 43 (63, [some (.ref 5), some (.ref 13), some (.int (nI m2)), some (.int x3), some (.int (nI i))], [.int ((Ar h 11) i), .int x3], h, 198, sl) = some R := hh
      obtain ⟨n, hh⟩ := en_cn (cc := .ge) (off := 21) (t := 84) (b := pm_cmp .ge x3 ((Ar h 11) i)) rfl rfl rfl hh
      cases z8 : pm_cmp .ge x3 ((Ar h 11) i) with
      | true =>
        have hh := en_t z8 hh
        have hh : pm_run PT n fr lo 43 (84, [some (.ref 5), some (.ref 13), some (.int (nI m2)), some (.int x3), some (.int (nI i))], [], h, 198, sl) = some R := hh
        obtain ⟨n, hh⟩ := rn_i rfl rfl rfl rfl hh
        obtain ⟨n, hh⟩ := rn_i rfl rfl rfl rfl hh
        have hh : pm_run PT n fr lo 43 (86, [some (.ref 5), some (.ref 13), some (.int (nI m2)), some (.int x3), some (.int (nI i))], [.ref 5, .int x3], h, 198, sl) = some R := hh
        obtain ⟨n, hh⟩ := rn_gr hw.wt rfl rfl (by decide) rfl (by decide) (show _ = some (2, ((11 : Nat) : Int), 1) from rfl) rfl hh
        obtain ⟨n, hh⟩ := rn_i rfl rfl rfl rfl hh
        have hh : pm_run PT n fr lo 43 (91, [some (.ref 5), some (.ref 13), some (.int (nI m2)), some (.int x3), some (.int (nI i))], [.int (nI i), .ref 11, .int x3], h, 198, sl) = some R := hh
        obtain ⟨n, hx9, hh⟩ := en_lu (t := i) (f := Ar h 11) (w := (Ar h 11) i) (nI_clamp (by omega)) hw.wt rfl (by decide) rfl (by decide) rfl (fun _ => rfl) hh
        obtain ⟨n, hh⟩ := rn_i rfl rfl rfl rfl hh
        obtain ⟨n, hh⟩ := rn_i rfl rfl rfl rfl hh
        have hh : pm_run PT n fr lo 43 (94, [some (.ref 5), some (.ref 13), some (.int (nI m2)), some (.int (x3 - ((Ar h 11) i))), some (.int (nI i))], [], h, 198, sl) = some R := hh
        obtain ⟨n, hh⟩ := en_inc (x := i) (c := 1) (j := 4) rfl rfl (by decide) hh
        have hh : pm_run PT n fr lo 43 (97, [some (.ref 5), some (.ref 13), some (.int (nI m2)), some (.int (x3 - ((Ar h 11) i))), some (.int (nI (i + 1)))], [], h, 198, sl) = some R := hh
        obtain ⟨n, hh⟩ := rn_i rfl rfl rfl rfl hh
        have ed : v43_25b q cc gc h m2 i x3 = (x3 - ((Ar h 11) i), h) := (cf z4).trans ((ct z6).trans ((ct z8).trans rfl))
        rw [ed]
        exact ⟨n, hw, fr_0, hh⟩
      | false =>
        have hh := en_f z8 hh
        have hh : pm_run PT n fr lo 43 (66, [some (.ref 5), some (.ref 13), some (.int (nI m2)), some (.int x3), some (.int (nI i))], [], h, 198, sl) = some R := hh
        obtain ⟨n, hh⟩ := rn_i rfl rfl rfl rfl hh
        obtain ⟨n, hh⟩ := rn_i rfl rfl rfl rfl hh
        obtain ⟨n, hh⟩ := rn_i rfl rfl rfl rfl hh
        obtain ⟨n, hh⟩ := rn_i rfl rfl rfl rfl hh
        have hh : pm_run PT n fr lo 43 (70, [some (.ref 5), some (.ref 13), some (.int (nI m2)), some (.int (nI 0)), some (.int (nI i))], [.ref 13, .ref 13], h, 198, sl) = some R := hh
        obtain ⟨n, hh⟩ := rn_gi (x := Fi h 13 5) hw.wt rfl rfl (by decide) rfl (by decide) rfl rfl hh
        obtain ⟨n, hh⟩ := rn_i rfl rfl rfl rfl hh
        obtain ⟨n, hh⟩ := rn_i rfl rfl rfl rfl hh
        obtain ⟨n, hh⟩ := rn_i rfl rfl rfl rfl hh
        obtain ⟨n, hh⟩ := rn_i rfl rfl rfl rfl hh
        have hh : pm_run PT n fr lo 43 (78, [some (.ref 5), some (.ref 13), some (.int (nI m2)), some (.int (nI 0)), some (.int (nI i))], [.int ((Fi h 13 5) ||| (shl (nI 1) (nI i))), .ref 13], h, 198, sl) = some R := hh
        obtain ⟨n, hh⟩ := rn_pi hw.wt rfl rfl (by decide) rfl (by decide) rfl hh
        obtain ⟨n, hh⟩ := rn_i rfl rfl rfl rfl hh
        have hh : pm_run PT n fr lo 43 (94, [some (.ref 5), some (.ref 13), some (.int (nI m2)), some (.int (nI 0)), some (.int (nI i))], [], fset h 13 5 (.int ((Fi h 13 5) ||| (shl (nI 1) (nI i)))), 198, sl) = some R := hh
        obtain ⟨n, hh⟩ := en_inc (x := i) (c := 1) (j := 4) rfl rfl (by decide) hh
        have hh : pm_run PT n fr lo 43 (97, [some (.ref 5), some (.ref 13), some (.int (nI m2)), some (.int (nI 0)), some (.int (nI (i + 1)))], [], fset h 13 5 (.int ((Fi h 13 5) ||| (shl (nI 1) (nI i)))), 198, sl) = some R := hh
        obtain ⟨n, hh⟩ := rn_i rfl rfl rfl rfl hh
        have ed : v43_25b q cc gc h m2 i x3 = (nI 0, fset h 13 5 (.int ((Fi h 13 5) ||| (shl (nI 1) (nI i))))) := (cf z4).trans ((ct z6).trans ((cf z8).trans rfl))
        rw [ed]
        exact ⟨n, (hc_f rfl rfl (by decide) rfl hw), (fr_f rfl rfl fr_0), hh⟩
    | false =>
      have hh := en_nf z6 hh
      have hh : pm_run PT n fr lo 43 (94, [some (.ref 5), some (.ref 13), some (.int (nI m2)), some (.int x3), some (.int (nI i))], [], h, 198, sl) = some R := hh
      have hh : pm_run PT n fr lo 43 (94, [some (.ref 5), some (.ref 13), some (.int (nI m2)), some (.int x3), some (.int (nI i))], [], h, 198, sl) = some R := hh
      obtain ⟨n, hh⟩ := en_inc (x := i) (c := 1) (j := 4) rfl rfl (by decide) hh
      have hh : pm_run PT n fr lo 43 (97, [some (.ref 5), some (.ref 13), some (.int (nI m2)), some (.int x3), some (.int (nI (i + 1)))], [], h, 198, sl) = some R := hh
      obtain ⟨n, hh⟩ := rn_i rfl rfl rfl rfl hh
      have ed : v43_25b q cc gc h m2 i x3 = (x3, h) := (cf z4).trans ((cf z6).trans rfl)
      rw [ed]
      exact ⟨n, hw, fr_0, hh⟩
theorem v43_25_ok {fr lo sl cc gc : Nat} {q : QT} {R : pm_Rs} {m2 : Nat} : ∀ {j i : Nat} {x3 : Int32} {h : pm_H} {n : Nat}, gc - i = j → i + j < 1000000 → HC q cc gc h → m2 < 10000 → pm_run PT n fr lo 43 (25, [some (.ref 5), some (.ref 13), some (.int (nI m2)), some (.int x3), some (.int (nI i))], [], h, 198, sl) = some R → ∃ m wc, HC q cc gc ((v43_25 q cc gc m2 j i (x3, h)).2) ∧ frm [13] [(13, 5)] h ((v43_25 q cc gc m2 j i (x3, h)).2) ∧ pm_run PT m fr lo 43 (100, [some (.ref 5), some (.ref 13), some (.int (nI m2)), some (.int ((v43_25 q cc gc m2 j i (x3, h)).1)), wc], [], (v43_25 q cc gc m2 j i (x3, h)).2, 198, sl) = some R := by
  intro j
  induction j with
  | zero =>
    intro i x3 h n e eI hw h_m2 hh
    obtain ⟨n, hh⟩ := v43_25_e hw h_m2 (by omega) (by omega) hh
    exact ⟨n, _, hw, fr_0, hh⟩
  | succ j ih =>
    intro i x3 h n e eI hw h_m2 hh
    obtain ⟨n, hc, hf, hh⟩ := v43_25_s hw h_m2 (by omega) (by omega) hh
    obtain ⟨n, wc, hc2, hf2, hh⟩ := ih (by omega) (by omega) hc h_m2 hh
    exact ⟨n, wc, hc2, fr_t hf2 hf, hh⟩
theorem v43_25_fb {cc gc : Nat} {q : QT} {h : pm_H} {m2 : Nat} {i : Nat} {x3 : Int32} (hw : HC q cc gc h) : HC q cc gc ((v43_25b q cc gc h m2 i x3).2) ∧ frm [13] [(13, 5)] h ((v43_25b q cc gc h m2 i x3).2) := by
  unfold v43_25b
  refine cd_s (P := fun (p : Int32 × pm_H) => HC q cc gc ((p).2) ∧ frm [13] [(13, 5)] h ((p).2)) (b := pm_cmp .ne ((Ar h 17) i) (nI m2)) (fun _ => ?_) (fun _ => ?_)
  · show HC q cc gc (h) ∧ frm [13] [(13, 5)] h (h)
    exact ⟨hw, fr_0⟩
  · refine cd_s (P := fun (p : Int32 × pm_H) => HC q cc gc ((p).2) ∧ frm [13] [(13, 5)] h ((p).2)) (b := v41 q cc gc (Ar h 9) (Fi h 13 5) i) (fun _ => ?_) (fun _ => ?_)
    · refine cd_s (P := fun (p : Int32 × pm_H) => HC q cc gc ((p).2) ∧ frm [13] [(13, 5)] h ((p).2)) (b := pm_cmp .ge x3 ((Ar h 11) i)) (fun _ => ?_) (fun _ => ?_)
      · show HC q cc gc (h) ∧ frm [13] [(13, 5)] h (h)
        exact ⟨hw, fr_0⟩
      · show HC q cc gc (fset h 13 5 (.int ((Fi h 13 5) ||| (shl (nI 1) (nI i))))) ∧ frm [13] [(13, 5)] h (fset h 13 5 (.int ((Fi h 13 5) ||| (shl (nI 1) (nI i)))))
        exact ⟨(hc_f rfl rfl (by decide) rfl hw), (fr_f rfl rfl fr_0)⟩
    · show HC q cc gc (h) ∧ frm [13] [(13, 5)] h (h)
      exact ⟨hw, fr_0⟩
theorem v43_25_fr {cc gc : Nat} {q : QT} {m2 : Nat} : ∀ {j i : Nat} {x3 : Int32} {h : pm_H}, HC q cc gc h → HC q cc gc ((v43_25 q cc gc m2 j i (x3, h)).2) ∧ frm [13] [(13, 5)] h ((v43_25 q cc gc m2 j i (x3, h)).2) := by
  intro j
  induction j with
  | zero =>
    intro i x3 h hw
    exact ⟨hw, fr_0⟩
  | succ j ih =>
    intro i x3 h hw
    obtain ⟨a1, a2⟩ := v43_25_fb (i := i) (m2 := m2) (x3 := x3) hw
    obtain ⟨b1, b2⟩ := ih (i := i + 1) a1
    exact ⟨b1, fr_t b2 a2⟩
def v43 (q : QT) (cc gc : Nat) (h : pm_H) (c : Nat) : pm_H := aset ((v43_25 q cc gc c gc 0 ((imin (nI 999) (((Ar h 14) c) + ((nI 2) * ((Ar h 6) c)))), h)).2) 14 6 (upd (Ar h 14) c ((v43_25 q cc gc c gc 0 ((imin (nI 999) (((Ar h 14) c) + ((nI 2) * ((Ar h 6) c)))), h)).1))
theorem v43_ok {n fr lo sl cc gc : Nat} {q : QT} {h : pm_H} {R : pm_Rs} {c : Nat} (hw : HC q cc gc h) (h_c : c < 10000) (hh : pm_run PT n fr lo 43 (0, pm_l0 [.ref 5, .ref 13, .int (nI c)] 5, [], h, 198, sl) = some R) : R = (none, v43 q cc gc h c, 198, sl) ∧ HC q cc gc (v43 q cc gc h c) ∧ frm [13, 14] [(13, 5)] h (v43 q cc gc h c) := by
  have hcc := hw.cb
  have hgc := hw.gb
  have hzr := hw.zr
  obtain ⟨n, hh⟩ := rn_i rfl rfl rfl rfl hh
  obtain ⟨n, hh⟩ := rn_i rfl rfl rfl rfl hh
  have hh : pm_run PT n fr lo 43 (4, [some (.ref 5), some (.ref 13), some (.int (nI c)), none, none], [.ref 13, .int (nI 999)], h, 198, sl) = some R := hh
  obtain ⟨n, hh⟩ := rn_gr hw.wt rfl rfl (by decide) rfl (by decide) (show _ = some (2, ((14 : Nat) : Int), 1) from rfl) rfl hh
  obtain ⟨n, hh⟩ := rn_i rfl rfl rfl rfl hh
  have hh : pm_run PT n fr lo 43 (8, [some (.ref 5), some (.ref 13), some (.int (nI c)), none, none], [.int (nI c), .ref 14, .int (nI 999)], h, 198, sl) = some R := hh
  obtain ⟨n, hx1, hh⟩ := en_lu (t := c) (f := Ar h 14) (w := (Ar h 14) c) (nI_clamp (by omega)) hw.wt rfl (by decide) rfl (by decide) rfl (fun _ => rfl) hh
  obtain ⟨n, hh⟩ := rn_i rfl rfl rfl rfl hh
  obtain ⟨n, hh⟩ := rn_i rfl rfl rfl rfl hh
  have hh : pm_run PT n fr lo 43 (11, [some (.ref 5), some (.ref 13), some (.int (nI c)), none, none], [.ref 5, .int (nI 2), .int ((Ar h 14) c), .int (nI 999)], h, 198, sl) = some R := hh
  obtain ⟨n, hh⟩ := rn_gr hw.wt rfl rfl (by decide) rfl (by decide) (show _ = some (2, ((6 : Nat) : Int), 1) from rfl) rfl hh
  obtain ⟨n, hh⟩ := rn_i rfl rfl rfl rfl hh
  have hh : pm_run PT n fr lo 43 (15, [some (.ref 5), some (.ref 13), some (.int (nI c)), none, none], [.int (nI c), .ref 6, .int (nI 2), .int ((Ar h 14) c), .int (nI 999)], h, 198, sl) = some R := hh
  obtain ⟨n, hx2, hh⟩ := en_lu (t := c) (f := Ar h 6) (w := (Ar h 6) c) (nI_clamp (by omega)) hw.wt rfl (by decide) rfl (by decide) rfl (fun _ => rfl) hh
  obtain ⟨n, hh⟩ := rn_i rfl rfl rfl rfl hh
  obtain ⟨n, hh⟩ := rn_i rfl rfl rfl rfl hh
  have hh : pm_run PT n fr lo 43 (18, [some (.ref 5), some (.ref 13), some (.int (nI c)), none, none], [.int (((Ar h 14) c) + ((nI 2) * ((Ar h 6) c))), .int (nI 999)], h, 198, sl) = some R := hh
  obtain ⟨n, hh⟩ := en_min rfl rfl rfl hh
  obtain ⟨n, hh⟩ := rn_i rfl rfl rfl rfl hh
  obtain ⟨n, hh⟩ := rn_i rfl rfl rfl rfl hh
  obtain ⟨n, hh⟩ := rn_i rfl rfl rfl rfl hh
  have hh : pm_run PT n fr lo 43 (25, [some (.ref 5), some (.ref 13), some (.int (nI c)), some (.int (imin (nI 999) (((Ar h 14) c) + ((nI 2) * ((Ar h 6) c))))), some (.int (nI 0))], [], h, 198, sl) = some R := hh
  obtain ⟨n, u3, hc4, hf5, hh⟩ := v43_25_ok (m2 := c)  (i := 0) (x3 := (imin (nI 999) (((Ar h 14) c) + ((nI 2) * ((Ar h 6) c))))) (j := gc) (by omega) (by omega) hw (by omega) hh
  have hh : pm_run PT n fr lo 43 (100, [some (.ref 5), some (.ref 13), some (.int (nI c)), some (.int ((v43_25 q cc gc c gc 0 ((imin (nI 999) (((Ar h 14) c) + ((nI 2) * ((Ar h 6) c)))), h)).1)), u3], [], (v43_25 q cc gc c gc 0 ((imin (nI 999) (((Ar h 14) c) + ((nI 2) * ((Ar h 6) c)))), h)).2, 198, sl) = some R := hh
  obtain ⟨n, hh⟩ := rn_i rfl rfl rfl rfl hh
  have hh : pm_run PT n fr lo 43 (101, [some (.ref 5), some (.ref 13), some (.int (nI c)), some (.int ((v43_25 q cc gc c gc 0 ((imin (nI 999) (((Ar h 14) c) + ((nI 2) * ((Ar h 6) c)))), h)).1)), u3], [.ref 13], (v43_25 q cc gc c gc 0 ((imin (nI 999) (((Ar h 14) c) + ((nI 2) * ((Ar h 6) c)))), h)).2, 198, sl) = some R := hh
  obtain ⟨n, hh⟩ := rn_gr hc4.wt rfl rfl (by decide) rfl (by decide) (show _ = some (2, ((14 : Nat) : Int), 1) from rfl) rfl hh
  obtain ⟨n, hh⟩ := rn_i rfl rfl rfl rfl hh
  obtain ⟨n, hh⟩ := rn_i rfl rfl rfl rfl hh
  have hh : pm_run PT n fr lo 43 (106, [some (.ref 5), some (.ref 13), some (.int (nI c)), some (.int ((v43_25 q cc gc c gc 0 ((imin (nI 999) (((Ar h 14) c) + ((nI 2) * ((Ar h 6) c)))), h)).1)), u3], [.int ((v43_25 q cc gc c gc 0 ((imin (nI 999) (((Ar h 14) c) + ((nI 2) * ((Ar h 6) c)))), h)).1), .int (nI c), .ref 14], (v43_25 q cc gc c gc 0 ((imin (nI 999) (((Ar h 14) c) + ((nI 2) * ((Ar h 6) c)))), h)).2, 198, sl) = some R := hh
  obtain ⟨n, hx6, hh⟩ := en_st (t := c) (f := Ar h 14) (nI_clamp (by omega)) hc4.wt rfl (by decide) rfl (by decide) ((Ar_e (hf5.1 14 rfl)).trans rfl) hh
  have er7 : R = (none, aset ((v43_25 q cc gc c gc 0 ((imin (nI 999) (((Ar h 14) c) + ((nI 2) * ((Ar h 6) c)))), h)).2) 14 6 (upd (Ar h 14) c ((v43_25 q cc gc c gc 0 ((imin (nI 999) (((Ar h 14) c) + ((nI 2) * ((Ar h 6) c)))), h)).1)), 198, sl) := rn_vret rfl rfl hh
  have ed : v43 q cc gc h c = aset ((v43_25 q cc gc c gc 0 ((imin (nI 999) (((Ar h 14) c) + ((nI 2) * ((Ar h 6) c)))), h)).2) 14 6 (upd (Ar h 14) c ((v43_25 q cc gc c gc 0 ((imin (nI 999) (((Ar h 14) c) + ((nI 2) * ((Ar h 6) c)))), h)).1)) := rfl
  refine ⟨?_, ?_, ?_⟩ <;> rw [ed]
  · exact er7
  · exact (hc_a rfl rfl hc4)
  · exact (fr_a rfl rfl (fr_g rfl rfl hf5 fr_0))
theorem v43_fr {cc gc : Nat} {q : QT} {h : pm_H} {c : Nat} (hw : HC q cc gc h) : HC q cc gc (v43 q cc gc h c) ∧ frm [13, 14] [(13, 5)] h (v43 q cc gc h c) := by
  unfold v43
  show HC q cc gc (aset ((v43_25 q cc gc c gc 0 ((imin (nI 999) (((Ar h 14) c) + ((nI 2) * ((Ar h 6) c)))), h)).2) 14 6 (upd (Ar h 14) c ((v43_25 q cc gc c gc 0 ((imin (nI 999) (((Ar h 14) c) + ((nI 2) * ((Ar h 6) c)))), h)).1))) ∧ frm [13, 14] [(13, 5)] h (aset ((v43_25 q cc gc c gc 0 ((imin (nI 999) (((Ar h 14) c) + ((nI 2) * ((Ar h 6) c)))), h)).2) 14 6 (upd (Ar h 14) c ((v43_25 q cc gc c gc 0 ((imin (nI 999) (((Ar h 14) c) + ((nI 2) * ((Ar h 6) c)))), h)).1)))
  exact ⟨(hc_a rfl rfl (v43_25_fr (m2 := c) (j := gc) (i := 0) (x3 := (imin (nI 999) (((Ar h 14) c) + ((nI 2) * ((Ar h 6) c))))) hw).1), (fr_a rfl rfl (fr_g rfl rfl (v43_25_fr (m2 := c) (j := gc) (i := 0) (x3 := (imin (nI 999) (((Ar h 14) c) + ((nI 2) * ((Ar h 6) c))))) hw).2 fr_0))⟩
def v43t_25b (q : QT) (cc gc : Nat) (h : pm_H) (m2 : Nat) (i : Nat) (x3 : Int32) : Int32 × pm_H := cond (pm_cmp .ne ((Ar h 23) i) (nI m2)) (x3, h) (cond (v41 q cc gc (Ar h 9) (Fi h 19 5) i) (cond (pm_cmp .ge x3 ((Ar h 11) i)) (x3 - ((Ar h 11) i), h) (nI 0, fset h 19 5 (.int ((Fi h 19 5) ||| (shl (nI 1) (nI i)))))) (x3, h))
def v43t_25 (q : QT) (cc gc : Nat) (m2 : Nat) (j i : Nat) (a : Int32 × pm_H) : Int32 × pm_H := lp (fun i a => v43t_25b q cc gc a.2 m2 i a.1) j i a
theorem v43t_25_e {n fr lo sl cc gc : Nat} {q : QT} {h : pm_H} {R : pm_Rs} {m2 : Nat} {i : Nat} {x3 : Int32} (hw : HC q cc gc h) (h_m2 : m2 < 10000) (hi : gc ≤ i) (hI : i < 1000000) (hh : pm_run PT n fr lo 43 (25, [some (.ref 5), some (.ref 19), some (.int (nI m2)), some (.int x3), some (.int (nI i))], [], h, 198, sl) = some R) : ∃ m, pm_run PT m fr lo 43 (100, [some (.ref 5), some (.ref 19), some (.int (nI m2)), some (.int x3), some (.int (nI i))], [], h, 198, sl) = some R := by
  have hcc := hw.cb
  have hgc := hw.gb
  have hzr := hw.zr
  obtain ⟨n, hh⟩ := rn_i rfl rfl rfl rfl hh
  obtain ⟨n, hh⟩ := rn_i rfl rfl rfl rfl hh
  have hh : pm_run PT n fr lo 43 (28, [some (.ref 5), some (.ref 19), some (.int (nI m2)), some (.int x3), some (.int (nI i))], [.ref 5, .int (nI i)], h, 198, sl) = some R := hh
  obtain ⟨n, hh⟩ := rn_gi (x := nI gc) hw.wt rfl rfl (by decide) rfl (by decide) rfl hw.x1 hh
  have hh : pm_run PT n fr lo 43 (31, [some (.ref 5), some (.ref 19), some (.int (nI m2)), some (.int x3), some (.int (nI i))], [.int (nI gc), .int (nI i)], h, 198, sl) = some R := hh
  obtain ⟨n, hh⟩ := en_cn (cc := .ge) (off := 69) (t := 100) (b := decide (gc ≤ i)) (hI_ge (by omega) (by omega)) rfl rfl hh
  have hh := en_t (show decide (gc ≤ i) = true from decide_eq_true (by omega)) hh
  have hh : pm_run PT n fr lo 43 (100, [some (.ref 5), some (.ref 19), some (.int (nI m2)), some (.int x3), some (.int (nI i))], [], h, 198, sl) = some R := hh
  exact ⟨n, hh⟩
theorem v43t_25_s {n fr lo sl cc gc : Nat} {q : QT} {h : pm_H} {R : pm_Rs} {m2 : Nat} {i : Nat} {x3 : Int32} (hw : HC q cc gc h) (h_m2 : m2 < 10000) (hi : i < gc) (hI : i < 1000000) (hh : pm_run PT n fr lo 43 (25, [some (.ref 5), some (.ref 19), some (.int (nI m2)), some (.int x3), some (.int (nI i))], [], h, 198, sl) = some R) : ∃ m, HC q cc gc ((v43t_25b q cc gc h m2 i x3).2) ∧ frm [19] [(19, 5)] h ((v43t_25b q cc gc h m2 i x3).2) ∧ pm_run PT m fr lo 43 (25, [some (.ref 5), some (.ref 19), some (.int (nI m2)), some (.int ((v43t_25b q cc gc h m2 i x3).1)), some (.int (nI (i + 1)))], [], (v43t_25b q cc gc h m2 i x3).2, 198, sl) = some R := by
  have hcc := hw.cb
  have hgc := hw.gb
  have hzr := hw.zr
  obtain ⟨n, hh⟩ := rn_i rfl rfl rfl rfl hh
  obtain ⟨n, hh⟩ := rn_i rfl rfl rfl rfl hh
  have hh : pm_run PT n fr lo 43 (28, [some (.ref 5), some (.ref 19), some (.int (nI m2)), some (.int x3), some (.int (nI i))], [.ref 5, .int (nI i)], h, 198, sl) = some R := hh
  obtain ⟨n, hh⟩ := rn_gi (x := nI gc) hw.wt rfl rfl (by decide) rfl (by decide) rfl hw.x1 hh
  have hh : pm_run PT n fr lo 43 (31, [some (.ref 5), some (.ref 19), some (.int (nI m2)), some (.int x3), some (.int (nI i))], [.int (nI gc), .int (nI i)], h, 198, sl) = some R := hh
  obtain ⟨n, hh⟩ := en_cn (cc := .ge) (off := 69) (t := 100) (b := decide (gc ≤ i)) (hI_ge (by omega) (by omega)) rfl rfl hh
  have hh := en_f (show decide (gc ≤ i) = false from decide_eq_false (by omega)) hh
  have hh : pm_run PT n fr lo 43 (34, [some (.ref 5), some (.ref 19), some (.int (nI m2)), some (.int x3), some (.int (nI i))], [], h, 198, sl) = some R := hh
  obtain ⟨n, hh⟩ := rn_i rfl rfl rfl rfl hh
  have hh : pm_run PT n fr lo 43 (35, [some (.ref 5), some (.ref 19), some (.int (nI m2)), some (.int x3), some (.int (nI i))], [.ref 19], h, 198, sl) = some R := hh
  obtain ⟨n, hh⟩ := rn_gr hw.wt rfl rfl (by decide) rfl (by decide) (show _ = some (2, ((23 : Nat) : Int), 1) from rfl) rfl hh
  obtain ⟨n, hh⟩ := rn_i rfl rfl rfl rfl hh
  have hh : pm_run PT n fr lo 43 (40, [some (.ref 5), some (.ref 19), some (.int (nI m2)), some (.int x3), some (.int (nI i))], [.int (nI i), .ref 23], h, 198, sl) = some R := hh
  obtain ⟨n, hx3, hh⟩ := en_lu (t := i) (f := Ar h 23) (w := (Ar h 23) i) (nI_clamp (by omega)) hw.wt rfl (by decide) rfl (by decide) rfl (fun _ => rfl) hh
  obtain ⟨n, hh⟩ := rn_i rfl rfl rfl rfl hh
  have hh : pm_run PT n fr lo 43 (42, [some (.ref 5), some (.ref 19), some (.int (nI m2)), some (.int x3), some (.int (nI i))], [.int (nI m2), .int ((Ar h 23) i)], h, 198, sl) = some R := hh
  obtain ⟨n, hh⟩ := en_cn (cc := .ne) (off := 52) (t := 94) (b := pm_cmp .ne ((Ar h 23) i) (nI m2)) rfl rfl rfl hh
  cases z4 : pm_cmp .ne ((Ar h 23) i) (nI m2) with
  | true =>
    have hh := en_t z4 hh
    have hh : pm_run PT n fr lo 43 (94, [some (.ref 5), some (.ref 19), some (.int (nI m2)), some (.int x3), some (.int (nI i))], [], h, 198, sl) = some R := hh
    have hh : pm_run PT n fr lo 43 (94, [some (.ref 5), some (.ref 19), some (.int (nI m2)), some (.int x3), some (.int (nI i))], [], h, 198, sl) = some R := hh
    obtain ⟨n, hh⟩ := en_inc (x := i) (c := 1) (j := 4) rfl rfl (by decide) hh
    have hh : pm_run PT n fr lo 43 (97, [some (.ref 5), some (.ref 19), some (.int (nI m2)), some (.int x3), some (.int (nI (i + 1)))], [], h, 198, sl) = some R := hh
    obtain ⟨n, hh⟩ := rn_i rfl rfl rfl rfl hh
    have ed : v43t_25b q cc gc h m2 i x3 = (x3, h) := (ct z4).trans rfl
    rw [ed]
    exact ⟨n, hw, fr_0, hh⟩
  | false =>
    have hh := en_f z4 hh
    have hh : pm_run PT n fr lo 43 (45, [some (.ref 5), some (.ref 19), some (.int (nI m2)), some (.int x3), some (.int (nI i))], [], h, 198, sl) = some R := hh
    obtain ⟨n, hh⟩ := rn_i rfl rfl rfl rfl hh
    obtain ⟨n, hh⟩ := rn_i rfl rfl rfl rfl hh
    obtain ⟨n, hh⟩ := rn_i rfl rfl rfl rfl hh
    have hh : pm_run PT n fr lo 43 (49, [some (.ref 5), some (.ref 19), some (.int (nI m2)), some (.int x3), some (.int (nI i))], [.int (nI i), .ref 19, .ref 5], h, 198, sl) = some R := hh
    obtain ⟨n, fr1, lo1, r1, hh1, hh⟩ := rn_call (w := 0) (t := 41) rfl rfl hh
    have er5 := v41t_ok (g := i) hw (by omega) hh1
    subst er5
    have hh : pm_run PT n fr lo 43 (52, [some (.ref 5), some (.ref 19), some (.int (nI m2)), some (.int x3), some (.int (nI i))], [.int (cond (v41 q cc gc (Ar h 9) (Fi h 19 5) i) 1 0)], h, 198, sl) = some R := hh
    obtain ⟨n, hh⟩ := en_zn (cc := .eq) (off := 42) (t := 94) (b := !(v41 q cc gc (Ar h 9) (Fi h 19 5) i)) eb_eq rfl rfl hh
    cases z6 : v41 q cc gc (Ar h 9) (Fi h 19 5) i with
    | true =>
      have hh := en_nt z6 hh
      have hh : pm_run PT n fr lo 43 (55, [some (.ref 5), some (.ref 19), some (.int (nI m2)), some (.int x3), some (.int (nI i))], [], h, 198, sl) = some R := hh
      obtain ⟨n, hh⟩ := rn_i rfl rfl rfl rfl hh
      obtain ⟨n, hh⟩ := rn_i rfl rfl rfl rfl hh
      have hh : pm_run PT n fr lo 43 (57, [some (.ref 5), some (.ref 19), some (.int (nI m2)), some (.int x3), some (.int (nI i))], [.ref 5, .int x3], h, 198, sl) = some R := hh
      obtain ⟨n, hh⟩ := rn_gr hw.wt rfl rfl (by decide) rfl (by decide) (show _ = some (2, ((11 : Nat) : Int), 1) from rfl) rfl hh
      obtain ⟨n, hh⟩ := rn_i rfl rfl rfl rfl hh
      have hh : pm_run PT n fr lo 43 (62, [some (.ref 5), some (.ref 19), some (.int (nI m2)), some (.int x3), some (.int (nI i))], [.int (nI i), .ref 11, .int x3], h, 198, sl) = some R := hh
      obtain ⟨n, hx7, hh⟩ := en_lu (t := i) (f := Ar h 11) (w := (Ar h 11) i) (nI_clamp (by omega)) hw.wt rfl (by decide) rfl (by decide) rfl (fun _ => rfl) hh
      have hh : pm_run PT n fr lo 43 (63, [some (.ref 5), some (.ref 19), some (.int (nI m2)), some (.int x3), some (.int (nI i))], [.int ((Ar h 11) i), .int x3], h, 198, sl) = some R := hh
      obtain ⟨n, hh⟩ := en_cn (cc := .ge) (off := 21) (t := 84) (b := pm_cmp .ge x3 ((Ar h 11) i)) rfl rfl rfl hh
      cases z8 : pm_cmp .ge x3 ((Ar h 11) i) with
      | true =>
        have hh := en_t z8 hh
        have hh : pm_run PT n fr lo 43 (84, [some (.ref 5), some (.ref 19), some (.int (nI m2)), some (.int x3), some (.int (nI i))], [], h, 198, sl) = some R := hh
        obtain ⟨n, hh⟩ := rn_i rfl rfl rfl rfl hh
        obtain ⟨n, hh⟩ := rn_i rfl rfl rfl rfl hh
        have hh : pm_run PT n fr lo 43 (86, [some (.ref 5), some (.ref 19), some (.int (nI m2)), some (.int x3), some (.int (nI i))], [.ref 5, .int x3], h, 198, sl) = some R := hh
        obtain ⟨n, hh⟩ := rn_gr hw.wt rfl rfl (by decide) rfl (by decide) (show _ = some (2, ((11 : Nat) : Int), 1) from rfl) rfl hh
        obtain ⟨n, hh⟩ := rn_i rfl rfl rfl rfl hh
        have hh : pm_run PT n fr lo 43 (91, [some (.ref 5), some (.ref 19), some (.int (nI m2)), some (.int x3), some (.int (nI i))], [.int (nI i), .ref 11, .int x3], h, 198, sl) = some R := hh
        obtain ⟨n, hx9, hh⟩ := en_lu (t := i) (f := Ar h 11) (w := (Ar h 11) i) (nI_clamp (by omega)) hw.wt rfl (by decide) rfl (by decide) rfl (fun _ => rfl) hh
        obtain ⟨n, hh⟩ := rn_i rfl rfl rfl rfl hh
        obtain ⟨n, hh⟩ := rn_i rfl rfl rfl rfl hh
        have hh : pm_run PT n fr lo 43 (94, [some (.ref 5), some (.ref 19), some (.int (nI m2)), some (.int (x3 - ((Ar h 11) i))), some (.int (nI i))], [], h, 198, sl) = some R := hh
        obtain ⟨n, hh⟩ := en_inc (x := i) (c := 1) (j := 4) rfl rfl (by decide) hh
        have hh : pm_run PT n fr lo 43 (97, [some (.ref 5), some (.ref 19), some (.int (nI m2)), some (.int (x3 - ((Ar h 11) i))), some (.int (nI (i + 1)))], [], h, 198, sl) = some R := hh
        obtain ⟨n, hh⟩ := rn_i rfl rfl rfl rfl hh
        have ed : v43t_25b q cc gc h m2 i x3 = (x3 - ((Ar h 11) i), h) := (cf z4).trans ((ct z6).trans ((ct z8).trans rfl))
        rw [ed]
        exact ⟨n, hw, fr_0, hh⟩
      | false =>
        have hh := en_f z8 hh
        have hh : pm_run PT n fr lo 43 (66, [some (.ref 5), some (.ref 19), some (.int (nI m2)), some (.int x3), some (.int (nI i))], [], h, 198, sl) = some R := hh
        obtain ⟨n, hh⟩ := rn_i rfl rfl rfl rfl hh
        obtain ⟨n, hh⟩ := rn_i rfl rfl rfl rfl hh
        obtain ⟨n, hh⟩ := rn_i rfl rfl rfl rfl hh
        obtain ⟨n, hh⟩ := rn_i rfl rfl rfl rfl hh
        have hh : pm_run PT n fr lo 43 (70, [some (.ref 5), some (.ref 19), some (.int (nI m2)), some (.int (nI 0)), some (.int (nI i))], [.ref 19, .ref 19], h, 198, sl) = some R := hh
        obtain ⟨n, hh⟩ := rn_gi (x := Fi h 19 5) hw.wt rfl rfl (by decide) rfl (by decide) rfl rfl hh
        obtain ⟨n, hh⟩ := rn_i rfl rfl rfl rfl hh
        obtain ⟨n, hh⟩ := rn_i rfl rfl rfl rfl hh
        obtain ⟨n, hh⟩ := rn_i rfl rfl rfl rfl hh
        obtain ⟨n, hh⟩ := rn_i rfl rfl rfl rfl hh
        have hh : pm_run PT n fr lo 43 (78, [some (.ref 5), some (.ref 19), some (.int (nI m2)), some (.int (nI 0)), some (.int (nI i))], [.int ((Fi h 19 5) ||| (shl (nI 1) (nI i))), .ref 19], h, 198, sl) = some R := hh
        obtain ⟨n, hh⟩ := rn_pi hw.wt rfl rfl (by decide) rfl (by decide) rfl hh
        obtain ⟨n, hh⟩ := rn_i rfl rfl rfl rfl hh
        have hh : pm_run PT n fr lo 43 (94, [some (.ref 5), some (.ref 19), some (.int (nI m2)), some (.int (nI 0)), some (.int (nI i))], [], fset h 19 5 (.int ((Fi h 19 5) ||| (shl (nI 1) (nI i)))), 198, sl) = some R := hh
        obtain ⟨n, hh⟩ := en_inc (x := i) (c := 1) (j := 4) rfl rfl (by decide) hh
        have hh : pm_run PT n fr lo 43 (97, [some (.ref 5), some (.ref 19), some (.int (nI m2)), some (.int (nI 0)), some (.int (nI (i + 1)))], [], fset h 19 5 (.int ((Fi h 19 5) ||| (shl (nI 1) (nI i)))), 198, sl) = some R := hh
        obtain ⟨n, hh⟩ := rn_i rfl rfl rfl rfl hh
        have ed : v43t_25b q cc gc h m2 i x3 = (nI 0, fset h 19 5 (.int ((Fi h 19 5) ||| (shl (nI 1) (nI i))))) := (cf z4).trans ((ct z6).trans ((cf z8).trans rfl))
        rw [ed]
        exact ⟨n, (hc_f rfl rfl (by decide) rfl hw), (fr_f rfl rfl fr_0), hh⟩
    | false =>
      have hh := en_nf z6 hh
      have hh : pm_run PT n fr lo 43 (94, [some (.ref 5), some (.ref 19), some (.int (nI m2)), some (.int x3), some (.int (nI i))], [], h, 198, sl) = some R := hh
      have hh : pm_run PT n fr lo 43 (94, [some (.ref 5), some (.ref 19), some (.int (nI m2)), some (.int x3), some (.int (nI i))], [], h, 198, sl) = some R := hh
      obtain ⟨n, hh⟩ := en_inc (x := i) (c := 1) (j := 4) rfl rfl (by decide) hh
      have hh : pm_run PT n fr lo 43 (97, [some (.ref 5), some (.ref 19), some (.int (nI m2)), some (.int x3), some (.int (nI (i + 1)))], [], h, 198, sl) = some R := hh
      obtain ⟨n, hh⟩ := rn_i rfl rfl rfl rfl hh
      have ed : v43t_25b q cc gc h m2 i x3 = (x3, h) := (cf z4).trans ((cf z6).trans rfl)
      rw [ed]
      exact ⟨n, hw, fr_0, hh⟩
theorem v43t_25_ok {fr lo sl cc gc : Nat} {q : QT} {R : pm_Rs} {m2 : Nat} : ∀ {j i : Nat} {x3 : Int32} {h : pm_H} {n : Nat}, gc - i = j → i + j < 1000000 → HC q cc gc h → m2 < 10000 → pm_run PT n fr lo 43 (25, [some (.ref 5), some (.ref 19), some (.int (nI m2)), some (.int x3), some (.int (nI i))], [], h, 198, sl) = some R → ∃ m wc, HC q cc gc ((v43t_25 q cc gc m2 j i (x3, h)).2) ∧ frm [19] [(19, 5)] h ((v43t_25 q cc gc m2 j i (x3, h)).2) ∧ pm_run PT m fr lo 43 (100, [some (.ref 5), some (.ref 19), some (.int (nI m2)), some (.int ((v43t_25 q cc gc m2 j i (x3, h)).1)), wc], [], (v43t_25 q cc gc m2 j i (x3, h)).2, 198, sl) = some R := by
  intro j
  induction j with
  | zero =>
    intro i x3 h n e eI hw h_m2 hh
    obtain ⟨n, hh⟩ := v43t_25_e hw h_m2 (by omega) (by omega) hh
    exact ⟨n, _, hw, fr_0, hh⟩
  | succ j ih =>
    intro i x3 h n e eI hw h_m2 hh
    obtain ⟨n, hc, hf, hh⟩ := v43t_25_s hw h_m2 (by omega) (by omega) hh
    obtain ⟨n, wc, hc2, hf2, hh⟩ := ih (by omega) (by omega) hc h_m2 hh
    exact ⟨n, wc, hc2, fr_t hf2 hf, hh⟩
def v43t (q : QT) (cc gc : Nat) (h : pm_H) (c : Nat) : pm_H := aset ((v43t_25 q cc gc c gc 0 ((imin (nI 999) (((Ar h 20) c) + ((nI 2) * ((Ar h 6) c)))), h)).2) 20 6 (upd (Ar h 20) c ((v43t_25 q cc gc c gc 0 ((imin (nI 999) (((Ar h 20) c) + ((nI 2) * ((Ar h 6) c)))), h)).1))
theorem v43t_ok {n fr lo sl cc gc : Nat} {q : QT} {h : pm_H} {R : pm_Rs} {c : Nat} (hw : HC q cc gc h) (h_c : c < 10000) (hh : pm_run PT n fr lo 43 (0, pm_l0 [.ref 5, .ref 19, .int (nI c)] 5, [], h, 198, sl) = some R) : R = (none, v43t q cc gc h c, 198, sl) ∧ HC q cc gc (v43t q cc gc h c) ∧ frm [19, 20] [(19, 5)] h (v43t q cc gc h c) := by
  have hcc := hw.cb
  have hgc := hw.gb
  have hzr := hw.zr
  obtain ⟨n, hh⟩ := rn_i rfl rfl rfl rfl hh
  obtain ⟨n, hh⟩ := rn_i rfl rfl rfl rfl hh
  have hh : pm_run PT n fr lo 43 (4, [some (.ref 5), some (.ref 19), some (.int (nI c)), none, none], [.ref 19, .int (nI 999)], h, 198, sl) = some R := hh
  obtain ⟨n, hh⟩ := rn_gr hw.wt rfl rfl (by decide) rfl (by decide) (show _ = some (2, ((20 : Nat) : Int), 1) from rfl) rfl hh
  obtain ⟨n, hh⟩ := rn_i rfl rfl rfl rfl hh
  have hh : pm_run PT n fr lo 43 (8, [some (.ref 5), some (.ref 19), some (.int (nI c)), none, none], [.int (nI c), .ref 20, .int (nI 999)], h, 198, sl) = some R := hh
  obtain ⟨n, hx1, hh⟩ := en_lu (t := c) (f := Ar h 20) (w := (Ar h 20) c) (nI_clamp (by omega)) hw.wt rfl (by decide) rfl (by decide) rfl (fun _ => rfl) hh
  obtain ⟨n, hh⟩ := rn_i rfl rfl rfl rfl hh
  obtain ⟨n, hh⟩ := rn_i rfl rfl rfl rfl hh
  have hh : pm_run PT n fr lo 43 (11, [some (.ref 5), some (.ref 19), some (.int (nI c)), none, none], [.ref 5, .int (nI 2), .int ((Ar h 20) c), .int (nI 999)], h, 198, sl) = some R := hh
  obtain ⟨n, hh⟩ := rn_gr hw.wt rfl rfl (by decide) rfl (by decide) (show _ = some (2, ((6 : Nat) : Int), 1) from rfl) rfl hh
  obtain ⟨n, hh⟩ := rn_i rfl rfl rfl rfl hh
  have hh : pm_run PT n fr lo 43 (15, [some (.ref 5), some (.ref 19), some (.int (nI c)), none, none], [.int (nI c), .ref 6, .int (nI 2), .int ((Ar h 20) c), .int (nI 999)], h, 198, sl) = some R := hh
  obtain ⟨n, hx2, hh⟩ := en_lu (t := c) (f := Ar h 6) (w := (Ar h 6) c) (nI_clamp (by omega)) hw.wt rfl (by decide) rfl (by decide) rfl (fun _ => rfl) hh
  obtain ⟨n, hh⟩ := rn_i rfl rfl rfl rfl hh
  obtain ⟨n, hh⟩ := rn_i rfl rfl rfl rfl hh
  have hh : pm_run PT n fr lo 43 (18, [some (.ref 5), some (.ref 19), some (.int (nI c)), none, none], [.int (((Ar h 20) c) + ((nI 2) * ((Ar h 6) c))), .int (nI 999)], h, 198, sl) = some R := hh
  obtain ⟨n, hh⟩ := en_min rfl rfl rfl hh
  obtain ⟨n, hh⟩ := rn_i rfl rfl rfl rfl hh
  obtain ⟨n, hh⟩ := rn_i rfl rfl rfl rfl hh
  obtain ⟨n, hh⟩ := rn_i rfl rfl rfl rfl hh
  have hh : pm_run PT n fr lo 43 (25, [some (.ref 5), some (.ref 19), some (.int (nI c)), some (.int (imin (nI 999) (((Ar h 20) c) + ((nI 2) * ((Ar h 6) c))))), some (.int (nI 0))], [], h, 198, sl) = some R := hh
  obtain ⟨n, u3, hc4, hf5, hh⟩ := v43t_25_ok (m2 := c)  (i := 0) (x3 := (imin (nI 999) (((Ar h 20) c) + ((nI 2) * ((Ar h 6) c))))) (j := gc) (by omega) (by omega) hw (by omega) hh
  have hh : pm_run PT n fr lo 43 (100, [some (.ref 5), some (.ref 19), some (.int (nI c)), some (.int ((v43t_25 q cc gc c gc 0 ((imin (nI 999) (((Ar h 20) c) + ((nI 2) * ((Ar h 6) c)))), h)).1)), u3], [], (v43t_25 q cc gc c gc 0 ((imin (nI 999) (((Ar h 20) c) + ((nI 2) * ((Ar h 6) c)))), h)).2, 198, sl) = some R := hh
  obtain ⟨n, hh⟩ := rn_i rfl rfl rfl rfl hh
  have hh : pm_run PT n fr lo 43 (101, [some (.ref 5), some (.ref 19), some (.int (nI c)), some (.int ((v43t_25 q cc gc c gc 0 ((imin (nI 999) (((Ar h 20) c) + ((nI 2) * ((Ar h 6) c)))), h)).1)), u3], [.ref 19], (v43t_25 q cc gc c gc 0 ((imin (nI 999) (((Ar h 20) c) + ((nI 2) * ((Ar h 6) c)))), h)).2, 198, sl) = some R := hh
  obtain ⟨n, hh⟩ := rn_gr hc4.wt rfl rfl (by decide) rfl (by decide) (show _ = some (2, ((20 : Nat) : Int), 1) from rfl) rfl hh
  obtain ⟨n, hh⟩ := rn_i rfl rfl rfl rfl hh
  obtain ⟨n, hh⟩ := rn_i rfl rfl rfl rfl hh
  have hh : pm_run PT n fr lo 43 (106, [some (.ref 5), some (.ref 19), some (.int (nI c)), some (.int ((v43t_25 q cc gc c gc 0 ((imin (nI 999) (((Ar h 20) c) + ((nI 2) * ((Ar h 6) c)))), h)).1)), u3], [.int ((v43t_25 q cc gc c gc 0 ((imin (nI 999) (((Ar h 20) c) + ((nI 2) * ((Ar h 6) c)))), h)).1), .int (nI c), .ref 20], (v43t_25 q cc gc c gc 0 ((imin (nI 999) (((Ar h 20) c) + ((nI 2) * ((Ar h 6) c)))), h)).2, 198, sl) = some R := hh
  obtain ⟨n, hx6, hh⟩ := en_st (t := c) (f := Ar h 20) (nI_clamp (by omega)) hc4.wt rfl (by decide) rfl (by decide) ((Ar_e (hf5.1 20 rfl)).trans rfl) hh
  have er7 : R = (none, aset ((v43t_25 q cc gc c gc 0 ((imin (nI 999) (((Ar h 20) c) + ((nI 2) * ((Ar h 6) c)))), h)).2) 20 6 (upd (Ar h 20) c ((v43t_25 q cc gc c gc 0 ((imin (nI 999) (((Ar h 20) c) + ((nI 2) * ((Ar h 6) c)))), h)).1)), 198, sl) := rn_vret rfl rfl hh
  have ed : v43t q cc gc h c = aset ((v43t_25 q cc gc c gc 0 ((imin (nI 999) (((Ar h 20) c) + ((nI 2) * ((Ar h 6) c)))), h)).2) 20 6 (upd (Ar h 20) c ((v43t_25 q cc gc c gc 0 ((imin (nI 999) (((Ar h 20) c) + ((nI 2) * ((Ar h 6) c)))), h)).1)) := rfl
  refine ⟨?_, ?_, ?_⟩ <;> rw [ed]
  · exact er7
  · exact (hc_a rfl rfl hc4)
  · exact (fr_a rfl rfl (fr_g rfl rfl hf5 fr_0))
def v42_2b (q : QT) (cc gc : Nat) (h : pm_H) (i : Nat) : pm_H := v43 q cc gc h i
def v42_2 (q : QT) (cc gc : Nat) (j i : Nat) (a : pm_H) : pm_H := lp (fun i a => v42_2b q cc gc a i) j i a
theorem v42_2_e {n fr lo sl cc gc : Nat} {q : QT} {h : pm_H} {R : pm_Rs} {i : Nat} (hw : HC q cc gc h) (hi : cc ≤ i) (hI : i < 1000000) (hh : pm_run PT n fr lo 42 (2, [some (.ref 5), some (.ref 13), some (.int (nI i))], [], h, 198, sl) = some R) : ∃ m, pm_run PT m fr lo 42 (22, [some (.ref 5), some (.ref 13), some (.int (nI i))], [], h, 198, sl) = some R := by
  have hcc := hw.cb
  have hgc := hw.gb
  have hzr := hw.zr
  obtain ⟨n, hh⟩ := rn_i rfl rfl rfl rfl hh
  obtain ⟨n, hh⟩ := rn_i rfl rfl rfl rfl hh
  have hh : pm_run PT n fr lo 42 (4, [some (.ref 5), some (.ref 13), some (.int (nI i))], [.ref 5, .int (nI i)], h, 198, sl) = some R := hh
  obtain ⟨n, hh⟩ := rn_gi (x := nI cc) hw.wt rfl rfl (by decide) rfl (by decide) rfl hw.x0 hh
  have hh : pm_run PT n fr lo 42 (7, [some (.ref 5), some (.ref 13), some (.int (nI i))], [.int (nI cc), .int (nI i)], h, 198, sl) = some R := hh
  obtain ⟨n, hh⟩ := en_cn (cc := .ge) (off := 15) (t := 22) (b := decide (cc ≤ i)) (hI_ge (by omega) (by omega)) rfl rfl hh
  have hh := en_t (show decide (cc ≤ i) = true from decide_eq_true (by omega)) hh
  have hh : pm_run PT n fr lo 42 (22, [some (.ref 5), some (.ref 13), some (.int (nI i))], [], h, 198, sl) = some R := hh
  exact ⟨n, hh⟩
theorem v42_2_s {n fr lo sl cc gc : Nat} {q : QT} {h : pm_H} {R : pm_Rs} {i : Nat} (hw : HC q cc gc h) (hi : i < cc) (hI : i < 1000000) (hh : pm_run PT n fr lo 42 (2, [some (.ref 5), some (.ref 13), some (.int (nI i))], [], h, 198, sl) = some R) : ∃ m, HC q cc gc ((v42_2b q cc gc h i)) ∧ frm [13, 14] [(13, 5)] h ((v42_2b q cc gc h i)) ∧ pm_run PT m fr lo 42 (2, [some (.ref 5), some (.ref 13), some (.int (nI (i + 1)))], [], (v42_2b q cc gc h i), 198, sl) = some R := by
  have hcc := hw.cb
  have hgc := hw.gb
  have hzr := hw.zr
  obtain ⟨n, hh⟩ := rn_i rfl rfl rfl rfl hh
  obtain ⟨n, hh⟩ := rn_i rfl rfl rfl rfl hh
  have hh : pm_run PT n fr lo 42 (4, [some (.ref 5), some (.ref 13), some (.int (nI i))], [.ref 5, .int (nI i)], h, 198, sl) = some R := hh
  obtain ⟨n, hh⟩ := rn_gi (x := nI cc) hw.wt rfl rfl (by decide) rfl (by decide) rfl hw.x0 hh
  have hh : pm_run PT n fr lo 42 (7, [some (.ref 5), some (.ref 13), some (.int (nI i))], [.int (nI cc), .int (nI i)], h, 198, sl) = some R := hh
  obtain ⟨n, hh⟩ := en_cn (cc := .ge) (off := 15) (t := 22) (b := decide (cc ≤ i)) (hI_ge (by omega) (by omega)) rfl rfl hh
  have hh := en_f (show decide (cc ≤ i) = false from decide_eq_false (by omega)) hh
  have hh : pm_run PT n fr lo 42 (10, [some (.ref 5), some (.ref 13), some (.int (nI i))], [], h, 198, sl) = some R := hh
  obtain ⟨n, hh⟩ := rn_i rfl rfl rfl rfl hh
  obtain ⟨n, hh⟩ := rn_i rfl rfl rfl rfl hh
  obtain ⟨n, hh⟩ := rn_i rfl rfl rfl rfl hh
  have hh : pm_run PT n fr lo 42 (13, [some (.ref 5), some (.ref 13), some (.int (nI i))], [.int (nI i), .ref 13, .ref 5], h, 198, sl) = some R := hh
  obtain ⟨n, fr1, lo1, r1, hh1, hh⟩ := rn_call (w := 0) (t := 43) rfl rfl hh
  obtain ⟨er1, hc2, hf3⟩ := v43_ok (c := i) hw (by omega) hh1
  subst er1
  have hh : pm_run PT n fr lo 42 (16, [some (.ref 5), some (.ref 13), some (.int (nI i))], [], v43 q cc gc h i, 198, sl) = some R := hh
  obtain ⟨n, hh⟩ := en_inc (x := i) (c := 1) (j := 2) rfl rfl (by decide) hh
  have hh : pm_run PT n fr lo 42 (19, [some (.ref 5), some (.ref 13), some (.int (nI (i + 1)))], [], v43 q cc gc h i, 198, sl) = some R := hh
  obtain ⟨n, hh⟩ := rn_i rfl rfl rfl rfl hh
  have ed : v42_2b q cc gc h i = v43 q cc gc h i := rfl
  rw [ed]
  exact ⟨n, hc2, (fr_g rfl rfl hf3 fr_0), hh⟩
theorem v42_2_ok {fr lo sl cc gc : Nat} {q : QT} {R : pm_Rs} : ∀ {j i : Nat} {h : pm_H} {n : Nat}, cc - i = j → i + j < 1000000 → HC q cc gc h → pm_run PT n fr lo 42 (2, [some (.ref 5), some (.ref 13), some (.int (nI i))], [], h, 198, sl) = some R → ∃ m wc, HC q cc gc ((v42_2 q cc gc j i h)) ∧ frm [13, 14] [(13, 5)] h ((v42_2 q cc gc j i h)) ∧ pm_run PT m fr lo 42 (22, [some (.ref 5), some (.ref 13), wc], [], (v42_2 q cc gc j i h), 198, sl) = some R := by
  intro j
  induction j with
  | zero =>
    intro i h n e eI hw hh
    obtain ⟨n, hh⟩ := v42_2_e hw (by omega) (by omega) hh
    exact ⟨n, _, hw, fr_0, hh⟩
  | succ j ih =>
    intro i h n e eI hw hh
    obtain ⟨n, hc, hf, hh⟩ := v42_2_s hw (by omega) (by omega) hh
    obtain ⟨n, wc, hc2, hf2, hh⟩ := ih (by omega) (by omega) hc hh
    exact ⟨n, wc, hc2, fr_t hf2 hf, hh⟩
theorem v42_2_fb {cc gc : Nat} {q : QT} {h : pm_H} {i : Nat} (hw : HC q cc gc h) : HC q cc gc ((v42_2b q cc gc h i)) ∧ frm [13, 14] [(13, 5)] h ((v42_2b q cc gc h i)) := by
  unfold v42_2b
  show HC q cc gc (v43 q cc gc h i) ∧ frm [13, 14] [(13, 5)] h (v43 q cc gc h i)
  exact ⟨(v43_fr (c := i) hw).1, (fr_g rfl rfl (v43_fr (c := i) hw).2 fr_0)⟩
theorem v42_2_fr {cc gc : Nat} {q : QT} : ∀ {j i : Nat} {h : pm_H}, HC q cc gc h → HC q cc gc ((v42_2 q cc gc j i h)) ∧ frm [13, 14] [(13, 5)] h ((v42_2 q cc gc j i h)) := by
  intro j
  induction j with
  | zero =>
    intro i h hw
    exact ⟨hw, fr_0⟩
  | succ j ih =>
    intro i h hw
    obtain ⟨a1, a2⟩ := v42_2_fb (i := i) hw
    obtain ⟨b1, b2⟩ := ih (i := i + 1) a1
    exact ⟨b1, fr_t b2 a2⟩
def v42 (q : QT) (cc gc : Nat) (h : pm_H) : pm_H := fset (v42_2 q cc gc cc 0 h) 13 6 (.int ((Fi h 13 6) + (nI 1)))
theorem v42_ok {n fr lo sl cc gc : Nat} {q : QT} {h : pm_H} {R : pm_Rs} (hw : HC q cc gc h) (hh : pm_run PT n fr lo 42 (0, pm_l0 [.ref 5, .ref 13] 3, [], h, 198, sl) = some R) : R = (none, v42 q cc gc h, 198, sl) ∧ HC q cc gc (v42 q cc gc h) ∧ frm [13, 14] [(13, 5), (13, 6)] h (v42 q cc gc h) := by
  have hcc := hw.cb
  have hgc := hw.gb
  have hzr := hw.zr
  obtain ⟨n, hh⟩ := rn_i rfl rfl rfl rfl hh
  obtain ⟨n, hh⟩ := rn_i rfl rfl rfl rfl hh
  have hh : pm_run PT n fr lo 42 (2, [some (.ref 5), some (.ref 13), some (.int (nI 0))], [], h, 198, sl) = some R := hh
  obtain ⟨n, u1, hc2, hf3, hh⟩ := v42_2_ok  (i := 0) (j := cc) (by omega) (by omega) hw hh
  have hh : pm_run PT n fr lo 42 (22, [some (.ref 5), some (.ref 13), u1], [], (v42_2 q cc gc cc 0 h), 198, sl) = some R := hh
  obtain ⟨n, hh⟩ := rn_i rfl rfl rfl rfl hh
  obtain ⟨n, hh⟩ := rn_i rfl rfl rfl rfl hh
  have hh : pm_run PT n fr lo 42 (24, [some (.ref 5), some (.ref 13), u1], [.ref 13, .ref 13], (v42_2 q cc gc cc 0 h), 198, sl) = some R := hh
  obtain ⟨n, hh⟩ := rn_gi (x := Fi h 13 6) hc2.wt rfl rfl (by decide) rfl (by decide) rfl ((hf3.2 13 6 (by decide +kernel) rfl).trans rfl) hh
  obtain ⟨n, hh⟩ := rn_i rfl rfl rfl rfl hh
  obtain ⟨n, hh⟩ := rn_i rfl rfl rfl rfl hh
  have hh : pm_run PT n fr lo 42 (29, [some (.ref 5), some (.ref 13), u1], [.int ((Fi h 13 6) + (nI 1)), .ref 13], (v42_2 q cc gc cc 0 h), 198, sl) = some R := hh
  obtain ⟨n, hh⟩ := rn_pi hc2.wt rfl rfl (by decide) rfl (by decide) rfl hh
  have er4 : R = (none, fset (v42_2 q cc gc cc 0 h) 13 6 (.int ((Fi h 13 6) + (nI 1))), 198, sl) := rn_vret rfl rfl hh
  have ed : v42 q cc gc h = fset (v42_2 q cc gc cc 0 h) 13 6 (.int ((Fi h 13 6) + (nI 1))) := rfl
  refine ⟨?_, ?_, ?_⟩ <;> rw [ed]
  · exact er4
  · exact (hc_f rfl rfl (by decide) rfl hc2)
  · exact (fr_f rfl rfl (fr_g rfl rfl hf3 fr_0))
theorem v42_fr {cc gc : Nat} {q : QT} {h : pm_H} (hw : HC q cc gc h) : HC q cc gc (v42 q cc gc h) ∧ frm [13, 14] [(13, 5), (13, 6)] h (v42 q cc gc h) := by
  unfold v42
  show HC q cc gc (fset (v42_2 q cc gc cc 0 h) 13 6 (.int ((Fi h 13 6) + (nI 1)))) ∧ frm [13, 14] [(13, 5), (13, 6)] h (fset (v42_2 q cc gc cc 0 h) 13 6 (.int ((Fi h 13 6) + (nI 1))))
  exact ⟨(hc_f rfl rfl (by decide) rfl (v42_2_fr (j := cc) (i := 0) hw).1), (fr_f rfl rfl (fr_g rfl rfl (v42_2_fr (j := cc) (i := 0) hw).2 fr_0))⟩
def v42t_2b (q : QT) (cc gc : Nat) (h : pm_H) (i : Nat) : pm_H := v43t q cc gc h i
def v42t_2 (q : QT) (cc gc : Nat) (j i : Nat) (a : pm_H) : pm_H := lp (fun i a => v42t_2b q cc gc a i) j i a
theorem v42t_2_e {n fr lo sl cc gc : Nat} {q : QT} {h : pm_H} {R : pm_Rs} {i : Nat} (hw : HC q cc gc h) (hi : cc ≤ i) (hI : i < 1000000) (hh : pm_run PT n fr lo 42 (2, [some (.ref 5), some (.ref 19), some (.int (nI i))], [], h, 198, sl) = some R) : ∃ m, pm_run PT m fr lo 42 (22, [some (.ref 5), some (.ref 19), some (.int (nI i))], [], h, 198, sl) = some R := by
  have hcc := hw.cb
  have hgc := hw.gb
  have hzr := hw.zr
  obtain ⟨n, hh⟩ := rn_i rfl rfl rfl rfl hh
  obtain ⟨n, hh⟩ := rn_i rfl rfl rfl rfl hh
  have hh : pm_run PT n fr lo 42 (4, [some (.ref 5), some (.ref 19), some (.int (nI i))], [.ref 5, .int (nI i)], h, 198, sl) = some R := hh
  obtain ⟨n, hh⟩ := rn_gi (x := nI cc) hw.wt rfl rfl (by decide) rfl (by decide) rfl hw.x0 hh
  have hh : pm_run PT n fr lo 42 (7, [some (.ref 5), some (.ref 19), some (.int (nI i))], [.int (nI cc), .int (nI i)], h, 198, sl) = some R := hh
  obtain ⟨n, hh⟩ := en_cn (cc := .ge) (off := 15) (t := 22) (b := decide (cc ≤ i)) (hI_ge (by omega) (by omega)) rfl rfl hh
  have hh := en_t (show decide (cc ≤ i) = true from decide_eq_true (by omega)) hh
  have hh : pm_run PT n fr lo 42 (22, [some (.ref 5), some (.ref 19), some (.int (nI i))], [], h, 198, sl) = some R := hh
  exact ⟨n, hh⟩
theorem v42t_2_s {n fr lo sl cc gc : Nat} {q : QT} {h : pm_H} {R : pm_Rs} {i : Nat} (hw : HC q cc gc h) (hi : i < cc) (hI : i < 1000000) (hh : pm_run PT n fr lo 42 (2, [some (.ref 5), some (.ref 19), some (.int (nI i))], [], h, 198, sl) = some R) : ∃ m, HC q cc gc ((v42t_2b q cc gc h i)) ∧ frm [19, 20] [(19, 5)] h ((v42t_2b q cc gc h i)) ∧ pm_run PT m fr lo 42 (2, [some (.ref 5), some (.ref 19), some (.int (nI (i + 1)))], [], (v42t_2b q cc gc h i), 198, sl) = some R := by
  have hcc := hw.cb
  have hgc := hw.gb
  have hzr := hw.zr
  obtain ⟨n, hh⟩ := rn_i rfl rfl rfl rfl hh
  obtain ⟨n, hh⟩ := rn_i rfl rfl rfl rfl hh
  have hh : pm_run PT n fr lo 42 (4, [some (.ref 5), some (.ref 19), some (.int (nI i))], [.ref 5, .int (nI i)], h, 198, sl) = some R := hh
  obtain ⟨n, hh⟩ := rn_gi (x := nI cc) hw.wt rfl rfl (by decide) rfl (by decide) rfl hw.x0 hh
  have hh : pm_run PT n fr lo 42 (7, [some (.ref 5), some (.ref 19), some (.int (nI i))], [.int (nI cc), .int (nI i)], h, 198, sl) = some R := hh
  obtain ⟨n, hh⟩ := en_cn (cc := .ge) (off := 15) (t := 22) (b := decide (cc ≤ i)) (hI_ge (by omega) (by omega)) rfl rfl hh
  have hh := en_f (show decide (cc ≤ i) = false from decide_eq_false (by omega)) hh
  have hh : pm_run PT n fr lo 42 (10, [some (.ref 5), some (.ref 19), some (.int (nI i))], [], h, 198, sl) = some R := hh
  obtain ⟨n, hh⟩ := rn_i rfl rfl rfl rfl hh
  obtain ⟨n, hh⟩ := rn_i rfl rfl rfl rfl hh
  obtain ⟨n, hh⟩ := rn_i rfl rfl rfl rfl hh
  have hh : pm_run PT n fr lo 42 (13, [some (.ref 5), some (.ref 19), some (.int (nI i))], [.int (nI i), .ref 19, .ref 5], h, 198, sl) = some R := hh
  obtain ⟨n, fr1, lo1, r1, hh1, hh⟩ := rn_call (w := 0) (t := 43) rfl rfl hh
  obtain ⟨er1, hc2, hf3⟩ := v43t_ok (c := i) hw (by omega) hh1
  subst er1
  have hh : pm_run PT n fr lo 42 (16, [some (.ref 5), some (.ref 19), some (.int (nI i))], [], v43t q cc gc h i, 198, sl) = some R := hh
  obtain ⟨n, hh⟩ := en_inc (x := i) (c := 1) (j := 2) rfl rfl (by decide) hh
  have hh : pm_run PT n fr lo 42 (19, [some (.ref 5), some (.ref 19), some (.int (nI (i + 1)))], [], v43t q cc gc h i, 198, sl) = some R := hh
  obtain ⟨n, hh⟩ := rn_i rfl rfl rfl rfl hh
  have ed : v42t_2b q cc gc h i = v43t q cc gc h i := rfl
  rw [ed]
  exact ⟨n, hc2, (fr_g rfl rfl hf3 fr_0), hh⟩
theorem v42t_2_ok {fr lo sl cc gc : Nat} {q : QT} {R : pm_Rs} : ∀ {j i : Nat} {h : pm_H} {n : Nat}, cc - i = j → i + j < 1000000 → HC q cc gc h → pm_run PT n fr lo 42 (2, [some (.ref 5), some (.ref 19), some (.int (nI i))], [], h, 198, sl) = some R → ∃ m wc, HC q cc gc ((v42t_2 q cc gc j i h)) ∧ frm [19, 20] [(19, 5)] h ((v42t_2 q cc gc j i h)) ∧ pm_run PT m fr lo 42 (22, [some (.ref 5), some (.ref 19), wc], [], (v42t_2 q cc gc j i h), 198, sl) = some R := by
  intro j
  induction j with
  | zero =>
    intro i h n e eI hw hh
    obtain ⟨n, hh⟩ := v42t_2_e hw (by omega) (by omega) hh
    exact ⟨n, _, hw, fr_0, hh⟩
  | succ j ih =>
    intro i h n e eI hw hh
    obtain ⟨n, hc, hf, hh⟩ := v42t_2_s hw (by omega) (by omega) hh
    obtain ⟨n, wc, hc2, hf2, hh⟩ := ih (by omega) (by omega) hc hh
    exact ⟨n, wc, hc2, fr_t hf2 hf, hh⟩
def v42t (q : QT) (cc gc : Nat) (h : pm_H) : pm_H := fset (v42t_2 q cc gc cc 0 h) 19 6 (.int ((Fi h 19 6) + (nI 1)))
theorem v42t_ok {n fr lo sl cc gc : Nat} {q : QT} {h : pm_H} {R : pm_Rs} (hw : HC q cc gc h) (hh : pm_run PT n fr lo 42 (0, pm_l0 [.ref 5, .ref 19] 3, [], h, 198, sl) = some R) : R = (none, v42t q cc gc h, 198, sl) ∧ HC q cc gc (v42t q cc gc h) ∧ frm [19, 20] [(19, 5), (19, 6)] h (v42t q cc gc h) := by
  have hcc := hw.cb
  have hgc := hw.gb
  have hzr := hw.zr
  obtain ⟨n, hh⟩ := rn_i rfl rfl rfl rfl hh
  obtain ⟨n, hh⟩ := rn_i rfl rfl rfl rfl hh
  have hh : pm_run PT n fr lo 42 (2, [some (.ref 5), some (.ref 19), some (.int (nI 0))], [], h, 198, sl) = some R := hh
  obtain ⟨n, u1, hc2, hf3, hh⟩ := v42t_2_ok  (i := 0) (j := cc) (by omega) (by omega) hw hh
  have hh : pm_run PT n fr lo 42 (22, [some (.ref 5), some (.ref 19), u1], [], (v42t_2 q cc gc cc 0 h), 198, sl) = some R := hh
  obtain ⟨n, hh⟩ := rn_i rfl rfl rfl rfl hh
  obtain ⟨n, hh⟩ := rn_i rfl rfl rfl rfl hh
  have hh : pm_run PT n fr lo 42 (24, [some (.ref 5), some (.ref 19), u1], [.ref 19, .ref 19], (v42t_2 q cc gc cc 0 h), 198, sl) = some R := hh
  obtain ⟨n, hh⟩ := rn_gi (x := Fi h 19 6) hc2.wt rfl rfl (by decide) rfl (by decide) rfl ((hf3.2 19 6 (by decide +kernel) rfl).trans rfl) hh
  obtain ⟨n, hh⟩ := rn_i rfl rfl rfl rfl hh
  obtain ⟨n, hh⟩ := rn_i rfl rfl rfl rfl hh
  have hh : pm_run PT n fr lo 42 (29, [some (.ref 5), some (.ref 19), u1], [.int ((Fi h 19 6) + (nI 1)), .ref 19], (v42t_2 q cc gc cc 0 h), 198, sl) = some R := hh
  obtain ⟨n, hh⟩ := rn_pi hc2.wt rfl rfl (by decide) rfl (by decide) rfl hh
  have er4 : R = (none, fset (v42t_2 q cc gc cc 0 h) 19 6 (.int ((Fi h 19 6) + (nI 1))), 198, sl) := rn_vret rfl rfl hh
  have ed : v42t q cc gc h = fset (v42t_2 q cc gc cc 0 h) 19 6 (.int ((Fi h 19 6) + (nI 1))) := rfl
  refine ⟨?_, ?_, ?_⟩ <;> rw [ed]
  · exact er4
  · exact (hc_f rfl rfl (by decide) rfl hc2)
  · exact (fr_f rfl rfl (fr_g rfl rfl hf3 fr_0))
def v44_8b (q : QT) (cc gc : Nat) (h : pm_H) (m2 : Nat) (t3 : Int32) (i : Nat) : (pm_H) ⊕ (Int32 × pm_H) := cond (pm_cmp .eq (Fi (v43t q cc gc h m2) 19 5) t3) (.inl (v43t q cc gc h m2)) (.inr (nI i, v43t q cc gc h m2))
def v44_8 (q : QT) (cc gc : Nat) (m2 : Nat) (t3 : Int32) (j i : Nat) (a : pm_H) : (pm_H) ⊕ (Int32 × pm_H) := lpE (fun i a => v44_8b q cc gc a m2 t3 i) j i a
theorem v44_8_e {n fr lo sl cc gc : Nat} {q : QT} {h : pm_H} {R : pm_Rs} {m2 : Nat} {t3 : Int32} {i : Nat} (hw : HC q cc gc h) (h_m2 : m2 < 10000) (hi : 100 ≤ i) (hI : i < 1000000) (hh : pm_run PT n fr lo 44 (8, [some (.ref 5), some (.ref 19), some (.int (nI m2)), some (.int t3), some (.int (nI i))], [], h, 198, sl) = some R) : ∃ m, pm_run PT m fr lo 44 (38, [some (.ref 5), some (.ref 19), some (.int (nI m2)), some (.int t3), some (.int (nI i))], [], h, 198, sl) = some R := by
  have hcc := hw.cb
  have hgc := hw.gb
  have hzr := hw.zr
  obtain ⟨n, hh⟩ := rn_i rfl rfl rfl rfl hh
  obtain ⟨n, hh⟩ := rn_i rfl rfl rfl rfl hh
  have hh : pm_run PT n fr lo 44 (12, [some (.ref 5), some (.ref 19), some (.int (nI m2)), some (.int t3), some (.int (nI i))], [.int (nI 99), .int (nI i)], h, 198, sl) = some R := hh
  obtain ⟨n, hh⟩ := en_cn (cc := .gt) (off := 26) (t := 38) (b := decide (99 < i)) (hI_gt (by omega) (by omega)) rfl rfl hh
  have hh := en_t (show decide (99 < i) = true from decide_eq_true (by omega)) hh
  have hh : pm_run PT n fr lo 44 (38, [some (.ref 5), some (.ref 19), some (.int (nI m2)), some (.int t3), some (.int (nI i))], [], h, 198, sl) = some R := hh
  exact ⟨n, hh⟩
theorem v44_8_s {n fr lo sl cc gc : Nat} {q : QT} {h : pm_H} {R : pm_Rs} {m2 : Nat} {t3 : Int32} {i : Nat} (hw : HC q cc gc h) (h_m2 : m2 < 10000) (hi : i < 100) (hI : i < 1000000) (hh : pm_run PT n fr lo 44 (8, [some (.ref 5), some (.ref 19), some (.int (nI m2)), some (.int t3), some (.int (nI i))], [], h, 198, sl) = some R) : (∃ m, ∃ a : pm_H, ∃ _u : Unit, v44_8b q cc gc h m2 t3 i = .inl a ∧ HC q cc gc (a) ∧ frm [19, 20] [(19, 5)] h (a) ∧ pm_run PT m fr lo 44 (8, [some (.ref 5), some (.ref 19), some (.int (nI m2)), some (.int t3), some (.int (nI (i + 1)))], [], a, 198, sl) = some R) ∨ (∃ r : Int32 × pm_H, v44_8b q cc gc h m2 t3 i = .inr r ∧ HC q cc gc r.2 ∧ frm [19, 20] [(19, 5)] h r.2 ∧ R = (some (.int r.1), r.2, 198, sl)) := by
  have hcc := hw.cb
  have hgc := hw.gb
  have hzr := hw.zr
  obtain ⟨n, hh⟩ := rn_i rfl rfl rfl rfl hh
  obtain ⟨n, hh⟩ := rn_i rfl rfl rfl rfl hh
  have hh : pm_run PT n fr lo 44 (12, [some (.ref 5), some (.ref 19), some (.int (nI m2)), some (.int t3), some (.int (nI i))], [.int (nI 99), .int (nI i)], h, 198, sl) = some R := hh
  obtain ⟨n, hh⟩ := en_cn (cc := .gt) (off := 26) (t := 38) (b := decide (99 < i)) (hI_gt (by omega) (by omega)) rfl rfl hh
  have hh := en_f (show decide (99 < i) = false from decide_eq_false (by omega)) hh
  have hh : pm_run PT n fr lo 44 (15, [some (.ref 5), some (.ref 19), some (.int (nI m2)), some (.int t3), some (.int (nI i))], [], h, 198, sl) = some R := hh
  obtain ⟨n, hh⟩ := rn_i rfl rfl rfl rfl hh
  obtain ⟨n, hh⟩ := rn_i rfl rfl rfl rfl hh
  obtain ⟨n, hh⟩ := rn_i rfl rfl rfl rfl hh
  have hh : pm_run PT n fr lo 44 (18, [some (.ref 5), some (.ref 19), some (.int (nI m2)), some (.int t3), some (.int (nI i))], [.int (nI m2), .ref 19, .ref 5], h, 198, sl) = some R := hh
  obtain ⟨n, fr1, lo1, r1, hh1, hh⟩ := rn_call (w := 0) (t := 43) rfl rfl hh
  obtain ⟨er1, hc2, hf3⟩ := v43t_ok (c := m2) hw (by omega) hh1
  subst er1
  obtain ⟨n, hh⟩ := rn_i rfl rfl rfl rfl hh
  have hh : pm_run PT n fr lo 44 (22, [some (.ref 5), some (.ref 19), some (.int (nI m2)), some (.int t3), some (.int (nI i))], [.ref 19], v43t q cc gc h m2, 198, sl) = some R := hh
  obtain ⟨n, hh⟩ := rn_gi (x := Fi (v43t q cc gc h m2) 19 5) hc2.wt rfl rfl (by decide) rfl (by decide) rfl rfl hh
  obtain ⟨n, hh⟩ := rn_i rfl rfl rfl rfl hh
  have hh : pm_run PT n fr lo 44 (26, [some (.ref 5), some (.ref 19), some (.int (nI m2)), some (.int t3), some (.int (nI i))], [.int t3, .int (Fi (v43t q cc gc h m2) 19 5)], v43t q cc gc h m2, 198, sl) = some R := hh
  obtain ⟨n, hh⟩ := en_cn (cc := .eq) (off := 6) (t := 32) (b := pm_cmp .eq (Fi (v43t q cc gc h m2) 19 5) t3) rfl rfl rfl hh
  cases z4 : pm_cmp .eq (Fi (v43t q cc gc h m2) 19 5) t3 with
  | true =>
    have hh := en_t z4 hh
    have hh : pm_run PT n fr lo 44 (32, [some (.ref 5), some (.ref 19), some (.int (nI m2)), some (.int t3), some (.int (nI i))], [], v43t q cc gc h m2, 198, sl) = some R := hh
    have hh : pm_run PT n fr lo 44 (32, [some (.ref 5), some (.ref 19), some (.int (nI m2)), some (.int t3), some (.int (nI i))], [], v43t q cc gc h m2, 198, sl) = some R := hh
    obtain ⟨n, hh⟩ := en_inc (x := i) (c := 1) (j := 4) rfl rfl (by decide) hh
    have hh : pm_run PT n fr lo 44 (35, [some (.ref 5), some (.ref 19), some (.int (nI m2)), some (.int t3), some (.int (nI (i + 1)))], [], v43t q cc gc h m2, 198, sl) = some R := hh
    obtain ⟨n, hh⟩ := rn_i rfl rfl rfl rfl hh
    have ed : v44_8b q cc gc h m2 t3 i = .inl (v43t q cc gc h m2) := (ct z4).trans rfl
    exact Or.inl ⟨n, _, (), ed, hc2, (fr_g rfl rfl hf3 fr_0), hh⟩
  | false =>
    have hh := en_f z4 hh
    have hh : pm_run PT n fr lo 44 (29, [some (.ref 5), some (.ref 19), some (.int (nI m2)), some (.int t3), some (.int (nI i))], [], v43t q cc gc h m2, 198, sl) = some R := hh
    obtain ⟨n, hh⟩ := rn_i rfl rfl rfl rfl hh
    have hh : pm_run PT n fr lo 44 (31, [some (.ref 5), some (.ref 19), some (.int (nI m2)), some (.int t3), some (.int (nI i))], [.int (nI i)], v43t q cc gc h m2, 198, sl) = some R := hh
    have er5 : R = (some (.int (nI i)), v43t q cc gc h m2, 198, sl) := (rn_ret rfl (Or.inl rfl) hh).2
    have ed : v44_8b q cc gc h m2 t3 i = .inr (nI i, v43t q cc gc h m2) := (cf z4).trans rfl
    exact Or.inr ⟨_, ed, hc2, (fr_g rfl rfl hf3 fr_0), er5⟩
theorem v44_8_ok {fr lo sl cc gc : Nat} {q : QT} {R : pm_Rs} {m2 : Nat} {t3 : Int32} : ∀ {j i : Nat} {h : pm_H} {n : Nat}, 100 - i = j → i + j < 1000000 → HC q cc gc h → m2 < 10000 → pm_run PT n fr lo 44 (8, [some (.ref 5), some (.ref 19), some (.int (nI m2)), some (.int t3), some (.int (nI i))], [], h, 198, sl) = some R → (∃ m, ∃ a : pm_H, ∃ wc, v44_8 q cc gc m2 t3 j i h = .inl a ∧ HC q cc gc (a) ∧ frm [19, 20] [(19, 5)] h (a) ∧ pm_run PT m fr lo 44 (38, [some (.ref 5), some (.ref 19), some (.int (nI m2)), some (.int t3), wc], [], a, 198, sl) = some R) ∨ (∃ r : Int32 × pm_H, v44_8 q cc gc m2 t3 j i h = .inr r ∧ HC q cc gc r.2 ∧ frm [19, 20] [(19, 5)] h r.2 ∧ R = (some (.int r.1), r.2, 198, sl)) := by
  intro j
  induction j with
  | zero =>
    intro i h n e eI hw h_m2 hh
    obtain ⟨n, hh⟩ := v44_8_e hw h_m2 (by omega) (by omega) hh
    exact Or.inl ⟨n, _, _, rfl, hw, fr_0, hh⟩
  | succ j ih =>
    intro i h n e eI hw h_m2 hh
    rcases v44_8_s hw h_m2 (by omega) (by omega) hh with ⟨n, a, _, e1, hc, hf, hh⟩ | ⟨r, e1, hc, hf, er⟩
    · rcases ih (by omega) (by omega) hc h_m2 hh with ⟨n, b, wc, e2, hc2, hf2, hh⟩ | ⟨r, e2, hc2, hf2, er⟩
      · exact Or.inl ⟨n, b, wc, (lpE_l e1).trans e2, hc2, fr_t hf2 hf, hh⟩
      · exact Or.inr ⟨r, (lpE_l e1).trans e2, hc2, fr_t hf2 hf, er⟩
    · exact Or.inr ⟨r, lpE_r e1, hc, hf, er⟩
def v44 (q : QT) (cc gc : Nat) (h : pm_H) (c : Nat) : Int32 × pm_H := Sum.elim (fun a2 => (nI 100, a2)) (fun r3 => (r3.1, r3.2)) (v44_8 q cc gc c (Fi h 19 5) (100 - 1) 1 h)
theorem v44_ok {n fr lo sl cc gc : Nat} {q : QT} {h : pm_H} {R : pm_Rs} {c : Nat} (hw : HC q cc gc h) (h_c : c < 10000) (hh : pm_run PT n fr lo 44 (0, pm_l0 [.ref 5, .ref 19, .int (nI c)] 5, [], h, 198, sl) = some R) : R = (some (.int ((v44 q cc gc h c).1)), (v44 q cc gc h c).2, 198, sl) ∧ HC q cc gc ((v44 q cc gc h c).2) ∧ frm [19, 20] [(19, 5)] h ((v44 q cc gc h c).2) := by
  have hcc := hw.cb
  have hgc := hw.gb
  have hzr := hw.zr
  obtain ⟨n, hh⟩ := rn_i rfl rfl rfl rfl hh
  have hh : pm_run PT n fr lo 44 (1, [some (.ref 5), some (.ref 19), some (.int (nI c)), none, none], [.ref 19], h, 198, sl) = some R := hh
  obtain ⟨n, hh⟩ := rn_gi (x := Fi h 19 5) hw.wt rfl rfl (by decide) rfl (by decide) rfl rfl hh
  obtain ⟨n, hh⟩ := rn_i rfl rfl rfl rfl hh
  obtain ⟨n, hh⟩ := rn_i rfl rfl rfl rfl hh
  obtain ⟨n, hh⟩ := rn_i rfl rfl rfl rfl hh
  have hh : pm_run PT n fr lo 44 (8, [some (.ref 5), some (.ref 19), some (.int (nI c)), some (.int (Fi h 19 5)), some (.int (nI 1))], [], h, 198, sl) = some R := hh
  rcases v44_8_ok (m2 := c) (t3 := (Fi h 19 5))  (i := 1) (j := (100 - 1)) (by omega) (by omega) hw (by omega) hh with ⟨n, a2, u1, hs4, hc_a2, hf_a2, hh⟩ | ⟨r3, hs4, hc_r3, hf_r3, er_r3⟩
  ·
    have hh : pm_run PT n fr lo 44 (38, [some (.ref 5), some (.ref 19), some (.int (nI c)), some (.int (Fi h 19 5)), u1], [], a2, 198, sl) = some R := hh
    obtain ⟨n, hh⟩ := rn_i rfl rfl rfl rfl hh
    have hh : pm_run PT n fr lo 44 (40, [some (.ref 5), some (.ref 19), some (.int (nI c)), some (.int (Fi h 19 5)), u1], [.int (nI 100)], a2, 198, sl) = some R := hh
    have er5 : R = (some (.int (nI 100)), a2, 198, sl) := (rn_ret rfl (Or.inl rfl) hh).2
    have ed : v44 q cc gc h c = (nI 100, a2) := (se_l hs4).trans rfl
    refine ⟨?_, ?_, ?_⟩ <;> rw [ed]
    · exact er5
    · exact hc_a2
    · exact (fr_g rfl rfl hf_a2 fr_0)
  ·
    have ed : v44 q cc gc h c = (r3.1, r3.2) := (se_r hs4).trans rfl
    refine ⟨?_, ?_, ?_⟩ <;> rw [ed]
    · exact er_r3
    · exact hc_r3
    · exact (fr_g rfl rfl hf_r3 fr_0)
def v40 (q : QT) (cc gc : Nat) (h : pm_H) (g : Nat) (c : Nat) (v : Int32) : pm_H := cond (v76 q cc gc (Ar h 18) (Fi h 13 5) g c) (cond (pm_cmp .le ((Ar h 16) (((((Ar h 17) g).toNatClampNeg) * 6) + c)) 0) (aset (aset (aset (aset h 15 36 (upd (Ar h 15) (c * 6 + (((Ar h 17) g).toNatClampNeg)) (imax (nI 0) (imin (nI 20) (((Ar h 15) (c * 6 + (((Ar h 17) g).toNatClampNeg))) + (v77 q cc gc (Ar h 18) (Fi h 13 5) g c ((Ar h 16) (((((Ar h 17) g).toNatClampNeg) * 6) + c)) v)))))) 16 36 (upd (Ar h 16) (c * 6 + (((Ar h 17) g).toNatClampNeg)) (imin (nI 9999) (((Ar h 16) (c * 6 + (((Ar h 17) g).toNatClampNeg))) + v)))) 17 8 (upd (Ar h 17) g (nI c))) 18 8 (upd (Ar h 18) g (((Ar h 18) g) ||| (shl (nI 1) (nI c))))) (aset (aset (aset (aset h 15 36 (upd (Ar h 15) (c * 6 + (((Ar h 17) g).toNatClampNeg)) (imax (nI 0) (imin (nI 20) (((Ar h 15) (c * 6 + (((Ar h 17) g).toNatClampNeg))) + (v77 q cc gc (Ar h 18) (Fi h 13 5) g c ((Ar h 16) (((((Ar h 17) g).toNatClampNeg) * 6) + c)) v)))))) 16 36 (upd (Ar h 16) (((((Ar h 17) g).toNatClampNeg) * 6) + c) (nI 0))) 17 8 (upd (Ar h 17) g (nI c))) 18 8 (upd (Ar h 18) g (((Ar h 18) g) ||| (shl (nI 1) (nI c)))))) (aset (aset (aset h 15 36 (upd (Ar h 15) (c * 6 + (((Ar h 17) g).toNatClampNeg)) (imax (nI 0) (imin (nI 20) (((Ar h 15) (c * 6 + (((Ar h 17) g).toNatClampNeg))) + (v77 q cc gc (Ar h 18) (Fi h 13 5) g c ((Ar h 16) (((((Ar h 17) g).toNatClampNeg) * 6) + c)) v)))))) 17 8 (upd (Ar h 17) g (nI c))) 18 8 (upd (Ar h 18) g (((Ar h 18) g) ||| (shl (nI 1) (nI c)))))
theorem v40_ok {n fr lo sl cc gc : Nat} {q : QT} {h : pm_H} {R : pm_Rs} {g : Nat} {c : Nat} {v : Int32} (hw : HC q cc gc h) (h_g : g < 10000) (h_c : c < 10000) (hol : NA h 17 0 8 6) (hh : pm_run PT n fr lo 40 (0, pm_l0 [.ref 5, .ref 13, .int (nI g), .int (nI c), .int v] 9, [], h, 198, sl) = some R) : R = (none, v40 q cc gc h g c v, 198, sl) ∧ HC q cc gc (v40 q cc gc h g c v) ∧ frm [15, 16, 17, 18] [] h (v40 q cc gc h g c v) := by
  have hcc := hw.cb
  have hgc := hw.gb
  have hzr := hw.zr
  obtain ⟨n, hh⟩ := rn_i rfl rfl rfl rfl hh
  have hh : pm_run PT n fr lo 40 (1, [some (.ref 5), some (.ref 13), some (.int (nI g)), some (.int (nI c)), some (.int v), none, none, none, none], [.ref 13], h, 198, sl) = some R := hh
  obtain ⟨n, hh⟩ := rn_gr hw.wt rfl rfl (by decide) rfl (by decide) (show _ = some (2, ((17 : Nat) : Int), 1) from rfl) rfl hh
  obtain ⟨n, hh⟩ := rn_i rfl rfl rfl rfl hh
  have hh : pm_run PT n fr lo 40 (5, [some (.ref 5), some (.ref 13), some (.int (nI g)), some (.int (nI c)), some (.int v), none, none, none, none], [.int (nI g), .ref 17], h, 198, sl) = some R := hh
  obtain ⟨n, hx1, hh⟩ := en_lu (t := g) (f := Ar h 17) (w := nI (((Ar h 17) g).toNatClampNeg)) (nI_clamp (by omega)) hw.wt rfl (by decide) rfl (by decide) rfl (fun z => (hol _ (by omega) (by omega)).1) hh
  have hb2 := (hol g (by omega) (by omega)).2
  obtain ⟨n, hh⟩ := rn_i rfl rfl rfl rfl hh
  obtain ⟨n, hh⟩ := rn_i rfl rfl rfl rfl hh
  obtain ⟨n, hh⟩ := rn_i rfl rfl rfl rfl hh
  have hh : pm_run PT n fr lo 40 (11, [some (.ref 5), some (.ref 13), some (.int (nI g)), some (.int (nI c)), some (.int v), some (.int (nI (((Ar h 17) g).toNatClampNeg))), none, none, none], [.int (nI (((Ar h 17) g).toNatClampNeg)), .int (nI c)], h, 198, sl) = some R := hh
  obtain ⟨n, fr1, lo1, r1, hh1, hh⟩ := rn_call (w := 3) (t := 160) rfl rfl hh
  have hh1 : pm_run PT n fr1 lo1 160 (0, [some (.int (nI c)), some (.int (nI (((Ar h 17) g).toNatClampNeg)))], [], h, 198, sl) = some r1 := hh1
  obtain ⟨n1, hh1⟩ := rn_i rfl rfl rfl rfl hh1
  obtain ⟨n1, hh1⟩ := rn_i rfl rfl rfl rfl hh1
  have hh1 : pm_run PT n1 fr1 lo1 160 (3, [some (.int (nI c)), some (.int (nI (((Ar h 17) g).toNatClampNeg)))], [.int (nI 6), .int (nI c)], h, 198, sl) = some r1 := hh1
  obtain ⟨n1, hh1⟩ := en_mul rfl hh1
  have hh1 : pm_run PT n1 fr1 lo1 160 (4, [some (.int (nI c)), some (.int (nI (((Ar h 17) g).toNatClampNeg)))], [.int (nI (c * 6))], h, 198, sl) = some r1 := hh1
  obtain ⟨n1, hh1⟩ := rn_i rfl rfl rfl rfl hh1
  have hh1 : pm_run PT n1 fr1 lo1 160 (5, [some (.int (nI c)), some (.int (nI (((Ar h 17) g).toNatClampNeg)))], [.int (nI (((Ar h 17) g).toNatClampNeg)), .int (nI (c * 6))], h, 198, sl) = some r1 := hh1
  obtain ⟨n1, hh1⟩ := en_add rfl hh1
  have hh1 : pm_run PT n1 fr1 lo1 160 (6, [some (.int (nI c)), some (.int (nI (((Ar h 17) g).toNatClampNeg)))], [.int (nI (c * 6 + (((Ar h 17) g).toNatClampNeg)))], h, 198, sl) = some r1 := hh1
  have hh1 : pm_run PT n1 fr1 lo1 160 (6, [some (.int (nI c)), some (.int (nI (((Ar h 17) g).toNatClampNeg)))], [.int (nI (c * 6 + (((Ar h 17) g).toNatClampNeg)))], h, 198, sl) = some r1 := hh1
  have er3 : r1 = (some (.int (nI (c * 6 + (((Ar h 17) g).toNatClampNeg)))), h, 198, sl) := (rn_ret rfl (Or.inl rfl) hh1).2
  subst er3
  obtain ⟨n, hh⟩ := rn_i rfl rfl rfl rfl hh
  obtain ⟨n, hh⟩ := rn_i rfl rfl rfl rfl hh
  obtain ⟨n, hh⟩ := rn_i rfl rfl rfl rfl hh
  have hh : pm_run PT n fr lo 40 (19, [some (.ref 5), some (.ref 13), some (.int (nI g)), some (.int (nI c)), some (.int v), some (.int (nI (((Ar h 17) g).toNatClampNeg))), some (.int (nI (c * 6 + (((Ar h 17) g).toNatClampNeg)))), none, none], [.int (nI c), .int (nI (((Ar h 17) g).toNatClampNeg))], h, 198, sl) = some R := hh
  obtain ⟨n, fr1, lo1, r1, hh1, hh⟩ := rn_call (w := 3) (t := 160) rfl rfl hh
  have hh1 : pm_run PT n fr1 lo1 160 (0, [some (.int (nI (((Ar h 17) g).toNatClampNeg))), some (.int (nI c))], [], h, 198, sl) = some r1 := hh1
  obtain ⟨n1, hh1⟩ := rn_i rfl rfl rfl rfl hh1
  obtain ⟨n1, hh1⟩ := rn_i rfl rfl rfl rfl hh1
  have hh1 : pm_run PT n1 fr1 lo1 160 (3, [some (.int (nI (((Ar h 17) g).toNatClampNeg))), some (.int (nI c))], [.int (nI 6), .int (nI (((Ar h 17) g).toNatClampNeg))], h, 198, sl) = some r1 := hh1
  obtain ⟨n1, hh1⟩ := en_mul rfl hh1
  have hh1 : pm_run PT n1 fr1 lo1 160 (4, [some (.int (nI (((Ar h 17) g).toNatClampNeg))), some (.int (nI c))], [.int (nI ((((Ar h 17) g).toNatClampNeg) * 6))], h, 198, sl) = some r1 := hh1
  obtain ⟨n1, hh1⟩ := rn_i rfl rfl rfl rfl hh1
  have hh1 : pm_run PT n1 fr1 lo1 160 (5, [some (.int (nI (((Ar h 17) g).toNatClampNeg))), some (.int (nI c))], [.int (nI c), .int (nI ((((Ar h 17) g).toNatClampNeg) * 6))], h, 198, sl) = some r1 := hh1
  obtain ⟨n1, hh1⟩ := en_add rfl hh1
  have hh1 : pm_run PT n1 fr1 lo1 160 (6, [some (.int (nI (((Ar h 17) g).toNatClampNeg))), some (.int (nI c))], [.int (nI (((((Ar h 17) g).toNatClampNeg) * 6) + c))], h, 198, sl) = some r1 := hh1
  have hh1 : pm_run PT n1 fr1 lo1 160 (6, [some (.int (nI (((Ar h 17) g).toNatClampNeg))), some (.int (nI c))], [.int (nI (((((Ar h 17) g).toNatClampNeg) * 6) + c))], h, 198, sl) = some r1 := hh1
  have er4 : r1 = (some (.int (nI (((((Ar h 17) g).toNatClampNeg) * 6) + c))), h, 198, sl) := (rn_ret rfl (Or.inl rfl) hh1).2
  subst er4
  obtain ⟨n, hh⟩ := rn_i rfl rfl rfl rfl hh
  obtain ⟨n, hh⟩ := rn_i rfl rfl rfl rfl hh
  obtain ⟨n, hh⟩ := rn_i rfl rfl rfl rfl hh
  obtain ⟨n, hh⟩ := rn_i rfl rfl rfl rfl hh
  obtain ⟨n, hh⟩ := rn_i rfl rfl rfl rfl hh
  have hh : pm_run PT n fr lo 40 (28, [some (.ref 5), some (.ref 13), some (.int (nI g)), some (.int (nI c)), some (.int v), some (.int (nI (((Ar h 17) g).toNatClampNeg))), some (.int (nI (c * 6 + (((Ar h 17) g).toNatClampNeg)))), some (.int (nI (((((Ar h 17) g).toNatClampNeg) * 6) + c))), none], [.ref 13, .int (nI c), .int (nI g), .ref 13], h, 198, sl) = some R := hh
  obtain ⟨n, hh⟩ := rn_gr hw.wt rfl rfl (by decide) rfl (by decide) (show _ = some (2, ((16 : Nat) : Int), 1) from rfl) rfl hh
  obtain ⟨n, hh⟩ := rn_i rfl rfl rfl rfl hh
  have hh : pm_run PT n fr lo 40 (33, [some (.ref 5), some (.ref 13), some (.int (nI g)), some (.int (nI c)), some (.int v), some (.int (nI (((Ar h 17) g).toNatClampNeg))), some (.int (nI (c * 6 + (((Ar h 17) g).toNatClampNeg)))), some (.int (nI (((((Ar h 17) g).toNatClampNeg) * 6) + c))), none], [.int (nI (((((Ar h 17) g).toNatClampNeg) * 6) + c)), .ref 16, .int (nI c), .int (nI g), .ref 13], h, 198, sl) = some R := hh
  obtain ⟨n, hx5, hh⟩ := en_lu (t := ((((Ar h 17) g).toNatClampNeg) * 6) + c) (f := Ar h 16) (w := (Ar h 16) (((((Ar h 17) g).toNatClampNeg) * 6) + c)) (nI_clamp (by omega)) hw.wt rfl (by decide) rfl (by decide) rfl (fun _ => rfl) hh
  obtain ⟨n, hh⟩ := rn_i rfl rfl rfl rfl hh
  have hh : pm_run PT n fr lo 40 (36, [some (.ref 5), some (.ref 13), some (.int (nI g)), some (.int (nI c)), some (.int v), some (.int (nI (((Ar h 17) g).toNatClampNeg))), some (.int (nI (c * 6 + (((Ar h 17) g).toNatClampNeg)))), some (.int (nI (((((Ar h 17) g).toNatClampNeg) * 6) + c))), none], [.int v, .int ((Ar h 16) (((((Ar h 17) g).toNatClampNeg) * 6) + c)), .int (nI c), .int (nI g), .ref 13], h, 198, sl) = some R := hh
  obtain ⟨n, fr1, lo1, r1, hh1, hh⟩ := rn_call (w := 0) (t := 77) rfl rfl hh
  have er6 := v77_ok (g := g) (c := c) (o := ((Ar h 16) (((((Ar h 17) g).toNatClampNeg) * 6) + c))) (v := v) hw (by omega) (by omega) hh1
  subst er6
  obtain ⟨n, hh⟩ := rn_i rfl rfl rfl rfl hh
  obtain ⟨n, hh⟩ := rn_i rfl rfl rfl rfl hh
  have hh : pm_run PT n fr lo 40 (42, [some (.ref 5), some (.ref 13), some (.int (nI g)), some (.int (nI c)), some (.int v), some (.int (nI (((Ar h 17) g).toNatClampNeg))), some (.int (nI (c * 6 + (((Ar h 17) g).toNatClampNeg)))), some (.int (nI (((((Ar h 17) g).toNatClampNeg) * 6) + c))), some (.int (v77 q cc gc (Ar h 18) (Fi h 13 5) g c ((Ar h 16) (((((Ar h 17) g).toNatClampNeg) * 6) + c)) v))], [.ref 13], h, 198, sl) = some R := hh
  obtain ⟨n, hh⟩ := rn_gr hw.wt rfl rfl (by decide) rfl (by decide) (show _ = some (2, ((15 : Nat) : Int), 1) from rfl) rfl hh
  obtain ⟨n, hh⟩ := rn_i rfl rfl rfl rfl hh
  obtain ⟨n, hh⟩ := rn_i rfl rfl rfl rfl hh
  have hh : pm_run PT n fr lo 40 (48, [some (.ref 5), some (.ref 13), some (.int (nI g)), some (.int (nI c)), some (.int v), some (.int (nI (((Ar h 17) g).toNatClampNeg))), some (.int (nI (c * 6 + (((Ar h 17) g).toNatClampNeg)))), some (.int (nI (((((Ar h 17) g).toNatClampNeg) * 6) + c))), some (.int (v77 q cc gc (Ar h 18) (Fi h 13 5) g c ((Ar h 16) (((((Ar h 17) g).toNatClampNeg) * 6) + c)) v))], [.ref 13, .int (nI (c * 6 + (((Ar h 17) g).toNatClampNeg))), .ref 15], h, 198, sl) = some R := hh
  obtain ⟨n, hh⟩ := rn_gr hw.wt rfl rfl (by decide) rfl (by decide) (show _ = some (2, ((15 : Nat) : Int), 1) from rfl) rfl hh
  obtain ⟨n, hh⟩ := rn_i rfl rfl rfl rfl hh
  have hh : pm_run PT n fr lo 40 (53, [some (.ref 5), some (.ref 13), some (.int (nI g)), some (.int (nI c)), some (.int v), some (.int (nI (((Ar h 17) g).toNatClampNeg))), some (.int (nI (c * 6 + (((Ar h 17) g).toNatClampNeg)))), some (.int (nI (((((Ar h 17) g).toNatClampNeg) * 6) + c))), some (.int (v77 q cc gc (Ar h 18) (Fi h 13 5) g c ((Ar h 16) (((((Ar h 17) g).toNatClampNeg) * 6) + c)) v))], [.int (nI (c * 6 + (((Ar h 17) g).toNatClampNeg))), .ref 15, .int (nI (c * 6 + (((Ar h 17) g).toNatClampNeg))), .ref 15], h, 198, sl) = some R := hh
  obtain ⟨n, hx7, hh⟩ := en_lu (t := c * 6 + (((Ar h 17) g).toNatClampNeg)) (f := Ar h 15) (w := (Ar h 15) (c * 6 + (((Ar h 17) g).toNatClampNeg))) (nI_clamp (by omega)) hw.wt rfl (by decide) rfl (by decide) rfl (fun _ => rfl) hh
  obtain ⟨n, hh⟩ := rn_i rfl rfl rfl rfl hh
  obtain ⟨n, hh⟩ := rn_i rfl rfl rfl rfl hh
  obtain ⟨n, hh⟩ := rn_i rfl rfl rfl rfl hh
  have hh : pm_run PT n fr lo 40 (59, [some (.ref 5), some (.ref 13), some (.int (nI g)), some (.int (nI c)), some (.int v), some (.int (nI (((Ar h 17) g).toNatClampNeg))), some (.int (nI (c * 6 + (((Ar h 17) g).toNatClampNeg)))), some (.int (nI (((((Ar h 17) g).toNatClampNeg) * 6) + c))), some (.int (v77 q cc gc (Ar h 18) (Fi h 13 5) g c ((Ar h 16) (((((Ar h 17) g).toNatClampNeg) * 6) + c)) v))], [.int (nI 20), .int (((Ar h 15) (c * 6 + (((Ar h 17) g).toNatClampNeg))) + (v77 q cc gc (Ar h 18) (Fi h 13 5) g c ((Ar h 16) (((((Ar h 17) g).toNatClampNeg) * 6) + c)) v)), .int (nI (c * 6 + (((Ar h 17) g).toNatClampNeg))), .ref 15], h, 198, sl) = some R := hh
  obtain ⟨n, fr1, lo1, r1, hh1, hh⟩ := rn_call (w := 3) (t := 159) rfl rfl hh
  have hh1 : pm_run PT n fr1 lo1 159 (0, [some (.int (((Ar h 15) (c * 6 + (((Ar h 17) g).toNatClampNeg))) + (v77 q cc gc (Ar h 18) (Fi h 13 5) g c ((Ar h 16) (((((Ar h 17) g).toNatClampNeg) * 6) + c)) v))), some (.int (nI 20))], [], h, 198, sl) = some r1 := hh1
  obtain ⟨n1, hh1⟩ := rn_i rfl rfl rfl rfl hh1
  obtain ⟨n1, hh1⟩ := rn_i rfl rfl rfl rfl hh1
  obtain ⟨n1, hh1⟩ := rn_i rfl rfl rfl rfl hh1
  have hh1 : pm_run PT n1 fr1 lo1 159 (3, [some (.int (((Ar h 15) (c * 6 + (((Ar h 17) g).toNatClampNeg))) + (v77 q cc gc (Ar h 18) (Fi h 13 5) g c ((Ar h 16) (((((Ar h 17) g).toNatClampNeg) * 6) + c)) v))), some (.int (nI 20))], [.int (((Ar h 15) (c * 6 + (((Ar h 17) g).toNatClampNeg))) + (v77 q cc gc (Ar h 18) (Fi h 13 5) g c ((Ar h 16) (((((Ar h 17) g).toNatClampNeg) * 6) + c)) v)), .int (nI 20), .int (nI 0)], h, 198, sl) = some r1 := hh1
  obtain ⟨n1, hh1⟩ := en_min rfl rfl rfl hh1
  have hh1 : pm_run PT n1 fr1 lo1 159 (6, [some (.int (((Ar h 15) (c * 6 + (((Ar h 17) g).toNatClampNeg))) + (v77 q cc gc (Ar h 18) (Fi h 13 5) g c ((Ar h 16) (((((Ar h 17) g).toNatClampNeg) * 6) + c)) v))), some (.int (nI 20))], [.int (imin (nI 20) (((Ar h 15) (c * 6 + (((Ar h 17) g).toNatClampNeg))) + (v77 q cc gc (Ar h 18) (Fi h 13 5) g c ((Ar h 16) (((((Ar h 17) g).toNatClampNeg) * 6) + c)) v))), .int (nI 0)], h, 198, sl) = some r1 := hh1
  obtain ⟨n1, hh1⟩ := en_max rfl rfl rfl hh1
  have hh1 : pm_run PT n1 fr1 lo1 159 (9, [some (.int (((Ar h 15) (c * 6 + (((Ar h 17) g).toNatClampNeg))) + (v77 q cc gc (Ar h 18) (Fi h 13 5) g c ((Ar h 16) (((((Ar h 17) g).toNatClampNeg) * 6) + c)) v))), some (.int (nI 20))], [.int (imax (nI 0) (imin (nI 20) (((Ar h 15) (c * 6 + (((Ar h 17) g).toNatClampNeg))) + (v77 q cc gc (Ar h 18) (Fi h 13 5) g c ((Ar h 16) (((((Ar h 17) g).toNatClampNeg) * 6) + c)) v))))], h, 198, sl) = some r1 := hh1
  have er8 : r1 = (some (.int (imax (nI 0) (imin (nI 20) (((Ar h 15) (c * 6 + (((Ar h 17) g).toNatClampNeg))) + (v77 q cc gc (Ar h 18) (Fi h 13 5) g c ((Ar h 16) (((((Ar h 17) g).toNatClampNeg) * 6) + c)) v))))), h, 198, sl) := (rn_ret rfl (Or.inl rfl) hh1).2
  subst er8
  have hh : pm_run PT n fr lo 40 (62, [some (.ref 5), some (.ref 13), some (.int (nI g)), some (.int (nI c)), some (.int v), some (.int (nI (((Ar h 17) g).toNatClampNeg))), some (.int (nI (c * 6 + (((Ar h 17) g).toNatClampNeg)))), some (.int (nI (((((Ar h 17) g).toNatClampNeg) * 6) + c))), some (.int (v77 q cc gc (Ar h 18) (Fi h 13 5) g c ((Ar h 16) (((((Ar h 17) g).toNatClampNeg) * 6) + c)) v))], [.int (imax (nI 0) (imin (nI 20) (((Ar h 15) (c * 6 + (((Ar h 17) g).toNatClampNeg))) + (v77 q cc gc (Ar h 18) (Fi h 13 5) g c ((Ar h 16) (((((Ar h 17) g).toNatClampNeg) * 6) + c)) v)))), .int (nI (c * 6 + (((Ar h 17) g).toNatClampNeg))), .ref 15], h, 198, sl) = some R := hh
  obtain ⟨n, hx9, hh⟩ := en_st (t := c * 6 + (((Ar h 17) g).toNatClampNeg)) (f := Ar h 15) (nI_clamp (by omega)) hw.wt rfl (by decide) rfl (by decide) rfl hh
  obtain ⟨n, hh⟩ := rn_i rfl rfl rfl rfl hh
  obtain ⟨n, hh⟩ := rn_i rfl rfl rfl rfl hh
  obtain ⟨n, hh⟩ := rn_i rfl rfl rfl rfl hh
  have hh : pm_run PT n fr lo 40 (66, [some (.ref 5), some (.ref 13), some (.int (nI g)), some (.int (nI c)), some (.int v), some (.int (nI (((Ar h 17) g).toNatClampNeg))), some (.int (nI (c * 6 + (((Ar h 17) g).toNatClampNeg)))), some (.int (nI (((((Ar h 17) g).toNatClampNeg) * 6) + c))), some (.int (v77 q cc gc (Ar h 18) (Fi h 13 5) g c ((Ar h 16) (((((Ar h 17) g).toNatClampNeg) * 6) + c)) v))], [.int (nI c), .int (nI g), .ref 13], aset h 15 36 (upd (Ar h 15) (c * 6 + (((Ar h 17) g).toNatClampNeg)) (imax (nI 0) (imin (nI 20) (((Ar h 15) (c * 6 + (((Ar h 17) g).toNatClampNeg))) + (v77 q cc gc (Ar h 18) (Fi h 13 5) g c ((Ar h 16) (((((Ar h 17) g).toNatClampNeg) * 6) + c)) v))))), 198, sl) = some R := hh
  obtain ⟨n, fr1, lo1, r1, hh1, hh⟩ := rn_call (w := 0) (t := 76) rfl rfl hh
  have er10 := v76_ok (g := g) (c := c) (hc_a rfl rfl hw) (by omega) (by omega) hh1
  rw [show Ar (aset h 15 36 (upd (Ar h 15) (c * 6 + (((Ar h 17) g).toNatClampNeg)) (imax (nI 0) (imin (nI 20) (((Ar h 15) (c * 6 + (((Ar h 17) g).toNatClampNeg))) + (v77 q cc gc (Ar h 18) (Fi h 13 5) g c ((Ar h 16) (((((Ar h 17) g).toNatClampNeg) * 6) + c)) v)))))) 18 = Ar h 18 from ((Ar_n (by decide)).trans rfl)] at er10
  rw [show Fi (aset h 15 36 (upd (Ar h 15) (c * 6 + (((Ar h 17) g).toNatClampNeg)) (imax (nI 0) (imin (nI 20) (((Ar h 15) (c * 6 + (((Ar h 17) g).toNatClampNeg))) + (v77 q cc gc (Ar h 18) (Fi h 13 5) g c ((Ar h 16) (((((Ar h 17) g).toNatClampNeg) * 6) + c)) v)))))) 13 5 = Fi h 13 5 from ((Fi_a (by decide)).trans rfl)] at er10
  subst er10
  have hh : pm_run PT n fr lo 40 (69, [some (.ref 5), some (.ref 13), some (.int (nI g)), some (.int (nI c)), some (.int v), some (.int (nI (((Ar h 17) g).toNatClampNeg))), some (.int (nI (c * 6 + (((Ar h 17) g).toNatClampNeg)))), some (.int (nI (((((Ar h 17) g).toNatClampNeg) * 6) + c))), some (.int (v77 q cc gc (Ar h 18) (Fi h 13 5) g c ((Ar h 16) (((((Ar h 17) g).toNatClampNeg) * 6) + c)) v))], [.int (cond (v76 q cc gc (Ar h 18) (Fi h 13 5) g c) 1 0)], aset h 15 36 (upd (Ar h 15) (c * 6 + (((Ar h 17) g).toNatClampNeg)) (imax (nI 0) (imin (nI 20) (((Ar h 15) (c * 6 + (((Ar h 17) g).toNatClampNeg))) + (v77 q cc gc (Ar h 18) (Fi h 13 5) g c ((Ar h 16) (((((Ar h 17) g).toNatClampNeg) * 6) + c)) v))))), 198, sl) = some R := hh
  obtain ⟨n, hh⟩ := en_zn (cc := .eq) (off := 47) (t := 116) (b := !(v76 q cc gc (Ar h 18) (Fi h 13 5) g c)) eb_eq rfl rfl hh
  cases z11 : v76 q cc gc (Ar h 18) (Fi h 13 5) g c with
  | true =>
    have hh := en_nt z11 hh
    have hh : pm_run PT n fr lo 40 (72, [some (.ref 5), some (.ref 13), some (.int (nI g)), some (.int (nI c)), some (.int v), some (.int (nI (((Ar h 17) g).toNatClampNeg))), some (.int (nI (c * 6 + (((Ar h 17) g).toNatClampNeg)))), some (.int (nI (((((Ar h 17) g).toNatClampNeg) * 6) + c))), some (.int (v77 q cc gc (Ar h 18) (Fi h 13 5) g c ((Ar h 16) (((((Ar h 17) g).toNatClampNeg) * 6) + c)) v))], [], aset h 15 36 (upd (Ar h 15) (c * 6 + (((Ar h 17) g).toNatClampNeg)) (imax (nI 0) (imin (nI 20) (((Ar h 15) (c * 6 + (((Ar h 17) g).toNatClampNeg))) + (v77 q cc gc (Ar h 18) (Fi h 13 5) g c ((Ar h 16) (((((Ar h 17) g).toNatClampNeg) * 6) + c)) v))))), 198, sl) = some R := hh
    obtain ⟨n, hh⟩ := rn_i rfl rfl rfl rfl hh
    have hh : pm_run PT n fr lo 40 (73, [some (.ref 5), some (.ref 13), some (.int (nI g)), some (.int (nI c)), some (.int v), some (.int (nI (((Ar h 17) g).toNatClampNeg))), some (.int (nI (c * 6 + (((Ar h 17) g).toNatClampNeg)))), some (.int (nI (((((Ar h 17) g).toNatClampNeg) * 6) + c))), some (.int (v77 q cc gc (Ar h 18) (Fi h 13 5) g c ((Ar h 16) (((((Ar h 17) g).toNatClampNeg) * 6) + c)) v))], [.ref 13], aset h 15 36 (upd (Ar h 15) (c * 6 + (((Ar h 17) g).toNatClampNeg)) (imax (nI 0) (imin (nI 20) (((Ar h 15) (c * 6 + (((Ar h 17) g).toNatClampNeg))) + (v77 q cc gc (Ar h 18) (Fi h 13 5) g c ((Ar h 16) (((((Ar h 17) g).toNatClampNeg) * 6) + c)) v))))), 198, sl) = some R := hh
    obtain ⟨n, hh⟩ := rn_gr (hc_a rfl rfl hw).wt rfl rfl (by decide) rfl (by decide) (show _ = some (2, ((16 : Nat) : Int), 1) from rfl) rfl hh
    obtain ⟨n, hh⟩ := rn_i rfl rfl rfl rfl hh
    have hh : pm_run PT n fr lo 40 (78, [some (.ref 5), some (.ref 13), some (.int (nI g)), some (.int (nI c)), some (.int v), some (.int (nI (((Ar h 17) g).toNatClampNeg))), some (.int (nI (c * 6 + (((Ar h 17) g).toNatClampNeg)))), some (.int (nI (((((Ar h 17) g).toNatClampNeg) * 6) + c))), some (.int (v77 q cc gc (Ar h 18) (Fi h 13 5) g c ((Ar h 16) (((((Ar h 17) g).toNatClampNeg) * 6) + c)) v))], [.int (nI (((((Ar h 17) g).toNatClampNeg) * 6) + c)), .ref 16], aset h 15 36 (upd (Ar h 15) (c * 6 + (((Ar h 17) g).toNatClampNeg)) (imax (nI 0) (imin (nI 20) (((Ar h 15) (c * 6 + (((Ar h 17) g).toNatClampNeg))) + (v77 q cc gc (Ar h 18) (Fi h 13 5) g c ((Ar h 16) (((((Ar h 17) g).toNatClampNeg) * 6) + c)) v))))), 198, sl) = some R := hh
    obtain ⟨n, hx12, hh⟩ := en_lu (t := ((((Ar h 17) g).toNatClampNeg) * 6) + c) (f := Ar h 16) (w := (Ar h 16) (((((Ar h 17) g).toNatClampNeg) * 6) + c)) (nI_clamp (by omega)) (hc_a rfl rfl hw).wt rfl (by decide) rfl (by decide) ((Ar_n (by decide)).trans rfl) (fun _ => rfl) hh
    have hh : pm_run PT n fr lo 40 (79, [some (.ref 5), some (.ref 13), some (.int (nI g)), some (.int (nI c)), some (.int v), some (.int (nI (((Ar h 17) g).toNatClampNeg))), some (.int (nI (c * 6 + (((Ar h 17) g).toNatClampNeg)))), some (.int (nI (((((Ar h 17) g).toNatClampNeg) * 6) + c))), some (.int (v77 q cc gc (Ar h 18) (Fi h 13 5) g c ((Ar h 16) (((((Ar h 17) g).toNatClampNeg) * 6) + c)) v))], [.int ((Ar h 16) (((((Ar h 17) g).toNatClampNeg) * 6) + c))], aset h 15 36 (upd (Ar h 15) (c * 6 + (((Ar h 17) g).toNatClampNeg)) (imax (nI 0) (imin (nI 20) (((Ar h 15) (c * 6 + (((Ar h 17) g).toNatClampNeg))) + (v77 q cc gc (Ar h 18) (Fi h 13 5) g c ((Ar h 16) (((((Ar h 17) g).toNatClampNeg) * 6) + c)) v))))), 198, sl) = some R := hh
    obtain ⟨n, hh⟩ := en_zn (cc := .le) (off := 14) (t := 93) (b := pm_cmp .le ((Ar h 16) (((((Ar h 17) g).toNatClampNeg) * 6) + c)) 0) rfl rfl rfl hh
    cases z13 : pm_cmp .le ((Ar h 16) (((((Ar h 17) g).toNatClampNeg) * 6) + c)) 0 with
    | true =>
      have hh := en_t z13 hh
      have hh : pm_run PT n fr lo 40 (93, [some (.ref 5), some (.ref 13), some (.int (nI g)), some (.int (nI c)), some (.int v), some (.int (nI (((Ar h 17) g).toNatClampNeg))), some (.int (nI (c * 6 + (((Ar h 17) g).toNatClampNeg)))), some (.int (nI (((((Ar h 17) g).toNatClampNeg) * 6) + c))), some (.int (v77 q cc gc (Ar h 18) (Fi h 13 5) g c ((Ar h 16) (((((Ar h 17) g).toNatClampNeg) * 6) + c)) v))], [], aset h 15 36 (upd (Ar h 15) (c * 6 + (((Ar h 17) g).toNatClampNeg)) (imax (nI 0) (imin (nI 20) (((Ar h 15) (c * 6 + (((Ar h 17) g).toNatClampNeg))) + (v77 q cc gc (Ar h 18) (Fi h 13 5) g c ((Ar h 16) (((((Ar h 17) g).toNatClampNeg) * 6) + c)) v))))), 198, sl) = some R := hh
      obtain ⟨n, hh⟩ := rn_i rfl rfl rfl rfl hh
      have hh : pm_run PT n fr lo 40 (94, [some (.ref 5), some (.ref 13), some (.int (nI g)), some (.int (nI c)), some (.int v), some (.int (nI (((Ar h 17) g).toNatClampNeg))), some (.int (nI (c * 6 + (((Ar h 17) g).toNatClampNeg)))), some (.int (nI (((((Ar h 17) g).toNatClampNeg) * 6) + c))), some (.int (v77 q cc gc (Ar h 18) (Fi h 13 5) g c ((Ar h 16) (((((Ar h 17) g).toNatClampNeg) * 6) + c)) v))], [.ref 13], aset h 15 36 (upd (Ar h 15) (c * 6 + (((Ar h 17) g).toNatClampNeg)) (imax (nI 0) (imin (nI 20) (((Ar h 15) (c * 6 + (((Ar h 17) g).toNatClampNeg))) + (v77 q cc gc (Ar h 18) (Fi h 13 5) g c ((Ar h 16) (((((Ar h 17) g).toNatClampNeg) * 6) + c)) v))))), 198, sl) = some R := hh
      obtain ⟨n, hh⟩ := rn_gr (hc_a rfl rfl hw).wt rfl rfl (by decide) rfl (by decide) (show _ = some (2, ((16 : Nat) : Int), 1) from rfl) rfl hh
      obtain ⟨n, hh⟩ := rn_i rfl rfl rfl rfl hh
      obtain ⟨n, hh⟩ := rn_i rfl rfl rfl rfl hh
      obtain ⟨n, hh⟩ := rn_i rfl rfl rfl rfl hh
      have hh : pm_run PT n fr lo 40 (103, [some (.ref 5), some (.ref 13), some (.int (nI g)), some (.int (nI c)), some (.int v), some (.int (nI (((Ar h 17) g).toNatClampNeg))), some (.int (nI (c * 6 + (((Ar h 17) g).toNatClampNeg)))), some (.int (nI (((((Ar h 17) g).toNatClampNeg) * 6) + c))), some (.int (v77 q cc gc (Ar h 18) (Fi h 13 5) g c ((Ar h 16) (((((Ar h 17) g).toNatClampNeg) * 6) + c)) v))], [.ref 13, .int (nI 9999), .int (nI (c * 6 + (((Ar h 17) g).toNatClampNeg))), .ref 16], aset h 15 36 (upd (Ar h 15) (c * 6 + (((Ar h 17) g).toNatClampNeg)) (imax (nI 0) (imin (nI 20) (((Ar h 15) (c * 6 + (((Ar h 17) g).toNatClampNeg))) + (v77 q cc gc (Ar h 18) (Fi h 13 5) g c ((Ar h 16) (((((Ar h 17) g).toNatClampNeg) * 6) + c)) v))))), 198, sl) = some R := hh
      obtain ⟨n, hh⟩ := rn_gr (hc_a rfl rfl hw).wt rfl rfl (by decide) rfl (by decide) (show _ = some (2, ((16 : Nat) : Int), 1) from rfl) rfl hh
      obtain ⟨n, hh⟩ := rn_i rfl rfl rfl rfl hh
      have hh : pm_run PT n fr lo 40 (108, [some (.ref 5), some (.ref 13), some (.int (nI g)), some (.int (nI c)), some (.int v), some (.int (nI (((Ar h 17) g).toNatClampNeg))), some (.int (nI (c * 6 + (((Ar h 17) g).toNatClampNeg)))), some (.int (nI (((((Ar h 17) g).toNatClampNeg) * 6) + c))), some (.int (v77 q cc gc (Ar h 18) (Fi h 13 5) g c ((Ar h 16) (((((Ar h 17) g).toNatClampNeg) * 6) + c)) v))], [.int (nI (c * 6 + (((Ar h 17) g).toNatClampNeg))), .ref 16, .int (nI 9999), .int (nI (c * 6 + (((Ar h 17) g).toNatClampNeg))), .ref 16], aset h 15 36 (upd (Ar h 15) (c * 6 + (((Ar h 17) g).toNatClampNeg)) (imax (nI 0) (imin (nI 20) (((Ar h 15) (c * 6 + (((Ar h 17) g).toNatClampNeg))) + (v77 q cc gc (Ar h 18) (Fi h 13 5) g c ((Ar h 16) (((((Ar h 17) g).toNatClampNeg) * 6) + c)) v))))), 198, sl) = some R := hh
      obtain ⟨n, hx14, hh⟩ := en_lu (t := c * 6 + (((Ar h 17) g).toNatClampNeg)) (f := Ar h 16) (w := (Ar h 16) (c * 6 + (((Ar h 17) g).toNatClampNeg))) (nI_clamp (by omega)) (hc_a rfl rfl hw).wt rfl (by decide) rfl (by decide) ((Ar_n (by decide)).trans rfl) (fun _ => rfl) hh
      obtain ⟨n, hh⟩ := rn_i rfl rfl rfl rfl hh
      obtain ⟨n, hh⟩ := rn_i rfl rfl rfl rfl hh
      have hh : pm_run PT n fr lo 40 (112, [some (.ref 5), some (.ref 13), some (.int (nI g)), some (.int (nI c)), some (.int v), some (.int (nI (((Ar h 17) g).toNatClampNeg))), some (.int (nI (c * 6 + (((Ar h 17) g).toNatClampNeg)))), some (.int (nI (((((Ar h 17) g).toNatClampNeg) * 6) + c))), some (.int (v77 q cc gc (Ar h 18) (Fi h 13 5) g c ((Ar h 16) (((((Ar h 17) g).toNatClampNeg) * 6) + c)) v))], [.int (((Ar h 16) (c * 6 + (((Ar h 17) g).toNatClampNeg))) + v), .int (nI 9999), .int (nI (c * 6 + (((Ar h 17) g).toNatClampNeg))), .ref 16], aset h 15 36 (upd (Ar h 15) (c * 6 + (((Ar h 17) g).toNatClampNeg)) (imax (nI 0) (imin (nI 20) (((Ar h 15) (c * 6 + (((Ar h 17) g).toNatClampNeg))) + (v77 q cc gc (Ar h 18) (Fi h 13 5) g c ((Ar h 16) (((((Ar h 17) g).toNatClampNeg) * 6) + c)) v))))), 198, sl) = some R := hh
      obtain ⟨n, hh⟩ := en_min rfl rfl rfl hh
      have hh : pm_run PT n fr lo 40 (115, [some (.ref 5), some (.ref 13), some (.int (nI g)), some (.int (nI c)), some (.int v), some (.int (nI (((Ar h 17) g).toNatClampNeg))), some (.int (nI (c * 6 + (((Ar h 17) g).toNatClampNeg)))), some (.int (nI (((((Ar h 17) g).toNatClampNeg) * 6) + c))), some (.int (v77 q cc gc (Ar h 18) (Fi h 13 5) g c ((Ar h 16) (((((Ar h 17) g).toNatClampNeg) * 6) + c)) v))], [.int (imin (nI 9999) (((Ar h 16) (c * 6 + (((Ar h 17) g).toNatClampNeg))) + v)), .int (nI (c * 6 + (((Ar h 17) g).toNatClampNeg))), .ref 16], aset h 15 36 (upd (Ar h 15) (c * 6 + (((Ar h 17) g).toNatClampNeg)) (imax (nI 0) (imin (nI 20) (((Ar h 15) (c * 6 + (((Ar h 17) g).toNatClampNeg))) + (v77 q cc gc (Ar h 18) (Fi h 13 5) g c ((Ar h 16) (((((Ar h 17) g).toNatClampNeg) * 6) + c)) v))))), 198, sl) = some R := hh
      obtain ⟨n, hx15, hh⟩ := en_st (t := c * 6 + (((Ar h 17) g).toNatClampNeg)) (f := Ar h 16) (nI_clamp (by omega)) (hc_a rfl rfl hw).wt rfl (by decide) rfl (by decide) ((Ar_n (by decide)).trans rfl) hh
      obtain ⟨n, hh⟩ := rn_i rfl rfl rfl rfl hh
      have hh : pm_run PT n fr lo 40 (117, [some (.ref 5), some (.ref 13), some (.int (nI g)), some (.int (nI c)), some (.int v), some (.int (nI (((Ar h 17) g).toNatClampNeg))), some (.int (nI (c * 6 + (((Ar h 17) g).toNatClampNeg)))), some (.int (nI (((((Ar h 17) g).toNatClampNeg) * 6) + c))), some (.int (v77 q cc gc (Ar h 18) (Fi h 13 5) g c ((Ar h 16) (((((Ar h 17) g).toNatClampNeg) * 6) + c)) v))], [.ref 13], aset (aset h 15 36 (upd (Ar h 15) (c * 6 + (((Ar h 17) g).toNatClampNeg)) (imax (nI 0) (imin (nI 20) (((Ar h 15) (c * 6 + (((Ar h 17) g).toNatClampNeg))) + (v77 q cc gc (Ar h 18) (Fi h 13 5) g c ((Ar h 16) (((((Ar h 17) g).toNatClampNeg) * 6) + c)) v)))))) 16 36 (upd (Ar h 16) (c * 6 + (((Ar h 17) g).toNatClampNeg)) (imin (nI 9999) (((Ar h 16) (c * 6 + (((Ar h 17) g).toNatClampNeg))) + v))), 198, sl) = some R := hh
      obtain ⟨n, hh⟩ := rn_gr (hc_a rfl rfl (hc_a rfl rfl hw)).wt rfl rfl (by decide) rfl (by decide) (show _ = some (2, ((17 : Nat) : Int), 1) from rfl) rfl hh
      obtain ⟨n, hh⟩ := rn_i rfl rfl rfl rfl hh
      obtain ⟨n, hh⟩ := rn_i rfl rfl rfl rfl hh
      have hh : pm_run PT n fr lo 40 (122, [some (.ref 5), some (.ref 13), some (.int (nI g)), some (.int (nI c)), some (.int v), some (.int (nI (((Ar h 17) g).toNatClampNeg))), some (.int (nI (c * 6 + (((Ar h 17) g).toNatClampNeg)))), some (.int (nI (((((Ar h 17) g).toNatClampNeg) * 6) + c))), some (.int (v77 q cc gc (Ar h 18) (Fi h 13 5) g c ((Ar h 16) (((((Ar h 17) g).toNatClampNeg) * 6) + c)) v))], [.int (nI c), .int (nI g), .ref 17], aset (aset h 15 36 (upd (Ar h 15) (c * 6 + (((Ar h 17) g).toNatClampNeg)) (imax (nI 0) (imin (nI 20) (((Ar h 15) (c * 6 + (((Ar h 17) g).toNatClampNeg))) + (v77 q cc gc (Ar h 18) (Fi h 13 5) g c ((Ar h 16) (((((Ar h 17) g).toNatClampNeg) * 6) + c)) v)))))) 16 36 (upd (Ar h 16) (c * 6 + (((Ar h 17) g).toNatClampNeg)) (imin (nI 9999) (((Ar h 16) (c * 6 + (((Ar h 17) g).toNatClampNeg))) + v))), 198, sl) = some R := hh
      obtain ⟨n, hx16, hh⟩ := en_st (t := g) (f := Ar h 17) (nI_clamp (by omega)) (hc_a rfl rfl (hc_a rfl rfl hw)).wt rfl (by decide) rfl (by decide) ((Ar_n (by decide)).trans ((Ar_n (by decide)).trans rfl)) hh
      obtain ⟨n, hh⟩ := rn_i rfl rfl rfl rfl hh
      have hh : pm_run PT n fr lo 40 (124, [some (.ref 5), some (.ref 13), some (.int (nI g)), some (.int (nI c)), some (.int v), some (.int (nI (((Ar h 17) g).toNatClampNeg))), some (.int (nI (c * 6 + (((Ar h 17) g).toNatClampNeg)))), some (.int (nI (((((Ar h 17) g).toNatClampNeg) * 6) + c))), some (.int (v77 q cc gc (Ar h 18) (Fi h 13 5) g c ((Ar h 16) (((((Ar h 17) g).toNatClampNeg) * 6) + c)) v))], [.ref 13], aset (aset (aset h 15 36 (upd (Ar h 15) (c * 6 + (((Ar h 17) g).toNatClampNeg)) (imax (nI 0) (imin (nI 20) (((Ar h 15) (c * 6 + (((Ar h 17) g).toNatClampNeg))) + (v77 q cc gc (Ar h 18) (Fi h 13 5) g c ((Ar h 16) (((((Ar h 17) g).toNatClampNeg) * 6) + c)) v)))))) 16 36 (upd (Ar h 16) (c * 6 + (((Ar h 17) g).toNatClampNeg)) (imin (nI 9999) (((Ar h 16) (c * 6 + (((Ar h 17) g).toNatClampNeg))) + v)))) 17 8 (upd (Ar h 17) g (nI c)), 198, sl) = some R := hh
      obtain ⟨n, hh⟩ := rn_gr (hc_a rfl rfl (hc_a rfl rfl (hc_a rfl rfl hw))).wt rfl rfl (by decide) rfl (by decide) (show _ = some (2, ((18 : Nat) : Int), 1) from rfl) rfl hh
      obtain ⟨n, hh⟩ := rn_i rfl rfl rfl rfl hh
      obtain ⟨n, hh⟩ := rn_i rfl rfl rfl rfl hh
      have hh : pm_run PT n fr lo 40 (129, [some (.ref 5), some (.ref 13), some (.int (nI g)), some (.int (nI c)), some (.int v), some (.int (nI (((Ar h 17) g).toNatClampNeg))), some (.int (nI (c * 6 + (((Ar h 17) g).toNatClampNeg)))), some (.int (nI (((((Ar h 17) g).toNatClampNeg) * 6) + c))), some (.int (v77 q cc gc (Ar h 18) (Fi h 13 5) g c ((Ar h 16) (((((Ar h 17) g).toNatClampNeg) * 6) + c)) v))], [.int (nI g), .ref 18, .int (nI g), .ref 18], aset (aset (aset h 15 36 (upd (Ar h 15) (c * 6 + (((Ar h 17) g).toNatClampNeg)) (imax (nI 0) (imin (nI 20) (((Ar h 15) (c * 6 + (((Ar h 17) g).toNatClampNeg))) + (v77 q cc gc (Ar h 18) (Fi h 13 5) g c ((Ar h 16) (((((Ar h 17) g).toNatClampNeg) * 6) + c)) v)))))) 16 36 (upd (Ar h 16) (c * 6 + (((Ar h 17) g).toNatClampNeg)) (imin (nI 9999) (((Ar h 16) (c * 6 + (((Ar h 17) g).toNatClampNeg))) + v)))) 17 8 (upd (Ar h 17) g (nI c)), 198, sl) = some R := hh
      obtain ⟨n, hx17, hh⟩ := en_lu (t := g) (f := Ar h 18) (w := (Ar h 18) g) (nI_clamp (by omega)) (hc_a rfl rfl (hc_a rfl rfl (hc_a rfl rfl hw))).wt rfl (by decide) rfl (by decide) ((Ar_n (by decide)).trans ((Ar_n (by decide)).trans ((Ar_n (by decide)).trans rfl))) (fun _ => rfl) hh
      obtain ⟨n, hh⟩ := rn_i rfl rfl rfl rfl hh
      obtain ⟨n, hh⟩ := rn_i rfl rfl rfl rfl hh
      obtain ⟨n, hh⟩ := rn_i rfl rfl rfl rfl hh
      obtain ⟨n, hh⟩ := rn_i rfl rfl rfl rfl hh
      have hh : pm_run PT n fr lo 40 (134, [some (.ref 5), some (.ref 13), some (.int (nI g)), some (.int (nI c)), some (.int v), some (.int (nI (((Ar h 17) g).toNatClampNeg))), some (.int (nI (c * 6 + (((Ar h 17) g).toNatClampNeg)))), some (.int (nI (((((Ar h 17) g).toNatClampNeg) * 6) + c))), some (.int (v77 q cc gc (Ar h 18) (Fi h 13 5) g c ((Ar h 16) (((((Ar h 17) g).toNatClampNeg) * 6) + c)) v))], [.int (((Ar h 18) g) ||| (shl (nI 1) (nI c))), .int (nI g), .ref 18], aset (aset (aset h 15 36 (upd (Ar h 15) (c * 6 + (((Ar h 17) g).toNatClampNeg)) (imax (nI 0) (imin (nI 20) (((Ar h 15) (c * 6 + (((Ar h 17) g).toNatClampNeg))) + (v77 q cc gc (Ar h 18) (Fi h 13 5) g c ((Ar h 16) (((((Ar h 17) g).toNatClampNeg) * 6) + c)) v)))))) 16 36 (upd (Ar h 16) (c * 6 + (((Ar h 17) g).toNatClampNeg)) (imin (nI 9999) (((Ar h 16) (c * 6 + (((Ar h 17) g).toNatClampNeg))) + v)))) 17 8 (upd (Ar h 17) g (nI c)), 198, sl) = some R := hh
      obtain ⟨n, hx18, hh⟩ := en_st (t := g) (f := Ar h 18) (nI_clamp (by omega)) (hc_a rfl rfl (hc_a rfl rfl (hc_a rfl rfl hw))).wt rfl (by decide) rfl (by decide) ((Ar_n (by decide)).trans ((Ar_n (by decide)).trans ((Ar_n (by decide)).trans rfl))) hh
      have er19 : R = (none, aset (aset (aset (aset h 15 36 (upd (Ar h 15) (c * 6 + (((Ar h 17) g).toNatClampNeg)) (imax (nI 0) (imin (nI 20) (((Ar h 15) (c * 6 + (((Ar h 17) g).toNatClampNeg))) + (v77 q cc gc (Ar h 18) (Fi h 13 5) g c ((Ar h 16) (((((Ar h 17) g).toNatClampNeg) * 6) + c)) v)))))) 16 36 (upd (Ar h 16) (c * 6 + (((Ar h 17) g).toNatClampNeg)) (imin (nI 9999) (((Ar h 16) (c * 6 + (((Ar h 17) g).toNatClampNeg))) + v)))) 17 8 (upd (Ar h 17) g (nI c))) 18 8 (upd (Ar h 18) g (((Ar h 18) g) ||| (shl (nI 1) (nI c)))), 198, sl) := rn_vret rfl rfl hh
      have ed : v40 q cc gc h g c v = aset (aset (aset (aset h 15 36 (upd (Ar h 15) (c * 6 + (((Ar h 17) g).toNatClampNeg)) (imax (nI 0) (imin (nI 20) (((Ar h 15) (c * 6 + (((Ar h 17) g).toNatClampNeg))) + (v77 q cc gc (Ar h 18) (Fi h 13 5) g c ((Ar h 16) (((((Ar h 17) g).toNatClampNeg) * 6) + c)) v)))))) 16 36 (upd (Ar h 16) (c * 6 + (((Ar h 17) g).toNatClampNeg)) (imin (nI 9999) (((Ar h 16) (c * 6 + (((Ar h 17) g).toNatClampNeg))) + v)))) 17 8 (upd (Ar h 17) g (nI c))) 18 8 (upd (Ar h 18) g (((Ar h 18) g) ||| (shl (nI 1) (nI c)))) := (ct z11).trans ((ct z13).trans rfl)
      refine ⟨?_, ?_, ?_⟩ <;> rw [ed]
      · exact er19
      · exact (hc_a rfl rfl (hc_a rfl rfl (hc_a rfl rfl (hc_a rfl rfl hw))))
      · exact (fr_a rfl rfl (fr_a rfl rfl (fr_a rfl rfl (fr_a rfl rfl fr_0))))
    | false =>
      have hh := en_f z13 hh
      have hh : pm_run PT n fr lo 40 (82, [some (.ref 5), some (.ref 13), some (.int (nI g)), some (.int (nI c)), some (.int v), some (.int (nI (((Ar h 17) g).toNatClampNeg))), some (.int (nI (c * 6 + (((Ar h 17) g).toNatClampNeg)))), some (.int (nI (((((Ar h 17) g).toNatClampNeg) * 6) + c))), some (.int (v77 q cc gc (Ar h 18) (Fi h 13 5) g c ((Ar h 16) (((((Ar h 17) g).toNatClampNeg) * 6) + c)) v))], [], aset h 15 36 (upd (Ar h 15) (c * 6 + (((Ar h 17) g).toNatClampNeg)) (imax (nI 0) (imin (nI 20) (((Ar h 15) (c * 6 + (((Ar h 17) g).toNatClampNeg))) + (v77 q cc gc (Ar h 18) (Fi h 13 5) g c ((Ar h 16) (((((Ar h 17) g).toNatClampNeg) * 6) + c)) v))))), 198, sl) = some R := hh
      obtain ⟨n, hh⟩ := rn_i rfl rfl rfl rfl hh
      have hh : pm_run PT n fr lo 40 (83, [some (.ref 5), some (.ref 13), some (.int (nI g)), some (.int (nI c)), some (.int v), some (.int (nI (((Ar h 17) g).toNatClampNeg))), some (.int (nI (c * 6 + (((Ar h 17) g).toNatClampNeg)))), some (.int (nI (((((Ar h 17) g).toNatClampNeg) * 6) + c))), some (.int (v77 q cc gc (Ar h 18) (Fi h 13 5) g c ((Ar h 16) (((((Ar h 17) g).toNatClampNeg) * 6) + c)) v))], [.ref 13], aset h 15 36 (upd (Ar h 15) (c * 6 + (((Ar h 17) g).toNatClampNeg)) (imax (nI 0) (imin (nI 20) (((Ar h 15) (c * 6 + (((Ar h 17) g).toNatClampNeg))) + (v77 q cc gc (Ar h 18) (Fi h 13 5) g c ((Ar h 16) (((((Ar h 17) g).toNatClampNeg) * 6) + c)) v))))), 198, sl) = some R := hh
      obtain ⟨n, hh⟩ := rn_gr (hc_a rfl rfl hw).wt rfl rfl (by decide) rfl (by decide) (show _ = some (2, ((16 : Nat) : Int), 1) from rfl) rfl hh
      obtain ⟨n, hh⟩ := rn_i rfl rfl rfl rfl hh
      obtain ⟨n, hh⟩ := rn_i rfl rfl rfl rfl hh
      have hh : pm_run PT n fr lo 40 (89, [some (.ref 5), some (.ref 13), some (.int (nI g)), some (.int (nI c)), some (.int v), some (.int (nI (((Ar h 17) g).toNatClampNeg))), some (.int (nI (c * 6 + (((Ar h 17) g).toNatClampNeg)))), some (.int (nI (((((Ar h 17) g).toNatClampNeg) * 6) + c))), some (.int (v77 q cc gc (Ar h 18) (Fi h 13 5) g c ((Ar h 16) (((((Ar h 17) g).toNatClampNeg) * 6) + c)) v))], [.int (nI 0), .int (nI (((((Ar h 17) g).toNatClampNeg) * 6) + c)), .ref 16], aset h 15 36 (upd (Ar h 15) (c * 6 + (((Ar h 17) g).toNatClampNeg)) (imax (nI 0) (imin (nI 20) (((Ar h 15) (c * 6 + (((Ar h 17) g).toNatClampNeg))) + (v77 q cc gc (Ar h 18) (Fi h 13 5) g c ((Ar h 16) (((((Ar h 17) g).toNatClampNeg) * 6) + c)) v))))), 198, sl) = some R := hh
      obtain ⟨n, hx20, hh⟩ := en_st (t := ((((Ar h 17) g).toNatClampNeg) * 6) + c) (f := Ar h 16) (nI_clamp (by omega)) (hc_a rfl rfl hw).wt rfl (by decide) rfl (by decide) ((Ar_n (by decide)).trans rfl) hh
      obtain ⟨n, hh⟩ := rn_i rfl rfl rfl rfl hh
      obtain ⟨n, hh⟩ := rn_i rfl rfl rfl rfl hh
      have hh : pm_run PT n fr lo 40 (117, [some (.ref 5), some (.ref 13), some (.int (nI g)), some (.int (nI c)), some (.int v), some (.int (nI (((Ar h 17) g).toNatClampNeg))), some (.int (nI (c * 6 + (((Ar h 17) g).toNatClampNeg)))), some (.int (nI (((((Ar h 17) g).toNatClampNeg) * 6) + c))), some (.int (v77 q cc gc (Ar h 18) (Fi h 13 5) g c ((Ar h 16) (((((Ar h 17) g).toNatClampNeg) * 6) + c)) v))], [.ref 13], aset (aset h 15 36 (upd (Ar h 15) (c * 6 + (((Ar h 17) g).toNatClampNeg)) (imax (nI 0) (imin (nI 20) (((Ar h 15) (c * 6 + (((Ar h 17) g).toNatClampNeg))) + (v77 q cc gc (Ar h 18) (Fi h 13 5) g c ((Ar h 16) (((((Ar h 17) g).toNatClampNeg) * 6) + c)) v)))))) 16 36 (upd (Ar h 16) (((((Ar h 17) g).toNatClampNeg) * 6) + c) (nI 0)), 198, sl) = some R := hh
      obtain ⟨n, hh⟩ := rn_gr (hc_a rfl rfl (hc_a rfl rfl hw)).wt rfl rfl (by decide) rfl (by decide) (show _ = some (2, ((17 : Nat) : Int), 1) from rfl) rfl hh
      obtain ⟨n, hh⟩ := rn_i rfl rfl rfl rfl hh
      obtain ⟨n, hh⟩ := rn_i rfl rfl rfl rfl hh
      have hh : pm_run PT n fr lo 40 (122, [some (.ref 5), some (.ref 13), some (.int (nI g)), some (.int (nI c)), some (.int v), some (.int (nI (((Ar h 17) g).toNatClampNeg))), some (.int (nI (c * 6 + (((Ar h 17) g).toNatClampNeg)))), some (.int (nI (((((Ar h 17) g).toNatClampNeg) * 6) + c))), some (.int (v77 q cc gc (Ar h 18) (Fi h 13 5) g c ((Ar h 16) (((((Ar h 17) g).toNatClampNeg) * 6) + c)) v))], [.int (nI c), .int (nI g), .ref 17], aset (aset h 15 36 (upd (Ar h 15) (c * 6 + (((Ar h 17) g).toNatClampNeg)) (imax (nI 0) (imin (nI 20) (((Ar h 15) (c * 6 + (((Ar h 17) g).toNatClampNeg))) + (v77 q cc gc (Ar h 18) (Fi h 13 5) g c ((Ar h 16) (((((Ar h 17) g).toNatClampNeg) * 6) + c)) v)))))) 16 36 (upd (Ar h 16) (((((Ar h 17) g).toNatClampNeg) * 6) + c) (nI 0)), 198, sl) = some R := hh
      obtain ⟨n, hx21, hh⟩ := en_st (t := g) (f := Ar h 17) (nI_clamp (by omega)) (hc_a rfl rfl (hc_a rfl rfl hw)).wt rfl (by decide) rfl (by decide) ((Ar_n (by decide)).trans ((Ar_n (by decide)).trans rfl)) hh
      obtain ⟨n, hh⟩ := rn_i rfl rfl rfl rfl hh
      have hh : pm_run PT n fr lo 40 (124, [some (.ref 5), some (.ref 13), some (.int (nI g)), some (.int (nI c)), some (.int v), some (.int (nI (((Ar h 17) g).toNatClampNeg))), some (.int (nI (c * 6 + (((Ar h 17) g).toNatClampNeg)))), some (.int (nI (((((Ar h 17) g).toNatClampNeg) * 6) + c))), some (.int (v77 q cc gc (Ar h 18) (Fi h 13 5) g c ((Ar h 16) (((((Ar h 17) g).toNatClampNeg) * 6) + c)) v))], [.ref 13], aset (aset (aset h 15 36 (upd (Ar h 15) (c * 6 + (((Ar h 17) g).toNatClampNeg)) (imax (nI 0) (imin (nI 20) (((Ar h 15) (c * 6 + (((Ar h 17) g).toNatClampNeg))) + (v77 q cc gc (Ar h 18) (Fi h 13 5) g c ((Ar h 16) (((((Ar h 17) g).toNatClampNeg) * 6) + c)) v)))))) 16 36 (upd (Ar h 16) (((((Ar h 17) g).toNatClampNeg) * 6) + c) (nI 0))) 17 8 (upd (Ar h 17) g (nI c)), 198, sl) = some R := hh
      obtain ⟨n, hh⟩ := rn_gr (hc_a rfl rfl (hc_a rfl rfl (hc_a rfl rfl hw))).wt rfl rfl (by decide) rfl (by decide) (show _ = some (2, ((18 : Nat) : Int), 1) from rfl) rfl hh
      obtain ⟨n, hh⟩ := rn_i rfl rfl rfl rfl hh
      obtain ⟨n, hh⟩ := rn_i rfl rfl rfl rfl hh
      have hh : pm_run PT n fr lo 40 (129, [some (.ref 5), some (.ref 13), some (.int (nI g)), some (.int (nI c)), some (.int v), some (.int (nI (((Ar h 17) g).toNatClampNeg))), some (.int (nI (c * 6 + (((Ar h 17) g).toNatClampNeg)))), some (.int (nI (((((Ar h 17) g).toNatClampNeg) * 6) + c))), some (.int (v77 q cc gc (Ar h 18) (Fi h 13 5) g c ((Ar h 16) (((((Ar h 17) g).toNatClampNeg) * 6) + c)) v))], [.int (nI g), .ref 18, .int (nI g), .ref 18], aset (aset (aset h 15 36 (upd (Ar h 15) (c * 6 + (((Ar h 17) g).toNatClampNeg)) (imax (nI 0) (imin (nI 20) (((Ar h 15) (c * 6 + (((Ar h 17) g).toNatClampNeg))) + (v77 q cc gc (Ar h 18) (Fi h 13 5) g c ((Ar h 16) (((((Ar h 17) g).toNatClampNeg) * 6) + c)) v)))))) 16 36 (upd (Ar h 16) (((((Ar h 17) g).toNatClampNeg) * 6) + c) (nI 0))) 17 8 (upd (Ar h 17) g (nI c)), 198, sl) = some R := hh
      obtain ⟨n, hx22, hh⟩ := en_lu (t := g) (f := Ar h 18) (w := (Ar h 18) g) (nI_clamp (by omega)) (hc_a rfl rfl (hc_a rfl rfl (hc_a rfl rfl hw))).wt rfl (by decide) rfl (by decide) ((Ar_n (by decide)).trans ((Ar_n (by decide)).trans ((Ar_n (by decide)).trans rfl))) (fun _ => rfl) hh
      obtain ⟨n, hh⟩ := rn_i rfl rfl rfl rfl hh
      obtain ⟨n, hh⟩ := rn_i rfl rfl rfl rfl hh
      obtain ⟨n, hh⟩ := rn_i rfl rfl rfl rfl hh
      obtain ⟨n, hh⟩ := rn_i rfl rfl rfl rfl hh
      have hh : pm_run PT n fr lo 40 (134, [some (.ref 5), some (.ref 13), some (.int (nI g)), some (.int (nI c)), some (.int v), some (.int (nI (((Ar h 17) g).toNatClampNeg))), some (.int (nI (c * 6 + (((Ar h 17) g).toNatClampNeg)))), some (.int (nI (((((Ar h 17) g).toNatClampNeg) * 6) + c))), some (.int (v77 q cc gc (Ar h 18) (Fi h 13 5) g c ((Ar h 16) (((((Ar h 17) g).toNatClampNeg) * 6) + c)) v))], [.int (((Ar h 18) g) ||| (shl (nI 1) (nI c))), .int (nI g), .ref 18], aset (aset (aset h 15 36 (upd (Ar h 15) (c * 6 + (((Ar h 17) g).toNatClampNeg)) (imax (nI 0) (imin (nI 20) (((Ar h 15) (c * 6 + (((Ar h 17) g).toNatClampNeg))) + (v77 q cc gc (Ar h 18) (Fi h 13 5) g c ((Ar h 16) (((((Ar h 17) g).toNatClampNeg) * 6) + c)) v)))))) 16 36 (upd (Ar h 16) (((((Ar h 17) g).toNatClampNeg) * 6) + c) (nI 0))) 17 8 (upd (Ar h 17) g (nI c)), 198, sl) = some R := hh
      obtain ⟨n, hx23, hh⟩ := en_st (t := g) (f := Ar h 18) (nI_clamp (by omega)) (hc_a rfl rfl (hc_a rfl rfl (hc_a rfl rfl hw))).wt rfl (by decide) rfl (by decide) ((Ar_n (by decide)).trans ((Ar_n (by decide)).trans ((Ar_n (by decide)).trans rfl))) hh
      have er24 : R = (none, aset (aset (aset (aset h 15 36 (upd (Ar h 15) (c * 6 + (((Ar h 17) g).toNatClampNeg)) (imax (nI 0) (imin (nI 20) (((Ar h 15) (c * 6 + (((Ar h 17) g).toNatClampNeg))) + (v77 q cc gc (Ar h 18) (Fi h 13 5) g c ((Ar h 16) (((((Ar h 17) g).toNatClampNeg) * 6) + c)) v)))))) 16 36 (upd (Ar h 16) (((((Ar h 17) g).toNatClampNeg) * 6) + c) (nI 0))) 17 8 (upd (Ar h 17) g (nI c))) 18 8 (upd (Ar h 18) g (((Ar h 18) g) ||| (shl (nI 1) (nI c)))), 198, sl) := rn_vret rfl rfl hh
      have ed : v40 q cc gc h g c v = aset (aset (aset (aset h 15 36 (upd (Ar h 15) (c * 6 + (((Ar h 17) g).toNatClampNeg)) (imax (nI 0) (imin (nI 20) (((Ar h 15) (c * 6 + (((Ar h 17) g).toNatClampNeg))) + (v77 q cc gc (Ar h 18) (Fi h 13 5) g c ((Ar h 16) (((((Ar h 17) g).toNatClampNeg) * 6) + c)) v)))))) 16 36 (upd (Ar h 16) (((((Ar h 17) g).toNatClampNeg) * 6) + c) (nI 0))) 17 8 (upd (Ar h 17) g (nI c))) 18 8 (upd (Ar h 18) g (((Ar h 18) g) ||| (shl (nI 1) (nI c)))) := (ct z11).trans ((cf z13).trans rfl)
      refine ⟨?_, ?_, ?_⟩ <;> rw [ed]
      · exact er24
      · exact (hc_a rfl rfl (hc_a rfl rfl (hc_a rfl rfl (hc_a rfl rfl hw))))
      · exact (fr_a rfl rfl (fr_a rfl rfl (fr_a rfl rfl (fr_a rfl rfl fr_0))))
  | false =>
    have hh := en_nf z11 hh
    have hh : pm_run PT n fr lo 40 (116, [some (.ref 5), some (.ref 13), some (.int (nI g)), some (.int (nI c)), some (.int v), some (.int (nI (((Ar h 17) g).toNatClampNeg))), some (.int (nI (c * 6 + (((Ar h 17) g).toNatClampNeg)))), some (.int (nI (((((Ar h 17) g).toNatClampNeg) * 6) + c))), some (.int (v77 q cc gc (Ar h 18) (Fi h 13 5) g c ((Ar h 16) (((((Ar h 17) g).toNatClampNeg) * 6) + c)) v))], [], aset h 15 36 (upd (Ar h 15) (c * 6 + (((Ar h 17) g).toNatClampNeg)) (imax (nI 0) (imin (nI 20) (((Ar h 15) (c * 6 + (((Ar h 17) g).toNatClampNeg))) + (v77 q cc gc (Ar h 18) (Fi h 13 5) g c ((Ar h 16) (((((Ar h 17) g).toNatClampNeg) * 6) + c)) v))))), 198, sl) = some R := hh
    obtain ⟨n, hh⟩ := rn_i rfl rfl rfl rfl hh
    have hh : pm_run PT n fr lo 40 (117, [some (.ref 5), some (.ref 13), some (.int (nI g)), some (.int (nI c)), some (.int v), some (.int (nI (((Ar h 17) g).toNatClampNeg))), some (.int (nI (c * 6 + (((Ar h 17) g).toNatClampNeg)))), some (.int (nI (((((Ar h 17) g).toNatClampNeg) * 6) + c))), some (.int (v77 q cc gc (Ar h 18) (Fi h 13 5) g c ((Ar h 16) (((((Ar h 17) g).toNatClampNeg) * 6) + c)) v))], [.ref 13], aset h 15 36 (upd (Ar h 15) (c * 6 + (((Ar h 17) g).toNatClampNeg)) (imax (nI 0) (imin (nI 20) (((Ar h 15) (c * 6 + (((Ar h 17) g).toNatClampNeg))) + (v77 q cc gc (Ar h 18) (Fi h 13 5) g c ((Ar h 16) (((((Ar h 17) g).toNatClampNeg) * 6) + c)) v))))), 198, sl) = some R := hh
    obtain ⟨n, hh⟩ := rn_gr (hc_a rfl rfl hw).wt rfl rfl (by decide) rfl (by decide) (show _ = some (2, ((17 : Nat) : Int), 1) from rfl) rfl hh
    obtain ⟨n, hh⟩ := rn_i rfl rfl rfl rfl hh
    obtain ⟨n, hh⟩ := rn_i rfl rfl rfl rfl hh
    have hh : pm_run PT n fr lo 40 (122, [some (.ref 5), some (.ref 13), some (.int (nI g)), some (.int (nI c)), some (.int v), some (.int (nI (((Ar h 17) g).toNatClampNeg))), some (.int (nI (c * 6 + (((Ar h 17) g).toNatClampNeg)))), some (.int (nI (((((Ar h 17) g).toNatClampNeg) * 6) + c))), some (.int (v77 q cc gc (Ar h 18) (Fi h 13 5) g c ((Ar h 16) (((((Ar h 17) g).toNatClampNeg) * 6) + c)) v))], [.int (nI c), .int (nI g), .ref 17], aset h 15 36 (upd (Ar h 15) (c * 6 + (((Ar h 17) g).toNatClampNeg)) (imax (nI 0) (imin (nI 20) (((Ar h 15) (c * 6 + (((Ar h 17) g).toNatClampNeg))) + (v77 q cc gc (Ar h 18) (Fi h 13 5) g c ((Ar h 16) (((((Ar h 17) g).toNatClampNeg) * 6) + c)) v))))), 198, sl) = some R := hh
    obtain ⟨n, hx25, hh⟩ := en_st (t := g) (f := Ar h 17) (nI_clamp (by omega)) (hc_a rfl rfl hw).wt rfl (by decide) rfl (by decide) ((Ar_n (by decide)).trans rfl) hh
    obtain ⟨n, hh⟩ := rn_i rfl rfl rfl rfl hh
    have hh : pm_run PT n fr lo 40 (124, [some (.ref 5), some (.ref 13), some (.int (nI g)), some (.int (nI c)), some (.int v), some (.int (nI (((Ar h 17) g).toNatClampNeg))), some (.int (nI (c * 6 + (((Ar h 17) g).toNatClampNeg)))), some (.int (nI (((((Ar h 17) g).toNatClampNeg) * 6) + c))), some (.int (v77 q cc gc (Ar h 18) (Fi h 13 5) g c ((Ar h 16) (((((Ar h 17) g).toNatClampNeg) * 6) + c)) v))], [.ref 13], aset (aset h 15 36 (upd (Ar h 15) (c * 6 + (((Ar h 17) g).toNatClampNeg)) (imax (nI 0) (imin (nI 20) (((Ar h 15) (c * 6 + (((Ar h 17) g).toNatClampNeg))) + (v77 q cc gc (Ar h 18) (Fi h 13 5) g c ((Ar h 16) (((((Ar h 17) g).toNatClampNeg) * 6) + c)) v)))))) 17 8 (upd (Ar h 17) g (nI c)), 198, sl) = some R := hh
    obtain ⟨n, hh⟩ := rn_gr (hc_a rfl rfl (hc_a rfl rfl hw)).wt rfl rfl (by decide) rfl (by decide) (show _ = some (2, ((18 : Nat) : Int), 1) from rfl) rfl hh
    obtain ⟨n, hh⟩ := rn_i rfl rfl rfl rfl hh
    obtain ⟨n, hh⟩ := rn_i rfl rfl rfl rfl hh
    have hh : pm_run PT n fr lo 40 (129, [some (.ref 5), some (.ref 13), some (.int (nI g)), some (.int (nI c)), some (.int v), some (.int (nI (((Ar h 17) g).toNatClampNeg))), some (.int (nI (c * 6 + (((Ar h 17) g).toNatClampNeg)))), some (.int (nI (((((Ar h 17) g).toNatClampNeg) * 6) + c))), some (.int (v77 q cc gc (Ar h 18) (Fi h 13 5) g c ((Ar h 16) (((((Ar h 17) g).toNatClampNeg) * 6) + c)) v))], [.int (nI g), .ref 18, .int (nI g), .ref 18], aset (aset h 15 36 (upd (Ar h 15) (c * 6 + (((Ar h 17) g).toNatClampNeg)) (imax (nI 0) (imin (nI 20) (((Ar h 15) (c * 6 + (((Ar h 17) g).toNatClampNeg))) + (v77 q cc gc (Ar h 18) (Fi h 13 5) g c ((Ar h 16) (((((Ar h 17) g).toNatClampNeg) * 6) + c)) v)))))) 17 8 (upd (Ar h 17) g (nI c)), 198, sl) = some R := hh
    obtain ⟨n, hx26, hh⟩ := en_lu (t := g) (f := Ar h 18) (w := (Ar h 18) g) (nI_clamp (by omega)) (hc_a rfl rfl (hc_a rfl rfl hw)).wt rfl (by decide) rfl (by decide) ((Ar_n (by decide)).trans ((Ar_n (by decide)).trans rfl)) (fun _ => rfl) hh
    obtain ⟨n, hh⟩ := rn_i rfl rfl rfl rfl hh
    obtain ⟨n, hh⟩ := rn_i rfl rfl rfl rfl hh
    obtain ⟨n, hh⟩ := rn_i rfl rfl rfl rfl hh
    obtain ⟨n, hh⟩ := rn_i rfl rfl rfl rfl hh
    have hh : pm_run PT n fr lo 40 (134, [some (.ref 5), some (.ref 13), some (.int (nI g)), some (.int (nI c)), some (.int v), some (.int (nI (((Ar h 17) g).toNatClampNeg))), some (.int (nI (c * 6 + (((Ar h 17) g).toNatClampNeg)))), some (.int (nI (((((Ar h 17) g).toNatClampNeg) * 6) + c))), some (.int (v77 q cc gc (Ar h 18) (Fi h 13 5) g c ((Ar h 16) (((((Ar h 17) g).toNatClampNeg) * 6) + c)) v))], [.int (((Ar h 18) g) ||| (shl (nI 1) (nI c))), .int (nI g), .ref 18], aset (aset h 15 36 (upd (Ar h 15) (c * 6 + (((Ar h 17) g).toNatClampNeg)) (imax (nI 0) (imin (nI 20) (((Ar h 15) (c * 6 + (((Ar h 17) g).toNatClampNeg))) + (v77 q cc gc (Ar h 18) (Fi h 13 5) g c ((Ar h 16) (((((Ar h 17) g).toNatClampNeg) * 6) + c)) v)))))) 17 8 (upd (Ar h 17) g (nI c)), 198, sl) = some R := hh
    obtain ⟨n, hx27, hh⟩ := en_st (t := g) (f := Ar h 18) (nI_clamp (by omega)) (hc_a rfl rfl (hc_a rfl rfl hw)).wt rfl (by decide) rfl (by decide) ((Ar_n (by decide)).trans ((Ar_n (by decide)).trans rfl)) hh
    have er28 : R = (none, aset (aset (aset h 15 36 (upd (Ar h 15) (c * 6 + (((Ar h 17) g).toNatClampNeg)) (imax (nI 0) (imin (nI 20) (((Ar h 15) (c * 6 + (((Ar h 17) g).toNatClampNeg))) + (v77 q cc gc (Ar h 18) (Fi h 13 5) g c ((Ar h 16) (((((Ar h 17) g).toNatClampNeg) * 6) + c)) v)))))) 17 8 (upd (Ar h 17) g (nI c))) 18 8 (upd (Ar h 18) g (((Ar h 18) g) ||| (shl (nI 1) (nI c)))), 198, sl) := rn_vret rfl rfl hh
    have ed : v40 q cc gc h g c v = aset (aset (aset h 15 36 (upd (Ar h 15) (c * 6 + (((Ar h 17) g).toNatClampNeg)) (imax (nI 0) (imin (nI 20) (((Ar h 15) (c * 6 + (((Ar h 17) g).toNatClampNeg))) + (v77 q cc gc (Ar h 18) (Fi h 13 5) g c ((Ar h 16) (((((Ar h 17) g).toNatClampNeg) * 6) + c)) v)))))) 17 8 (upd (Ar h 17) g (nI c))) 18 8 (upd (Ar h 18) g (((Ar h 18) g) ||| (shl (nI 1) (nI c)))) := (cf z11).trans rfl
    refine ⟨?_, ?_, ?_⟩ <;> rw [ed]
    · exact er28
    · exact (hc_a rfl rfl (hc_a rfl rfl (hc_a rfl rfl hw)))
    · exact (fr_a rfl rfl (fr_a rfl rfl (fr_a rfl rfl fr_0)))
theorem v40_fr {cc gc : Nat} {q : QT} {h : pm_H} {g : Nat} {c : Nat} {v : Int32} (hw : HC q cc gc h) : HC q cc gc (v40 q cc gc h g c v) ∧ frm [15, 16, 17, 18] [] h (v40 q cc gc h g c v) := by
  unfold v40
  refine cd_s (P := fun (p : pm_H) => HC q cc gc (p) ∧ frm [15, 16, 17, 18] [] h (p)) (b := v76 q cc gc (Ar h 18) (Fi h 13 5) g c) (fun _ => ?_) (fun _ => ?_)
  · refine cd_s (P := fun (p : pm_H) => HC q cc gc (p) ∧ frm [15, 16, 17, 18] [] h (p)) (b := pm_cmp .le ((Ar h 16) (((((Ar h 17) g).toNatClampNeg) * 6) + c)) 0) (fun _ => ?_) (fun _ => ?_)
    · show HC q cc gc (aset (aset (aset (aset h 15 36 (upd (Ar h 15) (c * 6 + (((Ar h 17) g).toNatClampNeg)) (imax (nI 0) (imin (nI 20) (((Ar h 15) (c * 6 + (((Ar h 17) g).toNatClampNeg))) + (v77 q cc gc (Ar h 18) (Fi h 13 5) g c ((Ar h 16) (((((Ar h 17) g).toNatClampNeg) * 6) + c)) v)))))) 16 36 (upd (Ar h 16) (c * 6 + (((Ar h 17) g).toNatClampNeg)) (imin (nI 9999) (((Ar h 16) (c * 6 + (((Ar h 17) g).toNatClampNeg))) + v)))) 17 8 (upd (Ar h 17) g (nI c))) 18 8 (upd (Ar h 18) g (((Ar h 18) g) ||| (shl (nI 1) (nI c))))) ∧ frm [15, 16, 17, 18] [] h (aset (aset (aset (aset h 15 36 (upd (Ar h 15) (c * 6 + (((Ar h 17) g).toNatClampNeg)) (imax (nI 0) (imin (nI 20) (((Ar h 15) (c * 6 + (((Ar h 17) g).toNatClampNeg))) + (v77 q cc gc (Ar h 18) (Fi h 13 5) g c ((Ar h 16) (((((Ar h 17) g).toNatClampNeg) * 6) + c)) v)))))) 16 36 (upd (Ar h 16) (c * 6 + (((Ar h 17) g).toNatClampNeg)) (imin (nI 9999) (((Ar h 16) (c * 6 + (((Ar h 17) g).toNatClampNeg))) + v)))) 17 8 (upd (Ar h 17) g (nI c))) 18 8 (upd (Ar h 18) g (((Ar h 18) g) ||| (shl (nI 1) (nI c)))))
      exact ⟨(hc_a rfl rfl (hc_a rfl rfl (hc_a rfl rfl (hc_a rfl rfl hw)))), (fr_a rfl rfl (fr_a rfl rfl (fr_a rfl rfl (fr_a rfl rfl fr_0))))⟩
    · show HC q cc gc (aset (aset (aset (aset h 15 36 (upd (Ar h 15) (c * 6 + (((Ar h 17) g).toNatClampNeg)) (imax (nI 0) (imin (nI 20) (((Ar h 15) (c * 6 + (((Ar h 17) g).toNatClampNeg))) + (v77 q cc gc (Ar h 18) (Fi h 13 5) g c ((Ar h 16) (((((Ar h 17) g).toNatClampNeg) * 6) + c)) v)))))) 16 36 (upd (Ar h 16) (((((Ar h 17) g).toNatClampNeg) * 6) + c) (nI 0))) 17 8 (upd (Ar h 17) g (nI c))) 18 8 (upd (Ar h 18) g (((Ar h 18) g) ||| (shl (nI 1) (nI c))))) ∧ frm [15, 16, 17, 18] [] h (aset (aset (aset (aset h 15 36 (upd (Ar h 15) (c * 6 + (((Ar h 17) g).toNatClampNeg)) (imax (nI 0) (imin (nI 20) (((Ar h 15) (c * 6 + (((Ar h 17) g).toNatClampNeg))) + (v77 q cc gc (Ar h 18) (Fi h 13 5) g c ((Ar h 16) (((((Ar h 17) g).toNatClampNeg) * 6) + c)) v)))))) 16 36 (upd (Ar h 16) (((((Ar h 17) g).toNatClampNeg) * 6) + c) (nI 0))) 17 8 (upd (Ar h 17) g (nI c))) 18 8 (upd (Ar h 18) g (((Ar h 18) g) ||| (shl (nI 1) (nI c)))))
      exact ⟨(hc_a rfl rfl (hc_a rfl rfl (hc_a rfl rfl (hc_a rfl rfl hw)))), (fr_a rfl rfl (fr_a rfl rfl (fr_a rfl rfl (fr_a rfl rfl fr_0))))⟩
  · show HC q cc gc (aset (aset (aset h 15 36 (upd (Ar h 15) (c * 6 + (((Ar h 17) g).toNatClampNeg)) (imax (nI 0) (imin (nI 20) (((Ar h 15) (c * 6 + (((Ar h 17) g).toNatClampNeg))) + (v77 q cc gc (Ar h 18) (Fi h 13 5) g c ((Ar h 16) (((((Ar h 17) g).toNatClampNeg) * 6) + c)) v)))))) 17 8 (upd (Ar h 17) g (nI c))) 18 8 (upd (Ar h 18) g (((Ar h 18) g) ||| (shl (nI 1) (nI c))))) ∧ frm [15, 16, 17, 18] [] h (aset (aset (aset h 15 36 (upd (Ar h 15) (c * 6 + (((Ar h 17) g).toNatClampNeg)) (imax (nI 0) (imin (nI 20) (((Ar h 15) (c * 6 + (((Ar h 17) g).toNatClampNeg))) + (v77 q cc gc (Ar h 18) (Fi h 13 5) g c ((Ar h 16) (((((Ar h 17) g).toNatClampNeg) * 6) + c)) v)))))) 17 8 (upd (Ar h 17) g (nI c))) 18 8 (upd (Ar h 18) g (((Ar h 18) g) ||| (shl (nI 1) (nI c)))))
    exact ⟨(hc_a rfl rfl (hc_a rfl rfl (hc_a rfl rfl hw))), (fr_a rfl rfl (fr_a rfl rfl (fr_a rfl rfl fr_0)))⟩
def v40t (q : QT) (cc gc : Nat) (h : pm_H) (g : Nat) (c : Nat) (v : Int32) : pm_H := cond (v76 q cc gc (Ar h 24) (Fi h 19 5) g c) (cond (pm_cmp .le ((Ar h 22) (((((Ar h 23) g).toNatClampNeg) * 6) + c)) 0) (aset (aset (aset (aset h 21 36 (upd (Ar h 21) (c * 6 + (((Ar h 23) g).toNatClampNeg)) (imax (nI 0) (imin (nI 20) (((Ar h 21) (c * 6 + (((Ar h 23) g).toNatClampNeg))) + (v77 q cc gc (Ar h 24) (Fi h 19 5) g c ((Ar h 22) (((((Ar h 23) g).toNatClampNeg) * 6) + c)) v)))))) 22 36 (upd (Ar h 22) (c * 6 + (((Ar h 23) g).toNatClampNeg)) (imin (nI 9999) (((Ar h 22) (c * 6 + (((Ar h 23) g).toNatClampNeg))) + v)))) 23 8 (upd (Ar h 23) g (nI c))) 24 8 (upd (Ar h 24) g (((Ar h 24) g) ||| (shl (nI 1) (nI c))))) (aset (aset (aset (aset h 21 36 (upd (Ar h 21) (c * 6 + (((Ar h 23) g).toNatClampNeg)) (imax (nI 0) (imin (nI 20) (((Ar h 21) (c * 6 + (((Ar h 23) g).toNatClampNeg))) + (v77 q cc gc (Ar h 24) (Fi h 19 5) g c ((Ar h 22) (((((Ar h 23) g).toNatClampNeg) * 6) + c)) v)))))) 22 36 (upd (Ar h 22) (((((Ar h 23) g).toNatClampNeg) * 6) + c) (nI 0))) 23 8 (upd (Ar h 23) g (nI c))) 24 8 (upd (Ar h 24) g (((Ar h 24) g) ||| (shl (nI 1) (nI c)))))) (aset (aset (aset h 21 36 (upd (Ar h 21) (c * 6 + (((Ar h 23) g).toNatClampNeg)) (imax (nI 0) (imin (nI 20) (((Ar h 21) (c * 6 + (((Ar h 23) g).toNatClampNeg))) + (v77 q cc gc (Ar h 24) (Fi h 19 5) g c ((Ar h 22) (((((Ar h 23) g).toNatClampNeg) * 6) + c)) v)))))) 23 8 (upd (Ar h 23) g (nI c))) 24 8 (upd (Ar h 24) g (((Ar h 24) g) ||| (shl (nI 1) (nI c)))))
theorem v40t_ok {n fr lo sl cc gc : Nat} {q : QT} {h : pm_H} {R : pm_Rs} {g : Nat} {c : Nat} {v : Int32} (hw : HC q cc gc h) (h_g : g < 10000) (h_c : c < 10000) (hol : NA h 23 0 8 6) (hh : pm_run PT n fr lo 40 (0, pm_l0 [.ref 5, .ref 19, .int (nI g), .int (nI c), .int v] 9, [], h, 198, sl) = some R) : R = (none, v40t q cc gc h g c v, 198, sl) ∧ HC q cc gc (v40t q cc gc h g c v) ∧ frm [21, 22, 23, 24] [] h (v40t q cc gc h g c v) := by
  have hcc := hw.cb
  have hgc := hw.gb
  have hzr := hw.zr
  obtain ⟨n, hh⟩ := rn_i rfl rfl rfl rfl hh
  have hh : pm_run PT n fr lo 40 (1, [some (.ref 5), some (.ref 19), some (.int (nI g)), some (.int (nI c)), some (.int v), none, none, none, none], [.ref 19], h, 198, sl) = some R := hh
  obtain ⟨n, hh⟩ := rn_gr hw.wt rfl rfl (by decide) rfl (by decide) (show _ = some (2, ((23 : Nat) : Int), 1) from rfl) rfl hh
  obtain ⟨n, hh⟩ := rn_i rfl rfl rfl rfl hh
  have hh : pm_run PT n fr lo 40 (5, [some (.ref 5), some (.ref 19), some (.int (nI g)), some (.int (nI c)), some (.int v), none, none, none, none], [.int (nI g), .ref 23], h, 198, sl) = some R := hh
  obtain ⟨n, hx1, hh⟩ := en_lu (t := g) (f := Ar h 23) (w := nI (((Ar h 23) g).toNatClampNeg)) (nI_clamp (by omega)) hw.wt rfl (by decide) rfl (by decide) rfl (fun z => (hol _ (by omega) (by omega)).1) hh
  have hb2 := (hol g (by omega) (by omega)).2
  obtain ⟨n, hh⟩ := rn_i rfl rfl rfl rfl hh
  obtain ⟨n, hh⟩ := rn_i rfl rfl rfl rfl hh
  obtain ⟨n, hh⟩ := rn_i rfl rfl rfl rfl hh
  have hh : pm_run PT n fr lo 40 (11, [some (.ref 5), some (.ref 19), some (.int (nI g)), some (.int (nI c)), some (.int v), some (.int (nI (((Ar h 23) g).toNatClampNeg))), none, none, none], [.int (nI (((Ar h 23) g).toNatClampNeg)), .int (nI c)], h, 198, sl) = some R := hh
  obtain ⟨n, fr1, lo1, r1, hh1, hh⟩ := rn_call (w := 3) (t := 160) rfl rfl hh
  have hh1 : pm_run PT n fr1 lo1 160 (0, [some (.int (nI c)), some (.int (nI (((Ar h 23) g).toNatClampNeg)))], [], h, 198, sl) = some r1 := hh1
  obtain ⟨n1, hh1⟩ := rn_i rfl rfl rfl rfl hh1
  obtain ⟨n1, hh1⟩ := rn_i rfl rfl rfl rfl hh1
  have hh1 : pm_run PT n1 fr1 lo1 160 (3, [some (.int (nI c)), some (.int (nI (((Ar h 23) g).toNatClampNeg)))], [.int (nI 6), .int (nI c)], h, 198, sl) = some r1 := hh1
  obtain ⟨n1, hh1⟩ := en_mul rfl hh1
  have hh1 : pm_run PT n1 fr1 lo1 160 (4, [some (.int (nI c)), some (.int (nI (((Ar h 23) g).toNatClampNeg)))], [.int (nI (c * 6))], h, 198, sl) = some r1 := hh1
  obtain ⟨n1, hh1⟩ := rn_i rfl rfl rfl rfl hh1
  have hh1 : pm_run PT n1 fr1 lo1 160 (5, [some (.int (nI c)), some (.int (nI (((Ar h 23) g).toNatClampNeg)))], [.int (nI (((Ar h 23) g).toNatClampNeg)), .int (nI (c * 6))], h, 198, sl) = some r1 := hh1
  obtain ⟨n1, hh1⟩ := en_add rfl hh1
  have hh1 : pm_run PT n1 fr1 lo1 160 (6, [some (.int (nI c)), some (.int (nI (((Ar h 23) g).toNatClampNeg)))], [.int (nI (c * 6 + (((Ar h 23) g).toNatClampNeg)))], h, 198, sl) = some r1 := hh1
  have hh1 : pm_run PT n1 fr1 lo1 160 (6, [some (.int (nI c)), some (.int (nI (((Ar h 23) g).toNatClampNeg)))], [.int (nI (c * 6 + (((Ar h 23) g).toNatClampNeg)))], h, 198, sl) = some r1 := hh1
  have er3 : r1 = (some (.int (nI (c * 6 + (((Ar h 23) g).toNatClampNeg)))), h, 198, sl) := (rn_ret rfl (Or.inl rfl) hh1).2
  subst er3
  obtain ⟨n, hh⟩ := rn_i rfl rfl rfl rfl hh
  obtain ⟨n, hh⟩ := rn_i rfl rfl rfl rfl hh
  obtain ⟨n, hh⟩ := rn_i rfl rfl rfl rfl hh
  have hh : pm_run PT n fr lo 40 (19, [some (.ref 5), some (.ref 19), some (.int (nI g)), some (.int (nI c)), some (.int v), some (.int (nI (((Ar h 23) g).toNatClampNeg))), some (.int (nI (c * 6 + (((Ar h 23) g).toNatClampNeg)))), none, none], [.int (nI c), .int (nI (((Ar h 23) g).toNatClampNeg))], h, 198, sl) = some R := hh
  obtain ⟨n, fr1, lo1, r1, hh1, hh⟩ := rn_call (w := 3) (t := 160) rfl rfl hh
  have hh1 : pm_run PT n fr1 lo1 160 (0, [some (.int (nI (((Ar h 23) g).toNatClampNeg))), some (.int (nI c))], [], h, 198, sl) = some r1 := hh1
  obtain ⟨n1, hh1⟩ := rn_i rfl rfl rfl rfl hh1
  obtain ⟨n1, hh1⟩ := rn_i rfl rfl rfl rfl hh1
  have hh1 : pm_run PT n1 fr1 lo1 160 (3, [some (.int (nI (((Ar h 23) g).toNatClampNeg))), some (.int (nI c))], [.int (nI 6), .int (nI (((Ar h 23) g).toNatClampNeg))], h, 198, sl) = some r1 := hh1
  obtain ⟨n1, hh1⟩ := en_mul rfl hh1
  have hh1 : pm_run PT n1 fr1 lo1 160 (4, [some (.int (nI (((Ar h 23) g).toNatClampNeg))), some (.int (nI c))], [.int (nI ((((Ar h 23) g).toNatClampNeg) * 6))], h, 198, sl) = some r1 := hh1
  obtain ⟨n1, hh1⟩ := rn_i rfl rfl rfl rfl hh1
  have hh1 : pm_run PT n1 fr1 lo1 160 (5, [some (.int (nI (((Ar h 23) g).toNatClampNeg))), some (.int (nI c))], [.int (nI c), .int (nI ((((Ar h 23) g).toNatClampNeg) * 6))], h, 198, sl) = some r1 := hh1
  obtain ⟨n1, hh1⟩ := en_add rfl hh1
  have hh1 : pm_run PT n1 fr1 lo1 160 (6, [some (.int (nI (((Ar h 23) g).toNatClampNeg))), some (.int (nI c))], [.int (nI (((((Ar h 23) g).toNatClampNeg) * 6) + c))], h, 198, sl) = some r1 := hh1
  have hh1 : pm_run PT n1 fr1 lo1 160 (6, [some (.int (nI (((Ar h 23) g).toNatClampNeg))), some (.int (nI c))], [.int (nI (((((Ar h 23) g).toNatClampNeg) * 6) + c))], h, 198, sl) = some r1 := hh1
  have er4 : r1 = (some (.int (nI (((((Ar h 23) g).toNatClampNeg) * 6) + c))), h, 198, sl) := (rn_ret rfl (Or.inl rfl) hh1).2
  subst er4
  obtain ⟨n, hh⟩ := rn_i rfl rfl rfl rfl hh
  obtain ⟨n, hh⟩ := rn_i rfl rfl rfl rfl hh
  obtain ⟨n, hh⟩ := rn_i rfl rfl rfl rfl hh
  obtain ⟨n, hh⟩ := rn_i rfl rfl rfl rfl hh
  obtain ⟨n, hh⟩ := rn_i rfl rfl rfl rfl hh
  have hh : pm_run PT n fr lo 40 (28, [some (.ref 5), some (.ref 19), some (.int (nI g)), some (.int (nI c)), some (.int v), some (.int (nI (((Ar h 23) g).toNatClampNeg))), some (.int (nI (c * 6 + (((Ar h 23) g).toNatClampNeg)))), some (.int (nI (((((Ar h 23) g).toNatClampNeg) * 6) + c))), none], [.ref 19, .int (nI c), .int (nI g), .ref 19], h, 198, sl) = some R := hh
  obtain ⟨n, hh⟩ := rn_gr hw.wt rfl rfl (by decide) rfl (by decide) (show _ = some (2, ((22 : Nat) : Int), 1) from rfl) rfl hh
  obtain ⟨n, hh⟩ := rn_i rfl rfl rfl rfl hh
  have hh : pm_run PT n fr lo 40 (33, [some (.ref 5), some (.ref 19), some (.int (nI g)), some (.int (nI c)), some (.int v), some (.int (nI (((Ar h 23) g).toNatClampNeg))), some (.int (nI (c * 6 + (((Ar h 23) g).toNatClampNeg)))), some (.int (nI (((((Ar h 23) g).toNatClampNeg) * 6) + c))), none], [.int (nI (((((Ar h 23) g).toNatClampNeg) * 6) + c)), .ref 22, .int (nI c), .int (nI g), .ref 19], h, 198, sl) = some R := hh
  obtain ⟨n, hx5, hh⟩ := en_lu (t := ((((Ar h 23) g).toNatClampNeg) * 6) + c) (f := Ar h 22) (w := (Ar h 22) (((((Ar h 23) g).toNatClampNeg) * 6) + c)) (nI_clamp (by omega)) hw.wt rfl (by decide) rfl (by decide) rfl (fun _ => rfl) hh
  obtain ⟨n, hh⟩ := rn_i rfl rfl rfl rfl hh
  have hh : pm_run PT n fr lo 40 (36, [some (.ref 5), some (.ref 19), some (.int (nI g)), some (.int (nI c)), some (.int v), some (.int (nI (((Ar h 23) g).toNatClampNeg))), some (.int (nI (c * 6 + (((Ar h 23) g).toNatClampNeg)))), some (.int (nI (((((Ar h 23) g).toNatClampNeg) * 6) + c))), none], [.int v, .int ((Ar h 22) (((((Ar h 23) g).toNatClampNeg) * 6) + c)), .int (nI c), .int (nI g), .ref 19], h, 198, sl) = some R := hh
  obtain ⟨n, fr1, lo1, r1, hh1, hh⟩ := rn_call (w := 0) (t := 77) rfl rfl hh
  have er6 := v77t_ok (g := g) (c := c) (o := ((Ar h 22) (((((Ar h 23) g).toNatClampNeg) * 6) + c))) (v := v) hw (by omega) (by omega) hh1
  subst er6
  obtain ⟨n, hh⟩ := rn_i rfl rfl rfl rfl hh
  obtain ⟨n, hh⟩ := rn_i rfl rfl rfl rfl hh
  have hh : pm_run PT n fr lo 40 (42, [some (.ref 5), some (.ref 19), some (.int (nI g)), some (.int (nI c)), some (.int v), some (.int (nI (((Ar h 23) g).toNatClampNeg))), some (.int (nI (c * 6 + (((Ar h 23) g).toNatClampNeg)))), some (.int (nI (((((Ar h 23) g).toNatClampNeg) * 6) + c))), some (.int (v77 q cc gc (Ar h 24) (Fi h 19 5) g c ((Ar h 22) (((((Ar h 23) g).toNatClampNeg) * 6) + c)) v))], [.ref 19], h, 198, sl) = some R := hh
  obtain ⟨n, hh⟩ := rn_gr hw.wt rfl rfl (by decide) rfl (by decide) (show _ = some (2, ((21 : Nat) : Int), 1) from rfl) rfl hh
  obtain ⟨n, hh⟩ := rn_i rfl rfl rfl rfl hh
  obtain ⟨n, hh⟩ := rn_i rfl rfl rfl rfl hh
  have hh : pm_run PT n fr lo 40 (48, [some (.ref 5), some (.ref 19), some (.int (nI g)), some (.int (nI c)), some (.int v), some (.int (nI (((Ar h 23) g).toNatClampNeg))), some (.int (nI (c * 6 + (((Ar h 23) g).toNatClampNeg)))), some (.int (nI (((((Ar h 23) g).toNatClampNeg) * 6) + c))), some (.int (v77 q cc gc (Ar h 24) (Fi h 19 5) g c ((Ar h 22) (((((Ar h 23) g).toNatClampNeg) * 6) + c)) v))], [.ref 19, .int (nI (c * 6 + (((Ar h 23) g).toNatClampNeg))), .ref 21], h, 198, sl) = some R := hh
  obtain ⟨n, hh⟩ := rn_gr hw.wt rfl rfl (by decide) rfl (by decide) (show _ = some (2, ((21 : Nat) : Int), 1) from rfl) rfl hh
  obtain ⟨n, hh⟩ := rn_i rfl rfl rfl rfl hh
  have hh : pm_run PT n fr lo 40 (53, [some (.ref 5), some (.ref 19), some (.int (nI g)), some (.int (nI c)), some (.int v), some (.int (nI (((Ar h 23) g).toNatClampNeg))), some (.int (nI (c * 6 + (((Ar h 23) g).toNatClampNeg)))), some (.int (nI (((((Ar h 23) g).toNatClampNeg) * 6) + c))), some (.int (v77 q cc gc (Ar h 24) (Fi h 19 5) g c ((Ar h 22) (((((Ar h 23) g).toNatClampNeg) * 6) + c)) v))], [.int (nI (c * 6 + (((Ar h 23) g).toNatClampNeg))), .ref 21, .int (nI (c * 6 + (((Ar h 23) g).toNatClampNeg))), .ref 21], h, 198, sl) = some R := hh
  obtain ⟨n, hx7, hh⟩ := en_lu (t := c * 6 + (((Ar h 23) g).toNatClampNeg)) (f := Ar h 21) (w := (Ar h 21) (c * 6 + (((Ar h 23) g).toNatClampNeg))) (nI_clamp (by omega)) hw.wt rfl (by decide) rfl (by decide) rfl (fun _ => rfl) hh
  obtain ⟨n, hh⟩ := rn_i rfl rfl rfl rfl hh
  obtain ⟨n, hh⟩ := rn_i rfl rfl rfl rfl hh
  obtain ⟨n, hh⟩ := rn_i rfl rfl rfl rfl hh
  have hh : pm_run PT n fr lo 40 (59, [some (.ref 5), some (.ref 19), some (.int (nI g)), some (.int (nI c)), some (.int v), some (.int (nI (((Ar h 23) g).toNatClampNeg))), some (.int (nI (c * 6 + (((Ar h 23) g).toNatClampNeg)))), some (.int (nI (((((Ar h 23) g).toNatClampNeg) * 6) + c))), some (.int (v77 q cc gc (Ar h 24) (Fi h 19 5) g c ((Ar h 22) (((((Ar h 23) g).toNatClampNeg) * 6) + c)) v))], [.int (nI 20), .int (((Ar h 21) (c * 6 + (((Ar h 23) g).toNatClampNeg))) + (v77 q cc gc (Ar h 24) (Fi h 19 5) g c ((Ar h 22) (((((Ar h 23) g).toNatClampNeg) * 6) + c)) v)), .int (nI (c * 6 + (((Ar h 23) g).toNatClampNeg))), .ref 21], h, 198, sl) = some R := hh
  obtain ⟨n, fr1, lo1, r1, hh1, hh⟩ := rn_call (w := 3) (t := 159) rfl rfl hh
  have hh1 : pm_run PT n fr1 lo1 159 (0, [some (.int (((Ar h 21) (c * 6 + (((Ar h 23) g).toNatClampNeg))) + (v77 q cc gc (Ar h 24) (Fi h 19 5) g c ((Ar h 22) (((((Ar h 23) g).toNatClampNeg) * 6) + c)) v))), some (.int (nI 20))], [], h, 198, sl) = some r1 := hh1
  obtain ⟨n1, hh1⟩ := rn_i rfl rfl rfl rfl hh1
  obtain ⟨n1, hh1⟩ := rn_i rfl rfl rfl rfl hh1
  obtain ⟨n1, hh1⟩ := rn_i rfl rfl rfl rfl hh1
  have hh1 : pm_run PT n1 fr1 lo1 159 (3, [some (.int (((Ar h 21) (c * 6 + (((Ar h 23) g).toNatClampNeg))) + (v77 q cc gc (Ar h 24) (Fi h 19 5) g c ((Ar h 22) (((((Ar h 23) g).toNatClampNeg) * 6) + c)) v))), some (.int (nI 20))], [.int (((Ar h 21) (c * 6 + (((Ar h 23) g).toNatClampNeg))) + (v77 q cc gc (Ar h 24) (Fi h 19 5) g c ((Ar h 22) (((((Ar h 23) g).toNatClampNeg) * 6) + c)) v)), .int (nI 20), .int (nI 0)], h, 198, sl) = some r1 := hh1
  obtain ⟨n1, hh1⟩ := en_min rfl rfl rfl hh1
  have hh1 : pm_run PT n1 fr1 lo1 159 (6, [some (.int (((Ar h 21) (c * 6 + (((Ar h 23) g).toNatClampNeg))) + (v77 q cc gc (Ar h 24) (Fi h 19 5) g c ((Ar h 22) (((((Ar h 23) g).toNatClampNeg) * 6) + c)) v))), some (.int (nI 20))], [.int (imin (nI 20) (((Ar h 21) (c * 6 + (((Ar h 23) g).toNatClampNeg))) + (v77 q cc gc (Ar h 24) (Fi h 19 5) g c ((Ar h 22) (((((Ar h 23) g).toNatClampNeg) * 6) + c)) v))), .int (nI 0)], h, 198, sl) = some r1 := hh1
  obtain ⟨n1, hh1⟩ := en_max rfl rfl rfl hh1
  have hh1 : pm_run PT n1 fr1 lo1 159 (9, [some (.int (((Ar h 21) (c * 6 + (((Ar h 23) g).toNatClampNeg))) + (v77 q cc gc (Ar h 24) (Fi h 19 5) g c ((Ar h 22) (((((Ar h 23) g).toNatClampNeg) * 6) + c)) v))), some (.int (nI 20))], [.int (imax (nI 0) (imin (nI 20) (((Ar h 21) (c * 6 + (((Ar h 23) g).toNatClampNeg))) + (v77 q cc gc (Ar h 24) (Fi h 19 5) g c ((Ar h 22) (((((Ar h 23) g).toNatClampNeg) * 6) + c)) v))))], h, 198, sl) = some r1 := hh1
  have er8 : r1 = (some (.int (imax (nI 0) (imin (nI 20) (((Ar h 21) (c * 6 + (((Ar h 23) g).toNatClampNeg))) + (v77 q cc gc (Ar h 24) (Fi h 19 5) g c ((Ar h 22) (((((Ar h 23) g).toNatClampNeg) * 6) + c)) v))))), h, 198, sl) := (rn_ret rfl (Or.inl rfl) hh1).2
  subst er8
  have hh : pm_run PT n fr lo 40 (62, [some (.ref 5), some (.ref 19), some (.int (nI g)), some (.int (nI c)), some (.int v), some (.int (nI (((Ar h 23) g).toNatClampNeg))), some (.int (nI (c * 6 + (((Ar h 23) g).toNatClampNeg)))), some (.int (nI (((((Ar h 23) g).toNatClampNeg) * 6) + c))), some (.int (v77 q cc gc (Ar h 24) (Fi h 19 5) g c ((Ar h 22) (((((Ar h 23) g).toNatClampNeg) * 6) + c)) v))], [.int (imax (nI 0) (imin (nI 20) (((Ar h 21) (c * 6 + (((Ar h 23) g).toNatClampNeg))) + (v77 q cc gc (Ar h 24) (Fi h 19 5) g c ((Ar h 22) (((((Ar h 23) g).toNatClampNeg) * 6) + c)) v)))), .int (nI (c * 6 + (((Ar h 23) g).toNatClampNeg))), .ref 21], h, 198, sl) = some R := hh
  obtain ⟨n, hx9, hh⟩ := en_st (t := c * 6 + (((Ar h 23) g).toNatClampNeg)) (f := Ar h 21) (nI_clamp (by omega)) hw.wt rfl (by decide) rfl (by decide) rfl hh
  obtain ⟨n, hh⟩ := rn_i rfl rfl rfl rfl hh
  obtain ⟨n, hh⟩ := rn_i rfl rfl rfl rfl hh
  obtain ⟨n, hh⟩ := rn_i rfl rfl rfl rfl hh
  have hh : pm_run PT n fr lo 40 (66, [some (.ref 5), some (.ref 19), some (.int (nI g)), some (.int (nI c)), some (.int v), some (.int (nI (((Ar h 23) g).toNatClampNeg))), some (.int (nI (c * 6 + (((Ar h 23) g).toNatClampNeg)))), some (.int (nI (((((Ar h 23) g).toNatClampNeg) * 6) + c))), some (.int (v77 q cc gc (Ar h 24) (Fi h 19 5) g c ((Ar h 22) (((((Ar h 23) g).toNatClampNeg) * 6) + c)) v))], [.int (nI c), .int (nI g), .ref 19], aset h 21 36 (upd (Ar h 21) (c * 6 + (((Ar h 23) g).toNatClampNeg)) (imax (nI 0) (imin (nI 20) (((Ar h 21) (c * 6 + (((Ar h 23) g).toNatClampNeg))) + (v77 q cc gc (Ar h 24) (Fi h 19 5) g c ((Ar h 22) (((((Ar h 23) g).toNatClampNeg) * 6) + c)) v))))), 198, sl) = some R := hh
  obtain ⟨n, fr1, lo1, r1, hh1, hh⟩ := rn_call (w := 0) (t := 76) rfl rfl hh
  have er10 := v76t_ok (g := g) (c := c) (hc_a rfl rfl hw) (by omega) (by omega) hh1
  rw [show Ar (aset h 21 36 (upd (Ar h 21) (c * 6 + (((Ar h 23) g).toNatClampNeg)) (imax (nI 0) (imin (nI 20) (((Ar h 21) (c * 6 + (((Ar h 23) g).toNatClampNeg))) + (v77 q cc gc (Ar h 24) (Fi h 19 5) g c ((Ar h 22) (((((Ar h 23) g).toNatClampNeg) * 6) + c)) v)))))) 24 = Ar h 24 from ((Ar_n (by decide)).trans rfl)] at er10
  rw [show Fi (aset h 21 36 (upd (Ar h 21) (c * 6 + (((Ar h 23) g).toNatClampNeg)) (imax (nI 0) (imin (nI 20) (((Ar h 21) (c * 6 + (((Ar h 23) g).toNatClampNeg))) + (v77 q cc gc (Ar h 24) (Fi h 19 5) g c ((Ar h 22) (((((Ar h 23) g).toNatClampNeg) * 6) + c)) v)))))) 19 5 = Fi h 19 5 from ((Fi_a (by decide)).trans rfl)] at er10
  subst er10
  have hh : pm_run PT n fr lo 40 (69, [some (.ref 5), some (.ref 19), some (.int (nI g)), some (.int (nI c)), some (.int v), some (.int (nI (((Ar h 23) g).toNatClampNeg))), some (.int (nI (c * 6 + (((Ar h 23) g).toNatClampNeg)))), some (.int (nI (((((Ar h 23) g).toNatClampNeg) * 6) + c))), some (.int (v77 q cc gc (Ar h 24) (Fi h 19 5) g c ((Ar h 22) (((((Ar h 23) g).toNatClampNeg) * 6) + c)) v))], [.int (cond (v76 q cc gc (Ar h 24) (Fi h 19 5) g c) 1 0)], aset h 21 36 (upd (Ar h 21) (c * 6 + (((Ar h 23) g).toNatClampNeg)) (imax (nI 0) (imin (nI 20) (((Ar h 21) (c * 6 + (((Ar h 23) g).toNatClampNeg))) + (v77 q cc gc (Ar h 24) (Fi h 19 5) g c ((Ar h 22) (((((Ar h 23) g).toNatClampNeg) * 6) + c)) v))))), 198, sl) = some R := hh
  obtain ⟨n, hh⟩ := en_zn (cc := .eq) (off := 47) (t := 116) (b := !(v76 q cc gc (Ar h 24) (Fi h 19 5) g c)) eb_eq rfl rfl hh
  cases z11 : v76 q cc gc (Ar h 24) (Fi h 19 5) g c with
  | true =>
    have hh := en_nt z11 hh
    have hh : pm_run PT n fr lo 40 (72, [some (.ref 5), some (.ref 19), some (.int (nI g)), some (.int (nI c)), some (.int v), some (.int (nI (((Ar h 23) g).toNatClampNeg))), some (.int (nI (c * 6 + (((Ar h 23) g).toNatClampNeg)))), some (.int (nI (((((Ar h 23) g).toNatClampNeg) * 6) + c))), some (.int (v77 q cc gc (Ar h 24) (Fi h 19 5) g c ((Ar h 22) (((((Ar h 23) g).toNatClampNeg) * 6) + c)) v))], [], aset h 21 36 (upd (Ar h 21) (c * 6 + (((Ar h 23) g).toNatClampNeg)) (imax (nI 0) (imin (nI 20) (((Ar h 21) (c * 6 + (((Ar h 23) g).toNatClampNeg))) + (v77 q cc gc (Ar h 24) (Fi h 19 5) g c ((Ar h 22) (((((Ar h 23) g).toNatClampNeg) * 6) + c)) v))))), 198, sl) = some R := hh
    obtain ⟨n, hh⟩ := rn_i rfl rfl rfl rfl hh
    have hh : pm_run PT n fr lo 40 (73, [some (.ref 5), some (.ref 19), some (.int (nI g)), some (.int (nI c)), some (.int v), some (.int (nI (((Ar h 23) g).toNatClampNeg))), some (.int (nI (c * 6 + (((Ar h 23) g).toNatClampNeg)))), some (.int (nI (((((Ar h 23) g).toNatClampNeg) * 6) + c))), some (.int (v77 q cc gc (Ar h 24) (Fi h 19 5) g c ((Ar h 22) (((((Ar h 23) g).toNatClampNeg) * 6) + c)) v))], [.ref 19], aset h 21 36 (upd (Ar h 21) (c * 6 + (((Ar h 23) g).toNatClampNeg)) (imax (nI 0) (imin (nI 20) (((Ar h 21) (c * 6 + (((Ar h 23) g).toNatClampNeg))) + (v77 q cc gc (Ar h 24) (Fi h 19 5) g c ((Ar h 22) (((((Ar h 23) g).toNatClampNeg) * 6) + c)) v))))), 198, sl) = some R := hh
    obtain ⟨n, hh⟩ := rn_gr (hc_a rfl rfl hw).wt rfl rfl (by decide) rfl (by decide) (show _ = some (2, ((22 : Nat) : Int), 1) from rfl) rfl hh
    obtain ⟨n, hh⟩ := rn_i rfl rfl rfl rfl hh
    have hh : pm_run PT n fr lo 40 (78, [some (.ref 5), some (.ref 19), some (.int (nI g)), some (.int (nI c)), some (.int v), some (.int (nI (((Ar h 23) g).toNatClampNeg))), some (.int (nI (c * 6 + (((Ar h 23) g).toNatClampNeg)))), some (.int (nI (((((Ar h 23) g).toNatClampNeg) * 6) + c))), some (.int (v77 q cc gc (Ar h 24) (Fi h 19 5) g c ((Ar h 22) (((((Ar h 23) g).toNatClampNeg) * 6) + c)) v))], [.int (nI (((((Ar h 23) g).toNatClampNeg) * 6) + c)), .ref 22], aset h 21 36 (upd (Ar h 21) (c * 6 + (((Ar h 23) g).toNatClampNeg)) (imax (nI 0) (imin (nI 20) (((Ar h 21) (c * 6 + (((Ar h 23) g).toNatClampNeg))) + (v77 q cc gc (Ar h 24) (Fi h 19 5) g c ((Ar h 22) (((((Ar h 23) g).toNatClampNeg) * 6) + c)) v))))), 198, sl) = some R := hh
    obtain ⟨n, hx12, hh⟩ := en_lu (t := ((((Ar h 23) g).toNatClampNeg) * 6) + c) (f := Ar h 22) (w := (Ar h 22) (((((Ar h 23) g).toNatClampNeg) * 6) + c)) (nI_clamp (by omega)) (hc_a rfl rfl hw).wt rfl (by decide) rfl (by decide) ((Ar_n (by decide)).trans rfl) (fun _ => rfl) hh
    have hh : pm_run PT n fr lo 40 (79, [some (.ref 5), some (.ref 19), some (.int (nI g)), some (.int (nI c)), some (.int v), some (.int (nI (((Ar h 23) g).toNatClampNeg))), some (.int (nI (c * 6 + (((Ar h 23) g).toNatClampNeg)))), some (.int (nI (((((Ar h 23) g).toNatClampNeg) * 6) + c))), some (.int (v77 q cc gc (Ar h 24) (Fi h 19 5) g c ((Ar h 22) (((((Ar h 23) g).toNatClampNeg) * 6) + c)) v))], [.int ((Ar h 22) (((((Ar h 23) g).toNatClampNeg) * 6) + c))], aset h 21 36 (upd (Ar h 21) (c * 6 + (((Ar h 23) g).toNatClampNeg)) (imax (nI 0) (imin (nI 20) (((Ar h 21) (c * 6 + (((Ar h 23) g).toNatClampNeg))) + (v77 q cc gc (Ar h 24) (Fi h 19 5) g c ((Ar h 22) (((((Ar h 23) g).toNatClampNeg) * 6) + c)) v))))), 198, sl) = some R := hh
    obtain ⟨n, hh⟩ := en_zn (cc := .le) (off := 14) (t := 93) (b := pm_cmp .le ((Ar h 22) (((((Ar h 23) g).toNatClampNeg) * 6) + c)) 0) rfl rfl rfl hh
    cases z13 : pm_cmp .le ((Ar h 22) (((((Ar h 23) g).toNatClampNeg) * 6) + c)) 0 with
    | true =>
      have hh := en_t z13 hh
      have hh : pm_run PT n fr lo 40 (93, [some (.ref 5), some (.ref 19), some (.int (nI g)), some (.int (nI c)), some (.int v), some (.int (nI (((Ar h 23) g).toNatClampNeg))), some (.int (nI (c * 6 + (((Ar h 23) g).toNatClampNeg)))), some (.int (nI (((((Ar h 23) g).toNatClampNeg) * 6) + c))), some (.int (v77 q cc gc (Ar h 24) (Fi h 19 5) g c ((Ar h 22) (((((Ar h 23) g).toNatClampNeg) * 6) + c)) v))], [], aset h 21 36 (upd (Ar h 21) (c * 6 + (((Ar h 23) g).toNatClampNeg)) (imax (nI 0) (imin (nI 20) (((Ar h 21) (c * 6 + (((Ar h 23) g).toNatClampNeg))) + (v77 q cc gc (Ar h 24) (Fi h 19 5) g c ((Ar h 22) (((((Ar h 23) g).toNatClampNeg) * 6) + c)) v))))), 198, sl) = some R := hh
      obtain ⟨n, hh⟩ := rn_i rfl rfl rfl rfl hh
      have hh : pm_run PT n fr lo 40 (94, [some (.ref 5), some (.ref 19), some (.int (nI g)), some (.int (nI c)), some (.int v), some (.int (nI (((Ar h 23) g).toNatClampNeg))), some (.int (nI (c * 6 + (((Ar h 23) g).toNatClampNeg)))), some (.int (nI (((((Ar h 23) g).toNatClampNeg) * 6) + c))), some (.int (v77 q cc gc (Ar h 24) (Fi h 19 5) g c ((Ar h 22) (((((Ar h 23) g).toNatClampNeg) * 6) + c)) v))], [.ref 19], aset h 21 36 (upd (Ar h 21) (c * 6 + (((Ar h 23) g).toNatClampNeg)) (imax (nI 0) (imin (nI 20) (((Ar h 21) (c * 6 + (((Ar h 23) g).toNatClampNeg))) + (v77 q cc gc (Ar h 24) (Fi h 19 5) g c ((Ar h 22) (((((Ar h 23) g).toNatClampNeg) * 6) + c)) v))))), 198, sl) = some R := hh
      obtain ⟨n, hh⟩ := rn_gr (hc_a rfl rfl hw).wt rfl rfl (by decide) rfl (by decide) (show _ = some (2, ((22 : Nat) : Int), 1) from rfl) rfl hh
      obtain ⟨n, hh⟩ := rn_i rfl rfl rfl rfl hh
      obtain ⟨n, hh⟩ := rn_i rfl rfl rfl rfl hh
      obtain ⟨n, hh⟩ := rn_i rfl rfl rfl rfl hh
      have hh : pm_run PT n fr lo 40 (103, [some (.ref 5), some (.ref 19), some (.int (nI g)), some (.int (nI c)), some (.int v), some (.int (nI (((Ar h 23) g).toNatClampNeg))), some (.int (nI (c * 6 + (((Ar h 23) g).toNatClampNeg)))), some (.int (nI (((((Ar h 23) g).toNatClampNeg) * 6) + c))), some (.int (v77 q cc gc (Ar h 24) (Fi h 19 5) g c ((Ar h 22) (((((Ar h 23) g).toNatClampNeg) * 6) + c)) v))], [.ref 19, .int (nI 9999), .int (nI (c * 6 + (((Ar h 23) g).toNatClampNeg))), .ref 22], aset h 21 36 (upd (Ar h 21) (c * 6 + (((Ar h 23) g).toNatClampNeg)) (imax (nI 0) (imin (nI 20) (((Ar h 21) (c * 6 + (((Ar h 23) g).toNatClampNeg))) + (v77 q cc gc (Ar h 24) (Fi h 19 5) g c ((Ar h 22) (((((Ar h 23) g).toNatClampNeg) * 6) + c)) v))))), 198, sl) = some R := hh
      obtain ⟨n, hh⟩ := rn_gr (hc_a rfl rfl hw).wt rfl rfl (by decide) rfl (by decide) (show _ = some (2, ((22 : Nat) : Int), 1) from rfl) rfl hh
      obtain ⟨n, hh⟩ := rn_i rfl rfl rfl rfl hh
      have hh : pm_run PT n fr lo 40 (108, [some (.ref 5), some (.ref 19), some (.int (nI g)), some (.int (nI c)), some (.int v), some (.int (nI (((Ar h 23) g).toNatClampNeg))), some (.int (nI (c * 6 + (((Ar h 23) g).toNatClampNeg)))), some (.int (nI (((((Ar h 23) g).toNatClampNeg) * 6) + c))), some (.int (v77 q cc gc (Ar h 24) (Fi h 19 5) g c ((Ar h 22) (((((Ar h 23) g).toNatClampNeg) * 6) + c)) v))], [.int (nI (c * 6 + (((Ar h 23) g).toNatClampNeg))), .ref 22, .int (nI 9999), .int (nI (c * 6 + (((Ar h 23) g).toNatClampNeg))), .ref 22], aset h 21 36 (upd (Ar h 21) (c * 6 + (((Ar h 23) g).toNatClampNeg)) (imax (nI 0) (imin (nI 20) (((Ar h 21) (c * 6 + (((Ar h 23) g).toNatClampNeg))) + (v77 q cc gc (Ar h 24) (Fi h 19 5) g c ((Ar h 22) (((((Ar h 23) g).toNatClampNeg) * 6) + c)) v))))), 198, sl) = some R := hh
      obtain ⟨n, hx14, hh⟩ := en_lu (t := c * 6 + (((Ar h 23) g).toNatClampNeg)) (f := Ar h 22) (w := (Ar h 22) (c * 6 + (((Ar h 23) g).toNatClampNeg))) (nI_clamp (by omega)) (hc_a rfl rfl hw).wt rfl (by decide) rfl (by decide) ((Ar_n (by decide)).trans rfl) (fun _ => rfl) hh
      obtain ⟨n, hh⟩ := rn_i rfl rfl rfl rfl hh
      obtain ⟨n, hh⟩ := rn_i rfl rfl rfl rfl hh
      have hh : pm_run PT n fr lo 40 (112, [some (.ref 5), some (.ref 19), some (.int (nI g)), some (.int (nI c)), some (.int v), some (.int (nI (((Ar h 23) g).toNatClampNeg))), some (.int (nI (c * 6 + (((Ar h 23) g).toNatClampNeg)))), some (.int (nI (((((Ar h 23) g).toNatClampNeg) * 6) + c))), some (.int (v77 q cc gc (Ar h 24) (Fi h 19 5) g c ((Ar h 22) (((((Ar h 23) g).toNatClampNeg) * 6) + c)) v))], [.int (((Ar h 22) (c * 6 + (((Ar h 23) g).toNatClampNeg))) + v), .int (nI 9999), .int (nI (c * 6 + (((Ar h 23) g).toNatClampNeg))), .ref 22], aset h 21 36 (upd (Ar h 21) (c * 6 + (((Ar h 23) g).toNatClampNeg)) (imax (nI 0) (imin (nI 20) (((Ar h 21) (c * 6 + (((Ar h 23) g).toNatClampNeg))) + (v77 q cc gc (Ar h 24) (Fi h 19 5) g c ((Ar h 22) (((((Ar h 23) g).toNatClampNeg) * 6) + c)) v))))), 198, sl) = some R := hh
      obtain ⟨n, hh⟩ := en_min rfl rfl rfl hh
      have hh : pm_run PT n fr lo 40 (115, [some (.ref 5), some (.ref 19), some (.int (nI g)), some (.int (nI c)), some (.int v), some (.int (nI (((Ar h 23) g).toNatClampNeg))), some (.int (nI (c * 6 + (((Ar h 23) g).toNatClampNeg)))), some (.int (nI (((((Ar h 23) g).toNatClampNeg) * 6) + c))), some (.int (v77 q cc gc (Ar h 24) (Fi h 19 5) g c ((Ar h 22) (((((Ar h 23) g).toNatClampNeg) * 6) + c)) v))], [.int (imin (nI 9999) (((Ar h 22) (c * 6 + (((Ar h 23) g).toNatClampNeg))) + v)), .int (nI (c * 6 + (((Ar h 23) g).toNatClampNeg))), .ref 22], aset h 21 36 (upd (Ar h 21) (c * 6 + (((Ar h 23) g).toNatClampNeg)) (imax (nI 0) (imin (nI 20) (((Ar h 21) (c * 6 + (((Ar h 23) g).toNatClampNeg))) + (v77 q cc gc (Ar h 24) (Fi h 19 5) g c ((Ar h 22) (((((Ar h 23) g).toNatClampNeg) * 6) + c)) v))))), 198, sl) = some R := hh
      obtain ⟨n, hx15, hh⟩ := en_st (t := c * 6 + (((Ar h 23) g).toNatClampNeg)) (f := Ar h 22) (nI_clamp (by omega)) (hc_a rfl rfl hw).wt rfl (by decide) rfl (by decide) ((Ar_n (by decide)).trans rfl) hh
      obtain ⟨n, hh⟩ := rn_i rfl rfl rfl rfl hh
      have hh : pm_run PT n fr lo 40 (117, [some (.ref 5), some (.ref 19), some (.int (nI g)), some (.int (nI c)), some (.int v), some (.int (nI (((Ar h 23) g).toNatClampNeg))), some (.int (nI (c * 6 + (((Ar h 23) g).toNatClampNeg)))), some (.int (nI (((((Ar h 23) g).toNatClampNeg) * 6) + c))), some (.int (v77 q cc gc (Ar h 24) (Fi h 19 5) g c ((Ar h 22) (((((Ar h 23) g).toNatClampNeg) * 6) + c)) v))], [.ref 19], aset (aset h 21 36 (upd (Ar h 21) (c * 6 + (((Ar h 23) g).toNatClampNeg)) (imax (nI 0) (imin (nI 20) (((Ar h 21) (c * 6 + (((Ar h 23) g).toNatClampNeg))) + (v77 q cc gc (Ar h 24) (Fi h 19 5) g c ((Ar h 22) (((((Ar h 23) g).toNatClampNeg) * 6) + c)) v)))))) 22 36 (upd (Ar h 22) (c * 6 + (((Ar h 23) g).toNatClampNeg)) (imin (nI 9999) (((Ar h 22) (c * 6 + (((Ar h 23) g).toNatClampNeg))) + v))), 198, sl) = some R := hh
      obtain ⟨n, hh⟩ := rn_gr (hc_a rfl rfl (hc_a rfl rfl hw)).wt rfl rfl (by decide) rfl (by decide) (show _ = some (2, ((23 : Nat) : Int), 1) from rfl) rfl hh
      obtain ⟨n, hh⟩ := rn_i rfl rfl rfl rfl hh
      obtain ⟨n, hh⟩ := rn_i rfl rfl rfl rfl hh
      have hh : pm_run PT n fr lo 40 (122, [some (.ref 5), some (.ref 19), some (.int (nI g)), some (.int (nI c)), some (.int v), some (.int (nI (((Ar h 23) g).toNatClampNeg))), some (.int (nI (c * 6 + (((Ar h 23) g).toNatClampNeg)))), some (.int (nI (((((Ar h 23) g).toNatClampNeg) * 6) + c))), some (.int (v77 q cc gc (Ar h 24) (Fi h 19 5) g c ((Ar h 22) (((((Ar h 23) g).toNatClampNeg) * 6) + c)) v))], [.int (nI c), .int (nI g), .ref 23], aset (aset h 21 36 (upd (Ar h 21) (c * 6 + (((Ar h 23) g).toNatClampNeg)) (imax (nI 0) (imin (nI 20) (((Ar h 21) (c * 6 + (((Ar h 23) g).toNatClampNeg))) + (v77 q cc gc (Ar h 24) (Fi h 19 5) g c ((Ar h 22) (((((Ar h 23) g).toNatClampNeg) * 6) + c)) v)))))) 22 36 (upd (Ar h 22) (c * 6 + (((Ar h 23) g).toNatClampNeg)) (imin (nI 9999) (((Ar h 22) (c * 6 + (((Ar h 23) g).toNatClampNeg))) + v))), 198, sl) = some R := hh
      obtain ⟨n, hx16, hh⟩ := en_st (t := g) (f := Ar h 23) (nI_clamp (by omega)) (hc_a rfl rfl (hc_a rfl rfl hw)).wt rfl (by decide) rfl (by decide) ((Ar_n (by decide)).trans ((Ar_n (by decide)).trans rfl)) hh
      obtain ⟨n, hh⟩ := rn_i rfl rfl rfl rfl hh
      have hh : pm_run PT n fr lo 40 (124, [some (.ref 5), some (.ref 19), some (.int (nI g)), some (.int (nI c)), some (.int v), some (.int (nI (((Ar h 23) g).toNatClampNeg))), some (.int (nI (c * 6 + (((Ar h 23) g).toNatClampNeg)))), some (.int (nI (((((Ar h 23) g).toNatClampNeg) * 6) + c))), some (.int (v77 q cc gc (Ar h 24) (Fi h 19 5) g c ((Ar h 22) (((((Ar h 23) g).toNatClampNeg) * 6) + c)) v))], [.ref 19], aset (aset (aset h 21 36 (upd (Ar h 21) (c * 6 + (((Ar h 23) g).toNatClampNeg)) (imax (nI 0) (imin (nI 20) (((Ar h 21) (c * 6 + (((Ar h 23) g).toNatClampNeg))) + (v77 q cc gc (Ar h 24) (Fi h 19 5) g c ((Ar h 22) (((((Ar h 23) g).toNatClampNeg) * 6) + c)) v)))))) 22 36 (upd (Ar h 22) (c * 6 + (((Ar h 23) g).toNatClampNeg)) (imin (nI 9999) (((Ar h 22) (c * 6 + (((Ar h 23) g).toNatClampNeg))) + v)))) 23 8 (upd (Ar h 23) g (nI c)), 198, sl) = some R := hh
      obtain ⟨n, hh⟩ := rn_gr (hc_a rfl rfl (hc_a rfl rfl (hc_a rfl rfl hw))).wt rfl rfl (by decide) rfl (by decide) (show _ = some (2, ((24 : Nat) : Int), 1) from rfl) rfl hh
      obtain ⟨n, hh⟩ := rn_i rfl rfl rfl rfl hh
      obtain ⟨n, hh⟩ := rn_i rfl rfl rfl rfl hh
      have hh : pm_run PT n fr lo 40 (129, [some (.ref 5), some (.ref 19), some (.int (nI g)), some (.int (nI c)), some (.int v), some (.int (nI (((Ar h 23) g).toNatClampNeg))), some (.int (nI (c * 6 + (((Ar h 23) g).toNatClampNeg)))), some (.int (nI (((((Ar h 23) g).toNatClampNeg) * 6) + c))), some (.int (v77 q cc gc (Ar h 24) (Fi h 19 5) g c ((Ar h 22) (((((Ar h 23) g).toNatClampNeg) * 6) + c)) v))], [.int (nI g), .ref 24, .int (nI g), .ref 24], aset (aset (aset h 21 36 (upd (Ar h 21) (c * 6 + (((Ar h 23) g).toNatClampNeg)) (imax (nI 0) (imin (nI 20) (((Ar h 21) (c * 6 + (((Ar h 23) g).toNatClampNeg))) + (v77 q cc gc (Ar h 24) (Fi h 19 5) g c ((Ar h 22) (((((Ar h 23) g).toNatClampNeg) * 6) + c)) v)))))) 22 36 (upd (Ar h 22) (c * 6 + (((Ar h 23) g).toNatClampNeg)) (imin (nI 9999) (((Ar h 22) (c * 6 + (((Ar h 23) g).toNatClampNeg))) + v)))) 23 8 (upd (Ar h 23) g (nI c)), 198, sl) = some R := hh
      obtain ⟨n, hx17, hh⟩ := en_lu (t := g) (f := Ar h 24) (w := (Ar h 24) g) (nI_clamp (by omega)) (hc_a rfl rfl (hc_a rfl rfl (hc_a rfl rfl hw))).wt rfl (by decide) rfl (by decide) ((Ar_n (by decide)).trans ((Ar_n (by decide)).trans ((Ar_n (by decide)).trans rfl))) (fun _ => rfl) hh
      obtain ⟨n, hh⟩ := rn_i rfl rfl rfl rfl hh
      obtain ⟨n, hh⟩ := rn_i rfl rfl rfl rfl hh
      obtain ⟨n, hh⟩ := rn_i rfl rfl rfl rfl hh
      obtain ⟨n, hh⟩ := rn_i rfl rfl rfl rfl hh
      have hh : pm_run PT n fr lo 40 (134, [some (.ref 5), some (.ref 19), some (.int (nI g)), some (.int (nI c)), some (.int v), some (.int (nI (((Ar h 23) g).toNatClampNeg))), some (.int (nI (c * 6 + (((Ar h 23) g).toNatClampNeg)))), some (.int (nI (((((Ar h 23) g).toNatClampNeg) * 6) + c))), some (.int (v77 q cc gc (Ar h 24) (Fi h 19 5) g c ((Ar h 22) (((((Ar h 23) g).toNatClampNeg) * 6) + c)) v))], [.int (((Ar h 24) g) ||| (shl (nI 1) (nI c))), .int (nI g), .ref 24], aset (aset (aset h 21 36 (upd (Ar h 21) (c * 6 + (((Ar h 23) g).toNatClampNeg)) (imax (nI 0) (imin (nI 20) (((Ar h 21) (c * 6 + (((Ar h 23) g).toNatClampNeg))) + (v77 q cc gc (Ar h 24) (Fi h 19 5) g c ((Ar h 22) (((((Ar h 23) g).toNatClampNeg) * 6) + c)) v)))))) 22 36 (upd (Ar h 22) (c * 6 + (((Ar h 23) g).toNatClampNeg)) (imin (nI 9999) (((Ar h 22) (c * 6 + (((Ar h 23) g).toNatClampNeg))) + v)))) 23 8 (upd (Ar h 23) g (nI c)), 198, sl) = some R := hh
      obtain ⟨n, hx18, hh⟩ := en_st (t := g) (f := Ar h 24) (nI_clamp (by omega)) (hc_a rfl rfl (hc_a rfl rfl (hc_a rfl rfl hw))).wt rfl (by decide) rfl (by decide) ((Ar_n (by decide)).trans ((Ar_n (by decide)).trans ((Ar_n (by decide)).trans rfl))) hh
      have er19 : R = (none, aset (aset (aset (aset h 21 36 (upd (Ar h 21) (c * 6 + (((Ar h 23) g).toNatClampNeg)) (imax (nI 0) (imin (nI 20) (((Ar h 21) (c * 6 + (((Ar h 23) g).toNatClampNeg))) + (v77 q cc gc (Ar h 24) (Fi h 19 5) g c ((Ar h 22) (((((Ar h 23) g).toNatClampNeg) * 6) + c)) v)))))) 22 36 (upd (Ar h 22) (c * 6 + (((Ar h 23) g).toNatClampNeg)) (imin (nI 9999) (((Ar h 22) (c * 6 + (((Ar h 23) g).toNatClampNeg))) + v)))) 23 8 (upd (Ar h 23) g (nI c))) 24 8 (upd (Ar h 24) g (((Ar h 24) g) ||| (shl (nI 1) (nI c)))), 198, sl) := rn_vret rfl rfl hh
      have ed : v40t q cc gc h g c v = aset (aset (aset (aset h 21 36 (upd (Ar h 21) (c * 6 + (((Ar h 23) g).toNatClampNeg)) (imax (nI 0) (imin (nI 20) (((Ar h 21) (c * 6 + (((Ar h 23) g).toNatClampNeg))) + (v77 q cc gc (Ar h 24) (Fi h 19 5) g c ((Ar h 22) (((((Ar h 23) g).toNatClampNeg) * 6) + c)) v)))))) 22 36 (upd (Ar h 22) (c * 6 + (((Ar h 23) g).toNatClampNeg)) (imin (nI 9999) (((Ar h 22) (c * 6 + (((Ar h 23) g).toNatClampNeg))) + v)))) 23 8 (upd (Ar h 23) g (nI c))) 24 8 (upd (Ar h 24) g (((Ar h 24) g) ||| (shl (nI 1) (nI c)))) := (ct z11).trans ((ct z13).trans rfl)
      refine ⟨?_, ?_, ?_⟩ <;> rw [ed]
      · exact er19
      · exact (hc_a rfl rfl (hc_a rfl rfl (hc_a rfl rfl (hc_a rfl rfl hw))))
      · exact (fr_a rfl rfl (fr_a rfl rfl (fr_a rfl rfl (fr_a rfl rfl fr_0))))
    | false =>
      have hh := en_f z13 hh
      have hh : pm_run PT n fr lo 40 (82, [some (.ref 5), some (.ref 19), some (.int (nI g)), some (.int (nI c)), some (.int v), some (.int (nI (((Ar h 23) g).toNatClampNeg))), some (.int (nI (c * 6 + (((Ar h 23) g).toNatClampNeg)))), some (.int (nI (((((Ar h 23) g).toNatClampNeg) * 6) + c))), some (.int (v77 q cc gc (Ar h 24) (Fi h 19 5) g c ((Ar h 22) (((((Ar h 23) g).toNatClampNeg) * 6) + c)) v))], [], aset h 21 36 (upd (Ar h 21) (c * 6 + (((Ar h 23) g).toNatClampNeg)) (imax (nI 0) (imin (nI 20) (((Ar h 21) (c * 6 + (((Ar h 23) g).toNatClampNeg))) + (v77 q cc gc (Ar h 24) (Fi h 19 5) g c ((Ar h 22) (((((Ar h 23) g).toNatClampNeg) * 6) + c)) v))))), 198, sl) = some R := hh
      obtain ⟨n, hh⟩ := rn_i rfl rfl rfl rfl hh
      have hh : pm_run PT n fr lo 40 (83, [some (.ref 5), some (.ref 19), some (.int (nI g)), some (.int (nI c)), some (.int v), some (.int (nI (((Ar h 23) g).toNatClampNeg))), some (.int (nI (c * 6 + (((Ar h 23) g).toNatClampNeg)))), some (.int (nI (((((Ar h 23) g).toNatClampNeg) * 6) + c))), some (.int (v77 q cc gc (Ar h 24) (Fi h 19 5) g c ((Ar h 22) (((((Ar h 23) g).toNatClampNeg) * 6) + c)) v))], [.ref 19], aset h 21 36 (upd (Ar h 21) (c * 6 + (((Ar h 23) g).toNatClampNeg)) (imax (nI 0) (imin (nI 20) (((Ar h 21) (c * 6 + (((Ar h 23) g).toNatClampNeg))) + (v77 q cc gc (Ar h 24) (Fi h 19 5) g c ((Ar h 22) (((((Ar h 23) g).toNatClampNeg) * 6) + c)) v))))), 198, sl) = some R := hh
      obtain ⟨n, hh⟩ := rn_gr (hc_a rfl rfl hw).wt rfl rfl (by decide) rfl (by decide) (show _ = some (2, ((22 : Nat) : Int), 1) from rfl) rfl hh
      obtain ⟨n, hh⟩ := rn_i rfl rfl rfl rfl hh
      obtain ⟨n, hh⟩ := rn_i rfl rfl rfl rfl hh
      have hh : pm_run PT n fr lo 40 (89, [some (.ref 5), some (.ref 19), some (.int (nI g)), some (.int (nI c)), some (.int v), some (.int (nI (((Ar h 23) g).toNatClampNeg))), some (.int (nI (c * 6 + (((Ar h 23) g).toNatClampNeg)))), some (.int (nI (((((Ar h 23) g).toNatClampNeg) * 6) + c))), some (.int (v77 q cc gc (Ar h 24) (Fi h 19 5) g c ((Ar h 22) (((((Ar h 23) g).toNatClampNeg) * 6) + c)) v))], [.int (nI 0), .int (nI (((((Ar h 23) g).toNatClampNeg) * 6) + c)), .ref 22], aset h 21 36 (upd (Ar h 21) (c * 6 + (((Ar h 23) g).toNatClampNeg)) (imax (nI 0) (imin (nI 20) (((Ar h 21) (c * 6 + (((Ar h 23) g).toNatClampNeg))) + (v77 q cc gc (Ar h 24) (Fi h 19 5) g c ((Ar h 22) (((((Ar h 23) g).toNatClampNeg) * 6) + c)) v))))), 198, sl) = some R := hh
      obtain ⟨n, hx20, hh⟩ := en_st (t := ((((Ar h 23) g).toNatClampNeg) * 6) + c) (f := Ar h 22) (nI_clamp (by omega)) (hc_a rfl rfl hw).wt rfl (by decide) rfl (by decide) ((Ar_n (by decide)).trans rfl) hh
      obtain ⟨n, hh⟩ := rn_i rfl rfl rfl rfl hh
      obtain ⟨n, hh⟩ := rn_i rfl rfl rfl rfl hh
      have hh : pm_run PT n fr lo 40 (117, [some (.ref 5), some (.ref 19), some (.int (nI g)), some (.int (nI c)), some (.int v), some (.int (nI (((Ar h 23) g).toNatClampNeg))), some (.int (nI (c * 6 + (((Ar h 23) g).toNatClampNeg)))), some (.int (nI (((((Ar h 23) g).toNatClampNeg) * 6) + c))), some (.int (v77 q cc gc (Ar h 24) (Fi h 19 5) g c ((Ar h 22) (((((Ar h 23) g).toNatClampNeg) * 6) + c)) v))], [.ref 19], aset (aset h 21 36 (upd (Ar h 21) (c * 6 + (((Ar h 23) g).toNatClampNeg)) (imax (nI 0) (imin (nI 20) (((Ar h 21) (c * 6 + (((Ar h 23) g).toNatClampNeg))) + (v77 q cc gc (Ar h 24) (Fi h 19 5) g c ((Ar h 22) (((((Ar h 23) g).toNatClampNeg) * 6) + c)) v)))))) 22 36 (upd (Ar h 22) (((((Ar h 23) g).toNatClampNeg) * 6) + c) (nI 0)), 198, sl) = some R := hh
      obtain ⟨n, hh⟩ := rn_gr (hc_a rfl rfl (hc_a rfl rfl hw)).wt rfl rfl (by decide) rfl (by decide) (show _ = some (2, ((23 : Nat) : Int), 1) from rfl) rfl hh
      obtain ⟨n, hh⟩ := rn_i rfl rfl rfl rfl hh
      obtain ⟨n, hh⟩ := rn_i rfl rfl rfl rfl hh
      have hh : pm_run PT n fr lo 40 (122, [some (.ref 5), some (.ref 19), some (.int (nI g)), some (.int (nI c)), some (.int v), some (.int (nI (((Ar h 23) g).toNatClampNeg))), some (.int (nI (c * 6 + (((Ar h 23) g).toNatClampNeg)))), some (.int (nI (((((Ar h 23) g).toNatClampNeg) * 6) + c))), some (.int (v77 q cc gc (Ar h 24) (Fi h 19 5) g c ((Ar h 22) (((((Ar h 23) g).toNatClampNeg) * 6) + c)) v))], [.int (nI c), .int (nI g), .ref 23], aset (aset h 21 36 (upd (Ar h 21) (c * 6 + (((Ar h 23) g).toNatClampNeg)) (imax (nI 0) (imin (nI 20) (((Ar h 21) (c * 6 + (((Ar h 23) g).toNatClampNeg))) + (v77 q cc gc (Ar h 24) (Fi h 19 5) g c ((Ar h 22) (((((Ar h 23) g).toNatClampNeg) * 6) + c)) v)))))) 22 36 (upd (Ar h 22) (((((Ar h 23) g).toNatClampNeg) * 6) + c) (nI 0)), 198, sl) = some R := hh
      obtain ⟨n, hx21, hh⟩ := en_st (t := g) (f := Ar h 23) (nI_clamp (by omega)) (hc_a rfl rfl (hc_a rfl rfl hw)).wt rfl (by decide) rfl (by decide) ((Ar_n (by decide)).trans ((Ar_n (by decide)).trans rfl)) hh
      obtain ⟨n, hh⟩ := rn_i rfl rfl rfl rfl hh
      have hh : pm_run PT n fr lo 40 (124, [some (.ref 5), some (.ref 19), some (.int (nI g)), some (.int (nI c)), some (.int v), some (.int (nI (((Ar h 23) g).toNatClampNeg))), some (.int (nI (c * 6 + (((Ar h 23) g).toNatClampNeg)))), some (.int (nI (((((Ar h 23) g).toNatClampNeg) * 6) + c))), some (.int (v77 q cc gc (Ar h 24) (Fi h 19 5) g c ((Ar h 22) (((((Ar h 23) g).toNatClampNeg) * 6) + c)) v))], [.ref 19], aset (aset (aset h 21 36 (upd (Ar h 21) (c * 6 + (((Ar h 23) g).toNatClampNeg)) (imax (nI 0) (imin (nI 20) (((Ar h 21) (c * 6 + (((Ar h 23) g).toNatClampNeg))) + (v77 q cc gc (Ar h 24) (Fi h 19 5) g c ((Ar h 22) (((((Ar h 23) g).toNatClampNeg) * 6) + c)) v)))))) 22 36 (upd (Ar h 22) (((((Ar h 23) g).toNatClampNeg) * 6) + c) (nI 0))) 23 8 (upd (Ar h 23) g (nI c)), 198, sl) = some R := hh
      obtain ⟨n, hh⟩ := rn_gr (hc_a rfl rfl (hc_a rfl rfl (hc_a rfl rfl hw))).wt rfl rfl (by decide) rfl (by decide) (show _ = some (2, ((24 : Nat) : Int), 1) from rfl) rfl hh
      obtain ⟨n, hh⟩ := rn_i rfl rfl rfl rfl hh
      obtain ⟨n, hh⟩ := rn_i rfl rfl rfl rfl hh
      have hh : pm_run PT n fr lo 40 (129, [some (.ref 5), some (.ref 19), some (.int (nI g)), some (.int (nI c)), some (.int v), some (.int (nI (((Ar h 23) g).toNatClampNeg))), some (.int (nI (c * 6 + (((Ar h 23) g).toNatClampNeg)))), some (.int (nI (((((Ar h 23) g).toNatClampNeg) * 6) + c))), some (.int (v77 q cc gc (Ar h 24) (Fi h 19 5) g c ((Ar h 22) (((((Ar h 23) g).toNatClampNeg) * 6) + c)) v))], [.int (nI g), .ref 24, .int (nI g), .ref 24], aset (aset (aset h 21 36 (upd (Ar h 21) (c * 6 + (((Ar h 23) g).toNatClampNeg)) (imax (nI 0) (imin (nI 20) (((Ar h 21) (c * 6 + (((Ar h 23) g).toNatClampNeg))) + (v77 q cc gc (Ar h 24) (Fi h 19 5) g c ((Ar h 22) (((((Ar h 23) g).toNatClampNeg) * 6) + c)) v)))))) 22 36 (upd (Ar h 22) (((((Ar h 23) g).toNatClampNeg) * 6) + c) (nI 0))) 23 8 (upd (Ar h 23) g (nI c)), 198, sl) = some R := hh
      obtain ⟨n, hx22, hh⟩ := en_lu (t := g) (f := Ar h 24) (w := (Ar h 24) g) (nI_clamp (by omega)) (hc_a rfl rfl (hc_a rfl rfl (hc_a rfl rfl hw))).wt rfl (by decide) rfl (by decide) ((Ar_n (by decide)).trans ((Ar_n (by decide)).trans ((Ar_n (by decide)).trans rfl))) (fun _ => rfl) hh
      obtain ⟨n, hh⟩ := rn_i rfl rfl rfl rfl hh
      obtain ⟨n, hh⟩ := rn_i rfl rfl rfl rfl hh
      obtain ⟨n, hh⟩ := rn_i rfl rfl rfl rfl hh
      obtain ⟨n, hh⟩ := rn_i rfl rfl rfl rfl hh
      have hh : pm_run PT n fr lo 40 (134, [some (.ref 5), some (.ref 19), some (.int (nI g)), some (.int (nI c)), some (.int v), some (.int (nI (((Ar h 23) g).toNatClampNeg))), some (.int (nI (c * 6 + (((Ar h 23) g).toNatClampNeg)))), some (.int (nI (((((Ar h 23) g).toNatClampNeg) * 6) + c))), some (.int (v77 q cc gc (Ar h 24) (Fi h 19 5) g c ((Ar h 22) (((((Ar h 23) g).toNatClampNeg) * 6) + c)) v))], [.int (((Ar h 24) g) ||| (shl (nI 1) (nI c))), .int (nI g), .ref 24], aset (aset (aset h 21 36 (upd (Ar h 21) (c * 6 + (((Ar h 23) g).toNatClampNeg)) (imax (nI 0) (imin (nI 20) (((Ar h 21) (c * 6 + (((Ar h 23) g).toNatClampNeg))) + (v77 q cc gc (Ar h 24) (Fi h 19 5) g c ((Ar h 22) (((((Ar h 23) g).toNatClampNeg) * 6) + c)) v)))))) 22 36 (upd (Ar h 22) (((((Ar h 23) g).toNatClampNeg) * 6) + c) (nI 0))) 23 8 (upd (Ar h 23) g (nI c)), 198, sl) = some R := hh
      obtain ⟨n, hx23, hh⟩ := en_st (t := g) (f := Ar h 24) (nI_clamp (by omega)) (hc_a rfl rfl (hc_a rfl rfl (hc_a rfl rfl hw))).wt rfl (by decide) rfl (by decide) ((Ar_n (by decide)).trans ((Ar_n (by decide)).trans ((Ar_n (by decide)).trans rfl))) hh
      have er24 : R = (none, aset (aset (aset (aset h 21 36 (upd (Ar h 21) (c * 6 + (((Ar h 23) g).toNatClampNeg)) (imax (nI 0) (imin (nI 20) (((Ar h 21) (c * 6 + (((Ar h 23) g).toNatClampNeg))) + (v77 q cc gc (Ar h 24) (Fi h 19 5) g c ((Ar h 22) (((((Ar h 23) g).toNatClampNeg) * 6) + c)) v)))))) 22 36 (upd (Ar h 22) (((((Ar h 23) g).toNatClampNeg) * 6) + c) (nI 0))) 23 8 (upd (Ar h 23) g (nI c))) 24 8 (upd (Ar h 24) g (((Ar h 24) g) ||| (shl (nI 1) (nI c)))), 198, sl) := rn_vret rfl rfl hh
      have ed : v40t q cc gc h g c v = aset (aset (aset (aset h 21 36 (upd (Ar h 21) (c * 6 + (((Ar h 23) g).toNatClampNeg)) (imax (nI 0) (imin (nI 20) (((Ar h 21) (c * 6 + (((Ar h 23) g).toNatClampNeg))) + (v77 q cc gc (Ar h 24) (Fi h 19 5) g c ((Ar h 22) (((((Ar h 23) g).toNatClampNeg) * 6) + c)) v)))))) 22 36 (upd (Ar h 22) (((((Ar h 23) g).toNatClampNeg) * 6) + c) (nI 0))) 23 8 (upd (Ar h 23) g (nI c))) 24 8 (upd (Ar h 24) g (((Ar h 24) g) ||| (shl (nI 1) (nI c)))) := (ct z11).trans ((cf z13).trans rfl)
      refine ⟨?_, ?_, ?_⟩ <;> rw [ed]
      · exact er24
      · exact (hc_a rfl rfl (hc_a rfl rfl (hc_a rfl rfl (hc_a rfl rfl hw))))
      · exact (fr_a rfl rfl (fr_a rfl rfl (fr_a rfl rfl (fr_a rfl rfl fr_0))))
  | false =>
    have hh := en_nf z11 hh
    have hh : pm_run PT n fr lo 40 (116, [some (.ref 5), some (.ref 19), some (.int (nI g)), some (.int (nI c)), some (.int v), some (.int (nI (((Ar h 23) g).toNatClampNeg))), some (.int (nI (c * 6 + (((Ar h 23) g).toNatClampNeg)))), some (.int (nI (((((Ar h 23) g).toNatClampNeg) * 6) + c))), some (.int (v77 q cc gc (Ar h 24) (Fi h 19 5) g c ((Ar h 22) (((((Ar h 23) g).toNatClampNeg) * 6) + c)) v))], [], aset h 21 36 (upd (Ar h 21) (c * 6 + (((Ar h 23) g).toNatClampNeg)) (imax (nI 0) (imin (nI 20) (((Ar h 21) (c * 6 + (((Ar h 23) g).toNatClampNeg))) + (v77 q cc gc (Ar h 24) (Fi h 19 5) g c ((Ar h 22) (((((Ar h 23) g).toNatClampNeg) * 6) + c)) v))))), 198, sl) = some R := hh
    obtain ⟨n, hh⟩ := rn_i rfl rfl rfl rfl hh
    have hh : pm_run PT n fr lo 40 (117, [some (.ref 5), some (.ref 19), some (.int (nI g)), some (.int (nI c)), some (.int v), some (.int (nI (((Ar h 23) g).toNatClampNeg))), some (.int (nI (c * 6 + (((Ar h 23) g).toNatClampNeg)))), some (.int (nI (((((Ar h 23) g).toNatClampNeg) * 6) + c))), some (.int (v77 q cc gc (Ar h 24) (Fi h 19 5) g c ((Ar h 22) (((((Ar h 23) g).toNatClampNeg) * 6) + c)) v))], [.ref 19], aset h 21 36 (upd (Ar h 21) (c * 6 + (((Ar h 23) g).toNatClampNeg)) (imax (nI 0) (imin (nI 20) (((Ar h 21) (c * 6 + (((Ar h 23) g).toNatClampNeg))) + (v77 q cc gc (Ar h 24) (Fi h 19 5) g c ((Ar h 22) (((((Ar h 23) g).toNatClampNeg) * 6) + c)) v))))), 198, sl) = some R := hh
    obtain ⟨n, hh⟩ := rn_gr (hc_a rfl rfl hw).wt rfl rfl (by decide) rfl (by decide) (show _ = some (2, ((23 : Nat) : Int), 1) from rfl) rfl hh
    obtain ⟨n, hh⟩ := rn_i rfl rfl rfl rfl hh
    obtain ⟨n, hh⟩ := rn_i rfl rfl rfl rfl hh
    have hh : pm_run PT n fr lo 40 (122, [some (.ref 5), some (.ref 19), some (.int (nI g)), some (.int (nI c)), some (.int v), some (.int (nI (((Ar h 23) g).toNatClampNeg))), some (.int (nI (c * 6 + (((Ar h 23) g).toNatClampNeg)))), some (.int (nI (((((Ar h 23) g).toNatClampNeg) * 6) + c))), some (.int (v77 q cc gc (Ar h 24) (Fi h 19 5) g c ((Ar h 22) (((((Ar h 23) g).toNatClampNeg) * 6) + c)) v))], [.int (nI c), .int (nI g), .ref 23], aset h 21 36 (upd (Ar h 21) (c * 6 + (((Ar h 23) g).toNatClampNeg)) (imax (nI 0) (imin (nI 20) (((Ar h 21) (c * 6 + (((Ar h 23) g).toNatClampNeg))) + (v77 q cc gc (Ar h 24) (Fi h 19 5) g c ((Ar h 22) (((((Ar h 23) g).toNatClampNeg) * 6) + c)) v))))), 198, sl) = some R := hh
    obtain ⟨n, hx25, hh⟩ := en_st (t := g) (f := Ar h 23) (nI_clamp (by omega)) (hc_a rfl rfl hw).wt rfl (by decide) rfl (by decide) ((Ar_n (by decide)).trans rfl) hh
    obtain ⟨n, hh⟩ := rn_i rfl rfl rfl rfl hh
    have hh : pm_run PT n fr lo 40 (124, [some (.ref 5), some (.ref 19), some (.int (nI g)), some (.int (nI c)), some (.int v), some (.int (nI (((Ar h 23) g).toNatClampNeg))), some (.int (nI (c * 6 + (((Ar h 23) g).toNatClampNeg)))), some (.int (nI (((((Ar h 23) g).toNatClampNeg) * 6) + c))), some (.int (v77 q cc gc (Ar h 24) (Fi h 19 5) g c ((Ar h 22) (((((Ar h 23) g).toNatClampNeg) * 6) + c)) v))], [.ref 19], aset (aset h 21 36 (upd (Ar h 21) (c * 6 + (((Ar h 23) g).toNatClampNeg)) (imax (nI 0) (imin (nI 20) (((Ar h 21) (c * 6 + (((Ar h 23) g).toNatClampNeg))) + (v77 q cc gc (Ar h 24) (Fi h 19 5) g c ((Ar h 22) (((((Ar h 23) g).toNatClampNeg) * 6) + c)) v)))))) 23 8 (upd (Ar h 23) g (nI c)), 198, sl) = some R := hh
    obtain ⟨n, hh⟩ := rn_gr (hc_a rfl rfl (hc_a rfl rfl hw)).wt rfl rfl (by decide) rfl (by decide) (show _ = some (2, ((24 : Nat) : Int), 1) from rfl) rfl hh
    obtain ⟨n, hh⟩ := rn_i rfl rfl rfl rfl hh
    obtain ⟨n, hh⟩ := rn_i rfl rfl rfl rfl hh
    have hh : pm_run PT n fr lo 40 (129, [some (.ref 5), some (.ref 19), some (.int (nI g)), some (.int (nI c)), some (.int v), some (.int (nI (((Ar h 23) g).toNatClampNeg))), some (.int (nI (c * 6 + (((Ar h 23) g).toNatClampNeg)))), some (.int (nI (((((Ar h 23) g).toNatClampNeg) * 6) + c))), some (.int (v77 q cc gc (Ar h 24) (Fi h 19 5) g c ((Ar h 22) (((((Ar h 23) g).toNatClampNeg) * 6) + c)) v))], [.int (nI g), .ref 24, .int (nI g), .ref 24], aset (aset h 21 36 (upd (Ar h 21) (c * 6 + (((Ar h 23) g).toNatClampNeg)) (imax (nI 0) (imin (nI 20) (((Ar h 21) (c * 6 + (((Ar h 23) g).toNatClampNeg))) + (v77 q cc gc (Ar h 24) (Fi h 19 5) g c ((Ar h 22) (((((Ar h 23) g).toNatClampNeg) * 6) + c)) v)))))) 23 8 (upd (Ar h 23) g (nI c)), 198, sl) = some R := hh
    obtain ⟨n, hx26, hh⟩ := en_lu (t := g) (f := Ar h 24) (w := (Ar h 24) g) (nI_clamp (by omega)) (hc_a rfl rfl (hc_a rfl rfl hw)).wt rfl (by decide) rfl (by decide) ((Ar_n (by decide)).trans ((Ar_n (by decide)).trans rfl)) (fun _ => rfl) hh
    obtain ⟨n, hh⟩ := rn_i rfl rfl rfl rfl hh
    obtain ⟨n, hh⟩ := rn_i rfl rfl rfl rfl hh
    obtain ⟨n, hh⟩ := rn_i rfl rfl rfl rfl hh
    obtain ⟨n, hh⟩ := rn_i rfl rfl rfl rfl hh
    have hh : pm_run PT n fr lo 40 (134, [some (.ref 5), some (.ref 19), some (.int (nI g)), some (.int (nI c)), some (.int v), some (.int (nI (((Ar h 23) g).toNatClampNeg))), some (.int (nI (c * 6 + (((Ar h 23) g).toNatClampNeg)))), some (.int (nI (((((Ar h 23) g).toNatClampNeg) * 6) + c))), some (.int (v77 q cc gc (Ar h 24) (Fi h 19 5) g c ((Ar h 22) (((((Ar h 23) g).toNatClampNeg) * 6) + c)) v))], [.int (((Ar h 24) g) ||| (shl (nI 1) (nI c))), .int (nI g), .ref 24], aset (aset h 21 36 (upd (Ar h 21) (c * 6 + (((Ar h 23) g).toNatClampNeg)) (imax (nI 0) (imin (nI 20) (((Ar h 21) (c * 6 + (((Ar h 23) g).toNatClampNeg))) + (v77 q cc gc (Ar h 24) (Fi h 19 5) g c ((Ar h 22) (((((Ar h 23) g).toNatClampNeg) * 6) + c)) v)))))) 23 8 (upd (Ar h 23) g (nI c)), 198, sl) = some R := hh
    obtain ⟨n, hx27, hh⟩ := en_st (t := g) (f := Ar h 24) (nI_clamp (by omega)) (hc_a rfl rfl (hc_a rfl rfl hw)).wt rfl (by decide) rfl (by decide) ((Ar_n (by decide)).trans ((Ar_n (by decide)).trans rfl)) hh
    have er28 : R = (none, aset (aset (aset h 21 36 (upd (Ar h 21) (c * 6 + (((Ar h 23) g).toNatClampNeg)) (imax (nI 0) (imin (nI 20) (((Ar h 21) (c * 6 + (((Ar h 23) g).toNatClampNeg))) + (v77 q cc gc (Ar h 24) (Fi h 19 5) g c ((Ar h 22) (((((Ar h 23) g).toNatClampNeg) * 6) + c)) v)))))) 23 8 (upd (Ar h 23) g (nI c))) 24 8 (upd (Ar h 24) g (((Ar h 24) g) ||| (shl (nI 1) (nI c)))), 198, sl) := rn_vret rfl rfl hh
    have ed : v40t q cc gc h g c v = aset (aset (aset h 21 36 (upd (Ar h 21) (c * 6 + (((Ar h 23) g).toNatClampNeg)) (imax (nI 0) (imin (nI 20) (((Ar h 21) (c * 6 + (((Ar h 23) g).toNatClampNeg))) + (v77 q cc gc (Ar h 24) (Fi h 19 5) g c ((Ar h 22) (((((Ar h 23) g).toNatClampNeg) * 6) + c)) v)))))) 23 8 (upd (Ar h 23) g (nI c))) 24 8 (upd (Ar h 24) g (((Ar h 24) g) ||| (shl (nI 1) (nI c)))) := (cf z11).trans rfl
    refine ⟨?_, ?_, ?_⟩ <;> rw [ed]
    · exact er28
    · exact (hc_a rfl rfl (hc_a rfl rfl (hc_a rfl rfl hw)))
    · exact (fr_a rfl rfl (fr_a rfl rfl (fr_a rfl rfl fr_0)))
def v53 (q : QT) (cc gc : Nat) (h : pm_H) : pm_H := fset h 3 1 (.int (nI 0))
theorem v53_ok {n fr lo sl cc gc : Nat} {q : QT} {h : pm_H} {R : pm_Rs} (hw : HC q cc gc h) (hh : pm_run PT n fr lo 53 (0, pm_l0 [.ref 3] 1, [], h, 198, sl) = some R) : R = (none, v53 q cc gc h, 198, sl) ∧ HC q cc gc (v53 q cc gc h) ∧ frm [3] [(3, 1)] h (v53 q cc gc h) := by
  have hcc := hw.cb
  have hgc := hw.gb
  have hzr := hw.zr
  obtain ⟨n, hh⟩ := rn_i rfl rfl rfl rfl hh
  obtain ⟨n, hh⟩ := rn_i rfl rfl rfl rfl hh
  have hh : pm_run PT n fr lo 53 (2, [some (.ref 3)], [.int (nI 0), .ref 3], h, 198, sl) = some R := hh
  obtain ⟨n, hh⟩ := rn_pi hw.wt rfl rfl (by decide) rfl (by decide) rfl hh
  have er1 : R = (none, fset h 3 1 (.int (nI 0)), 198, sl) := rn_vret rfl rfl hh
  have ed : v53 q cc gc h = fset h 3 1 (.int (nI 0)) := rfl
  refine ⟨?_, ?_, ?_⟩ <;> rw [ed]
  · exact er1
  · exact (hc_f rfl rfl (by decide) rfl hw)
  · exact (fr_f rfl rfl fr_0)
theorem v53_fr {cc gc : Nat} {q : QT} {h : pm_H} (hw : HC q cc gc h) : HC q cc gc (v53 q cc gc h) ∧ frm [3] [(3, 1)] h (v53 q cc gc h) := by
  unfold v53
  show HC q cc gc (fset h 3 1 (.int (nI 0))) ∧ frm [3] [(3, 1)] h (fset h 3 1 (.int (nI 0)))
  exact ⟨(hc_f rfl rfl (by decide) rfl hw), (fr_f rfl rfl fr_0)⟩
def v54 (q : QT) (cc gc : Nat) (h : pm_H) (v : Int64) : pm_H := cond (pm_cmp .ge (Fi h 3 1) (nI 8)) h (fset (lset h 4 8 (vp_updL (Al h 4) ((Fi h 3 1).toNatClampNeg) v)) 3 1 (.int ((Fi h 3 1) + (nI 1))))
theorem v54_ok {n fr lo sl cc gc : Nat} {q : QT} {h : pm_H} {R : pm_Rs} {v : Int64} (hw : HC q cc gc h) (hh : pm_run PT n fr lo 54 (0, pm_l0 [.ref 3, .long v] 3, [], h, 198, sl) = some R) : R = (none, v54 q cc gc h v, 198, sl) ∧ HC q cc gc (v54 q cc gc h v) ∧ frm [3, 4] [(3, 1)] h (v54 q cc gc h v) := by
  have hcc := hw.cb
  have hgc := hw.gb
  have hzr := hw.zr
  obtain ⟨n, hh⟩ := rn_i rfl rfl rfl rfl hh
  have hh : pm_run PT n fr lo 54 (1, [some (.ref 3), some (.long v), none], [.ref 3], h, 198, sl) = some R := hh
  obtain ⟨n, hh⟩ := rn_gi (x := Fi h 3 1) hw.wt rfl rfl (by decide) rfl (by decide) rfl rfl hh
  obtain ⟨n, hh⟩ := rn_i rfl rfl rfl rfl hh
  have hh : pm_run PT n fr lo 54 (6, [some (.ref 3), some (.long v), none], [.int (nI 8), .int (Fi h 3 1)], h, 198, sl) = some R := hh
  obtain ⟨n, hh⟩ := en_cn (cc := .ge) (off := 23) (t := 29) (b := pm_cmp .ge (Fi h 3 1) (nI 8)) rfl rfl rfl hh
  cases z1 : pm_cmp .ge (Fi h 3 1) (nI 8) with
  | true =>
    have hh := en_t z1 hh
    have hh : pm_run PT n fr lo 54 (29, [some (.ref 3), some (.long v), none], [], h, 198, sl) = some R := hh
    have er2 : R = (none, h, 198, sl) := rn_vret rfl rfl hh
    have ed : v54 q cc gc h v = h := (ct z1).trans rfl
    refine ⟨?_, ?_, ?_⟩ <;> rw [ed]
    · exact er2
    · exact hw
    · exact fr_0
  | false =>
    have hh := en_f z1 hh
    have hh : pm_run PT n fr lo 54 (9, [some (.ref 3), some (.long v), none], [], h, 198, sl) = some R := hh
    obtain ⟨n, hh⟩ := rn_i rfl rfl rfl rfl hh
    have hh : pm_run PT n fr lo 54 (10, [some (.ref 3), some (.long v), none], [.ref 3], h, 198, sl) = some R := hh
    obtain ⟨n, hh⟩ := rn_gr hw.wt rfl rfl (by decide) rfl (by decide) (show _ = some (2, ((4 : Nat) : Int), 1) from rfl) rfl hh
    obtain ⟨n, hh⟩ := rn_i rfl rfl rfl rfl hh
    have hh : pm_run PT n fr lo 54 (14, [some (.ref 3), some (.long v), none], [.ref 3, .ref 4], h, 198, sl) = some R := hh
    obtain ⟨n, hh⟩ := rn_gi (x := Fi h 3 1) hw.wt rfl rfl (by decide) rfl (by decide) rfl rfl hh
    obtain ⟨n, hh⟩ := rn_i rfl rfl rfl rfl hh
    have hh : pm_run PT n fr lo 54 (18, [some (.ref 3), some (.long v), none], [.long v, .int (Fi h 3 1), .ref 4], h, 198, sl) = some R := hh
    obtain ⟨n, hx3, hh⟩ := en_lst (t := (Fi h 3 1).toNatClampNeg) (f := Al h 4) rfl hw.wt rfl (by decide) rfl (by decide) rfl hh
    obtain ⟨n, hh⟩ := rn_i rfl rfl rfl rfl hh
    obtain ⟨n, hh⟩ := rn_i rfl rfl rfl rfl hh
    have hh : pm_run PT n fr lo 54 (21, [some (.ref 3), some (.long v), none], [.ref 3, .ref 3], lset h 4 8 (vp_updL (Al h 4) ((Fi h 3 1).toNatClampNeg) v), 198, sl) = some R := hh
    obtain ⟨n, hh⟩ := rn_gi (x := Fi h 3 1) (hc_l rfl rfl hw).wt rfl rfl (by decide) rfl (by decide) rfl ((Fi_e (ls_ne (by decide))).trans rfl) hh
    obtain ⟨n, hh⟩ := rn_i rfl rfl rfl rfl hh
    obtain ⟨n, hh⟩ := rn_i rfl rfl rfl rfl hh
    have hh : pm_run PT n fr lo 54 (26, [some (.ref 3), some (.long v), none], [.int ((Fi h 3 1) + (nI 1)), .ref 3], lset h 4 8 (vp_updL (Al h 4) ((Fi h 3 1).toNatClampNeg) v), 198, sl) = some R := hh
    obtain ⟨n, hh⟩ := rn_pi (hc_l rfl rfl hw).wt rfl rfl (by decide) rfl (by decide) rfl hh
    have er4 : R = (none, fset (lset h 4 8 (vp_updL (Al h 4) ((Fi h 3 1).toNatClampNeg) v)) 3 1 (.int ((Fi h 3 1) + (nI 1))), 198, sl) := rn_vret rfl rfl hh
    have ed : v54 q cc gc h v = fset (lset h 4 8 (vp_updL (Al h 4) ((Fi h 3 1).toNatClampNeg) v)) 3 1 (.int ((Fi h 3 1) + (nI 1))) := (cf z1).trans rfl
    refine ⟨?_, ?_, ?_⟩ <;> rw [ed]
    · exact er4
    · exact (hc_f rfl rfl (by decide) rfl (hc_l rfl rfl hw))
    · exact (fr_f rfl rfl (fr_l rfl rfl fr_0))
theorem v54_fr {cc gc : Nat} {q : QT} {h : pm_H} {v : Int64} (hw : HC q cc gc h) : HC q cc gc (v54 q cc gc h v) ∧ frm [3, 4] [(3, 1)] h (v54 q cc gc h v) := by
  unfold v54
  refine cd_s (P := fun (p : pm_H) => HC q cc gc (p) ∧ frm [3, 4] [(3, 1)] h (p)) (b := pm_cmp .ge (Fi h 3 1) (nI 8)) (fun _ => ?_) (fun _ => ?_)
  · show HC q cc gc (h) ∧ frm [3, 4] [(3, 1)] h (h)
    exact ⟨hw, fr_0⟩
  · show HC q cc gc (fset (lset h 4 8 (vp_updL (Al h 4) ((Fi h 3 1).toNatClampNeg) v)) 3 1 (.int ((Fi h 3 1) + (nI 1)))) ∧ frm [3, 4] [(3, 1)] h (fset (lset h 4 8 (vp_updL (Al h 4) ((Fi h 3 1).toNatClampNeg) v)) 3 1 (.int ((Fi h 3 1) + (nI 1))))
    exact ⟨(hc_f rfl rfl (by decide) rfl (hc_l rfl rfl hw)), (fr_f rfl rfl (fr_l rfl rfl fr_0))⟩
def v55 (q : QT) (cc gc : Nat) (h : pm_H) (v : Int64) : pm_H := v54 q cc gc (v53 q cc gc h) v
theorem v55_ok {n fr lo sl cc gc : Nat} {q : QT} {h : pm_H} {R : pm_Rs} {v : Int64} (hw : HC q cc gc h) (hh : pm_run PT n fr lo 55 (0, pm_l0 [.ref 3, .long v] 3, [], h, 198, sl) = some R) : R = (none, v55 q cc gc h v, 198, sl) ∧ HC q cc gc (v55 q cc gc h v) ∧ frm [3, 4] [(3, 1)] h (v55 q cc gc h v) := by
  have hcc := hw.cb
  have hgc := hw.gb
  have hzr := hw.zr
  obtain ⟨n, hh⟩ := rn_i rfl rfl rfl rfl hh
  have hh : pm_run PT n fr lo 55 (1, [some (.ref 3), some (.long v), none], [.ref 3], h, 198, sl) = some R := hh
  obtain ⟨n, fr1, lo1, r1, hh1, hh⟩ := rn_call (w := 0) (t := 53) rfl rfl hh
  obtain ⟨er1, hc2, hf3⟩ := v53_ok hw hh1
  subst er1
  obtain ⟨n, hh⟩ := rn_i rfl rfl rfl rfl hh
  obtain ⟨n, hh⟩ := rn_i rfl rfl rfl rfl hh
  have hh : pm_run PT n fr lo 55 (6, [some (.ref 3), some (.long v), none], [.long v, .ref 3], v53 q cc gc h, 198, sl) = some R := hh
  obtain ⟨n, fr1, lo1, r1, hh1, hh⟩ := rn_call (w := 0) (t := 54) rfl rfl hh
  obtain ⟨er4, hc5, hf6⟩ := v54_ok (v := v) hc2 hh1
  subst er4
  have er7 : R = (none, v54 q cc gc (v53 q cc gc h) v, 198, sl) := rn_vret rfl rfl hh
  have ed : v55 q cc gc h v = v54 q cc gc (v53 q cc gc h) v := rfl
  refine ⟨?_, ?_, ?_⟩ <;> rw [ed]
  · exact er7
  · exact hc5
  · exact (fr_g rfl rfl hf6 (fr_g rfl rfl hf3 fr_0))
def v56 (q : QT) (cc gc : Nat) (h : pm_H) (v : Int64) (w : Int64) : pm_H := v54 q cc gc (v54 q cc gc (v53 q cc gc h) v) w
theorem v56_ok {n fr lo sl cc gc : Nat} {q : QT} {h : pm_H} {R : pm_Rs} {v : Int64} {w : Int64} (hw : HC q cc gc h) (hh : pm_run PT n fr lo 56 (0, pm_l0 [.ref 3, .long v, .long w] 5, [], h, 198, sl) = some R) : R = (none, v56 q cc gc h v w, 198, sl) ∧ HC q cc gc (v56 q cc gc h v w) ∧ frm [3, 4] [(3, 1)] h (v56 q cc gc h v w) := by
  have hcc := hw.cb
  have hgc := hw.gb
  have hzr := hw.zr
  obtain ⟨n, hh⟩ := rn_i rfl rfl rfl rfl hh
  have hh : pm_run PT n fr lo 56 (1, [some (.ref 3), some (.long v), none, some (.long w), none], [.ref 3], h, 198, sl) = some R := hh
  obtain ⟨n, fr1, lo1, r1, hh1, hh⟩ := rn_call (w := 0) (t := 53) rfl rfl hh
  obtain ⟨er1, hc2, hf3⟩ := v53_ok hw hh1
  subst er1
  obtain ⟨n, hh⟩ := rn_i rfl rfl rfl rfl hh
  obtain ⟨n, hh⟩ := rn_i rfl rfl rfl rfl hh
  have hh : pm_run PT n fr lo 56 (6, [some (.ref 3), some (.long v), none, some (.long w), none], [.long v, .ref 3], v53 q cc gc h, 198, sl) = some R := hh
  obtain ⟨n, fr1, lo1, r1, hh1, hh⟩ := rn_call (w := 0) (t := 54) rfl rfl hh
  obtain ⟨er4, hc5, hf6⟩ := v54_ok (v := v) hc2 hh1
  subst er4
  obtain ⟨n, hh⟩ := rn_i rfl rfl rfl rfl hh
  obtain ⟨n, hh⟩ := rn_i rfl rfl rfl rfl hh
  have hh : pm_run PT n fr lo 56 (11, [some (.ref 3), some (.long v), none, some (.long w), none], [.long w, .ref 3], v54 q cc gc (v53 q cc gc h) v, 198, sl) = some R := hh
  obtain ⟨n, fr1, lo1, r1, hh1, hh⟩ := rn_call (w := 0) (t := 54) rfl rfl hh
  obtain ⟨er7, hc8, hf9⟩ := v54_ok (v := w) hc5 hh1
  subst er7
  have er10 : R = (none, v54 q cc gc (v54 q cc gc (v53 q cc gc h) v) w, 198, sl) := rn_vret rfl rfl hh
  have ed : v56 q cc gc h v w = v54 q cc gc (v54 q cc gc (v53 q cc gc h) v) w := rfl
  refine ⟨?_, ?_, ?_⟩ <;> rw [ed]
  · exact er10
  · exact hc8
  · exact (fr_g rfl rfl hf9 (fr_g rfl rfl hf6 (fr_g rfl rfl hf3 fr_0)))
theorem v56_fr {cc gc : Nat} {q : QT} {h : pm_H} {v : Int64} {w : Int64} (hw : HC q cc gc h) : HC q cc gc (v56 q cc gc h v w) ∧ frm [3, 4] [(3, 1)] h (v56 q cc gc h v w) := by
  unfold v56
  show HC q cc gc (v54 q cc gc (v54 q cc gc (v53 q cc gc h) v) w) ∧ frm [3, 4] [(3, 1)] h (v54 q cc gc (v54 q cc gc (v53 q cc gc h) v) w)
  exact ⟨(v54_fr (v := w) (v54_fr (v := v) (v53_fr hw).1).1).1, (fr_g rfl rfl (v54_fr (v := w) (v54_fr (v := v) (v53_fr hw).1).1).2 (fr_g rfl rfl (v54_fr (v := v) (v53_fr hw).1).2 (fr_g rfl rfl (v53_fr hw).2 fr_0)))⟩
def v9_4b (q : QT) (cc gc : Nat) (d0 : Nat → Int32) (i : Nat) (x2 : Int32) : Int32 := x2 + (v7 q cc gc (d0) i)
def v9_4 (q : QT) (cc gc : Nat) (d0 : Nat → Int32) (j i : Nat) (a : Int32) : Int32 := lp (fun i a => v9_4b q cc gc d0 i a) j i a
def v9 (q : QT) (cc gc : Nat) (d0 : Nat → Int32) : Int32 := (v9_4 q cc gc (d0) cc 0 (nI 0))
def v38_4b (q : QT) (cc gc : Nat) (d0 : Nat → Int32) (i : Nat) (x2 : Int32) : Int32 := x2 + (v37 q cc gc (d0) i)
def v38_4 (q : QT) (cc gc : Nat) (d0 : Nat → Int32) (j i : Nat) (a : Int32) : Int32 := lp (fun i a => v38_4b q cc gc d0 i a) j i a
def v38 (q : QT) (cc gc : Nat) (d0 : Nat → Int32) : Int32 := (v38_4 q cc gc (d0) cc 0 (nI 0))
theorem v37t_5_e {n fr lo sl cc gc : Nat} {q : QT} {h : pm_H} {R : pm_Rs} {m2 : Nat} {i : Nat} {x3 : Int32} (hw : HC q cc gc h) (h_m2 : m2 < 10000) (hi : cc ≤ i) (hI : i < 1000000) (hh : pm_run PT n fr lo 37 (5, [some (.ref 5), some (.ref 19), some (.int (nI m2)), some (.int x3), some (.int (nI i))], [], h, 198, sl) = some R) : ∃ m, pm_run PT m fr lo 37 (40, [some (.ref 5), some (.ref 19), some (.int (nI m2)), some (.int x3), some (.int (nI i))], [], h, 198, sl) = some R := by
  have hcc := hw.cb
  have hgc := hw.gb
  have hzr := hw.zr
  obtain ⟨n, hh⟩ := rn_i rfl rfl rfl rfl hh
  obtain ⟨n, hh⟩ := rn_i rfl rfl rfl rfl hh
  have hh : pm_run PT n fr lo 37 (8, [some (.ref 5), some (.ref 19), some (.int (nI m2)), some (.int x3), some (.int (nI i))], [.ref 5, .int (nI i)], h, 198, sl) = some R := hh
  obtain ⟨n, hh⟩ := rn_gi (x := nI cc) hw.wt rfl rfl (by decide) rfl (by decide) rfl hw.x0 hh
  have hh : pm_run PT n fr lo 37 (11, [some (.ref 5), some (.ref 19), some (.int (nI m2)), some (.int x3), some (.int (nI i))], [.int (nI cc), .int (nI i)], h, 198, sl) = some R := hh
  obtain ⟨n, hh⟩ := en_cn (cc := .ge) (off := 29) (t := 40) (b := decide (cc ≤ i)) (hI_ge (by omega) (by omega)) rfl rfl hh
  have hh := en_t (show decide (cc ≤ i) = true from decide_eq_true (by omega)) hh
  have hh : pm_run PT n fr lo 37 (40, [some (.ref 5), some (.ref 19), some (.int (nI m2)), some (.int x3), some (.int (nI i))], [], h, 198, sl) = some R := hh
  exact ⟨n, hh⟩
theorem v37t_5_s {n fr lo sl cc gc : Nat} {q : QT} {h : pm_H} {R : pm_Rs} {m2 : Nat} {i : Nat} {x3 : Int32} (hw : HC q cc gc h) (h_m2 : m2 < 10000) (hi : i < cc) (hI : i < 1000000) (hh : pm_run PT n fr lo 37 (5, [some (.ref 5), some (.ref 19), some (.int (nI m2)), some (.int x3), some (.int (nI i))], [], h, 198, sl) = some R) : ∃ m, pm_run PT m fr lo 37 (5, [some (.ref 5), some (.ref 19), some (.int (nI m2)), some (.int (v37_5b q cc gc (Ar h 21) m2 i x3)), some (.int (nI (i + 1)))], [], h, 198, sl) = some R := by
  have hcc := hw.cb
  have hgc := hw.gb
  have hzr := hw.zr
  obtain ⟨n, hh⟩ := rn_i rfl rfl rfl rfl hh
  obtain ⟨n, hh⟩ := rn_i rfl rfl rfl rfl hh
  have hh : pm_run PT n fr lo 37 (8, [some (.ref 5), some (.ref 19), some (.int (nI m2)), some (.int x3), some (.int (nI i))], [.ref 5, .int (nI i)], h, 198, sl) = some R := hh
  obtain ⟨n, hh⟩ := rn_gi (x := nI cc) hw.wt rfl rfl (by decide) rfl (by decide) rfl hw.x0 hh
  have hh : pm_run PT n fr lo 37 (11, [some (.ref 5), some (.ref 19), some (.int (nI m2)), some (.int x3), some (.int (nI i))], [.int (nI cc), .int (nI i)], h, 198, sl) = some R := hh
  obtain ⟨n, hh⟩ := en_cn (cc := .ge) (off := 29) (t := 40) (b := decide (cc ≤ i)) (hI_ge (by omega) (by omega)) rfl rfl hh
  have hh := en_f (show decide (cc ≤ i) = false from decide_eq_false (by omega)) hh
  have hh : pm_run PT n fr lo 37 (14, [some (.ref 5), some (.ref 19), some (.int (nI m2)), some (.int x3), some (.int (nI i))], [], h, 198, sl) = some R := hh
  obtain ⟨n, hh⟩ := rn_i rfl rfl rfl rfl hh
  obtain ⟨n, hh⟩ := rn_i rfl rfl rfl rfl hh
  have hh : pm_run PT n fr lo 37 (17, [some (.ref 5), some (.ref 19), some (.int (nI m2)), some (.int x3), some (.int (nI i))], [.int (nI m2), .int (nI i)], h, 198, sl) = some R := hh
  obtain ⟨n, hh⟩ := en_cn (cc := .eq) (off := 17) (t := 34) (b := decide (i = m2)) (hI_eq (by omega) (by omega)) rfl rfl hh
  have hj4 : ∃ mJ, pm_run PT mJ fr lo 37 (cond (decide (i = m2)) (34, [some (.ref 5), some (.ref 19), some (.int (nI m2)), some (.int x3), some (.int (nI i))], [], h, 198, sl) (34, [some (.ref 5), some (.ref 19), some (.int (nI m2)), some (.int (x3 + ((Ar h 21) (i * 6 + m2)))), some (.int (nI i))], [], h, 198, sl)) = some R := en_J (fun z1 => by
      have hh := en_t z1 hh
      have hh : pm_run PT n fr lo 37 (34, [some (.ref 5), some (.ref 19), some (.int (nI m2)), some (.int x3), some (.int (nI i))], [], h, 198, sl) = some R := hh
      have y_z1 := of_decide_eq_true z1
      exact ⟨n, hh⟩) (fun z1 => by
      have hh := en_f z1 hh
      have hh : pm_run PT n fr lo 37 (20, [some (.ref 5), some (.ref 19), some (.int (nI m2)), some (.int x3), some (.int (nI i))], [], h, 198, sl) = some R := hh
      have y_z1 := of_decide_eq_false z1
      obtain ⟨n, hh⟩ := rn_i rfl rfl rfl rfl hh
      obtain ⟨n, hh⟩ := rn_i rfl rfl rfl rfl hh
      have hh : pm_run PT n fr lo 37 (22, [some (.ref 5), some (.ref 19), some (.int (nI m2)), some (.int x3), some (.int (nI i))], [.ref 19, .int x3], h, 198, sl) = some R := hh
      obtain ⟨n, hh⟩ := rn_gr hw.wt rfl rfl (by decide) rfl (by decide) (show _ = some (2, ((21 : Nat) : Int), 1) from rfl) rfl hh
      obtain ⟨n, hh⟩ := rn_i rfl rfl rfl rfl hh
      obtain ⟨n, hh⟩ := rn_i rfl rfl rfl rfl hh
      have hh : pm_run PT n fr lo 37 (28, [some (.ref 5), some (.ref 19), some (.int (nI m2)), some (.int x3), some (.int (nI i))], [.int (nI m2), .int (nI i), .ref 21, .int x3], h, 198, sl) = some R := hh
      obtain ⟨n, fr1, lo1, r1, hh1, hh⟩ := rn_call (w := 3) (t := 160) rfl rfl hh
      have hh1 : pm_run PT n fr1 lo1 160 (0, [some (.int (nI i)), some (.int (nI m2))], [], h, 198, sl) = some r1 := hh1
      obtain ⟨n1, hh1⟩ := rn_i rfl rfl rfl rfl hh1
      obtain ⟨n1, hh1⟩ := rn_i rfl rfl rfl rfl hh1
      have hh1 : pm_run PT n1 fr1 lo1 160 (3, [some (.int (nI i)), some (.int (nI m2))], [.int (nI 6), .int (nI i)], h, 198, sl) = some r1 := hh1
      obtain ⟨n1, hh1⟩ := en_mul rfl hh1
      have hh1 : pm_run PT n1 fr1 lo1 160 (4, [some (.int (nI i)), some (.int (nI m2))], [.int (nI (i * 6))], h, 198, sl) = some r1 := hh1
      obtain ⟨n1, hh1⟩ := rn_i rfl rfl rfl rfl hh1
      have hh1 : pm_run PT n1 fr1 lo1 160 (5, [some (.int (nI i)), some (.int (nI m2))], [.int (nI m2), .int (nI (i * 6))], h, 198, sl) = some r1 := hh1
      obtain ⟨n1, hh1⟩ := en_add rfl hh1
      have hh1 : pm_run PT n1 fr1 lo1 160 (6, [some (.int (nI i)), some (.int (nI m2))], [.int (nI (i * 6 + m2))], h, 198, sl) = some r1 := hh1
      have hh1 : pm_run PT n1 fr1 lo1 160 (6, [some (.int (nI i)), some (.int (nI m2))], [.int (nI (i * 6 + m2))], h, 198, sl) = some r1 := hh1
      have er2 : r1 = (some (.int (nI (i * 6 + m2))), h, 198, sl) := (rn_ret rfl (Or.inl rfl) hh1).2
      subst er2
      have hh : pm_run PT n fr lo 37 (31, [some (.ref 5), some (.ref 19), some (.int (nI m2)), some (.int x3), some (.int (nI i))], [.int (nI (i * 6 + m2)), .ref 21, .int x3], h, 198, sl) = some R := hh
      obtain ⟨n, hx3, hh⟩ := en_lu (t := i * 6 + m2) (f := Ar h 21) (w := (Ar h 21) (i * 6 + m2)) (nI_clamp (by omega)) hw.wt rfl (by decide) rfl (by decide) rfl (fun _ => rfl) hh
      obtain ⟨n, hh⟩ := rn_i rfl rfl rfl rfl hh
      obtain ⟨n, hh⟩ := rn_i rfl rfl rfl rfl hh
      exact ⟨n, hh⟩)
  obtain ⟨n, hh⟩ := hj4
  rw [show (cond (decide (i = m2)) (34, [some (.ref 5), some (.ref 19), some (.int (nI m2)), some (.int x3), some (.int (nI i))], [], h, 198, sl) (34, [some (.ref 5), some (.ref 19), some (.int (nI m2)), some (.int (x3 + ((Ar h 21) (i * 6 + m2)))), some (.int (nI i))], [], h, 198, sl) : pm_St) = (34, [some (.ref 5), some (.ref 19), some (.int (nI m2)), some (.int (cond (decide (i = m2)) x3 (x3 + ((Ar h 21) (i * 6 + m2))))), some (.int (nI i))], [], h, 198, sl) from by cases (decide (i = m2)) <;> rfl] at hh
  have hh : pm_run PT n fr lo 37 (34, [some (.ref 5), some (.ref 19), some (.int (nI m2)), some (.int (cond (decide (i = m2)) x3 (x3 + ((Ar h 21) (i * 6 + m2))))), some (.int (nI i))], [], h, 198, sl) = some R := hh
  obtain ⟨n, hh⟩ := en_inc (x := i) (c := 1) (j := 4) rfl rfl (by decide) hh
  have hh : pm_run PT n fr lo 37 (37, [some (.ref 5), some (.ref 19), some (.int (nI m2)), some (.int (cond (decide (i = m2)) x3 (x3 + ((Ar h 21) (i * 6 + m2))))), some (.int (nI (i + 1)))], [], h, 198, sl) = some R := hh
  obtain ⟨n, hh⟩ := rn_i rfl rfl rfl rfl hh
  have ed : v37_5b q cc gc (Ar h 21) m2 i x3 = cond (decide (i = m2)) x3 (x3 + ((Ar h 21) (i * 6 + m2))) := rfl
  rw [ed]
  exact ⟨n, hh⟩
theorem v37t_5_ok {fr lo sl cc gc : Nat} {q : QT} {R : pm_Rs} {m2 : Nat} : ∀ {j i : Nat} {x3 : Int32} {h : pm_H} {n : Nat}, cc - i = j → i + j < 1000000 → HC q cc gc h → m2 < 10000 → pm_run PT n fr lo 37 (5, [some (.ref 5), some (.ref 19), some (.int (nI m2)), some (.int x3), some (.int (nI i))], [], h, 198, sl) = some R → ∃ m wc, pm_run PT m fr lo 37 (40, [some (.ref 5), some (.ref 19), some (.int (nI m2)), some (.int (v37_5 q cc gc (Ar h 21) m2 j i x3)), wc], [], h, 198, sl) = some R := by
  intro j
  induction j with
  | zero =>
    intro i x3 h n e eI hw h_m2 hh
    obtain ⟨n, hh⟩ := v37t_5_e hw h_m2 (by omega) (by omega) hh
    exact ⟨n, _, hh⟩
  | succ j ih =>
    intro i x3 h n e eI hw h_m2 hh
    obtain ⟨n, hh⟩ := v37t_5_s hw h_m2 (by omega) (by omega) hh
    obtain ⟨n, wc, hh⟩ := ih (by omega) (by omega) hw h_m2 hh
    exact ⟨n, wc, hh⟩
theorem v37t_ok {n fr lo sl cc gc : Nat} {q : QT} {h : pm_H} {R : pm_Rs} {c : Nat} (hw : HC q cc gc h) (h_c : c < 10000) (hh : pm_run PT n fr lo 37 (0, pm_l0 [.ref 5, .ref 19, .int (nI c)] 5, [], h, 198, sl) = some R) : R = (some (.int (v37 q cc gc (Ar h 21) c)), h, 198, sl) := by
  have hcc := hw.cb
  have hgc := hw.gb
  have hzr := hw.zr
  obtain ⟨n, hh⟩ := rn_i rfl rfl rfl rfl hh
  obtain ⟨n, hh⟩ := rn_i rfl rfl rfl rfl hh
  obtain ⟨n, hh⟩ := rn_i rfl rfl rfl rfl hh
  obtain ⟨n, hh⟩ := rn_i rfl rfl rfl rfl hh
  have hh : pm_run PT n fr lo 37 (5, [some (.ref 5), some (.ref 19), some (.int (nI c)), some (.int (nI 0)), some (.int (nI 0))], [], h, 198, sl) = some R := hh
  obtain ⟨n, u1, hh⟩ := v37t_5_ok (m2 := c)  (i := 0) (x3 := (nI 0)) (j := cc) (by omega) (by omega) hw (by omega) hh
  have hh : pm_run PT n fr lo 37 (40, [some (.ref 5), some (.ref 19), some (.int (nI c)), some (.int (v37_5 q cc gc (Ar h 21) c cc 0 (nI 0))), u1], [], h, 198, sl) = some R := hh
  obtain ⟨n, hh⟩ := rn_i rfl rfl rfl rfl hh
  have hh : pm_run PT n fr lo 37 (41, [some (.ref 5), some (.ref 19), some (.int (nI c)), some (.int (v37_5 q cc gc (Ar h 21) c cc 0 (nI 0))), u1], [.int (v37_5 q cc gc (Ar h 21) c cc 0 (nI 0))], h, 198, sl) = some R := hh
  have er2 : R = (some (.int (v37_5 q cc gc (Ar h 21) c cc 0 (nI 0))), h, 198, sl) := (rn_ret rfl (Or.inl rfl) hh).2
  have ed : v37 q cc gc (Ar h 21) c = (v37_5 q cc gc (Ar h 21) c cc 0 (nI 0)) := rfl
  rw [ed]
  exact er2
theorem v38t_4_e {n fr lo sl cc gc : Nat} {q : QT} {h : pm_H} {R : pm_Rs} {i : Nat} {x2 : Int32} (hw : HC q cc gc h) (hi : cc ≤ i) (hI : i < 1000000) (hh : pm_run PT n fr lo 38 (4, [some (.ref 5), some (.ref 19), some (.int x2), some (.int (nI i))], [], h, 198, sl) = some R) : ∃ m, pm_run PT m fr lo 38 (27, [some (.ref 5), some (.ref 19), some (.int x2), some (.int (nI i))], [], h, 198, sl) = some R := by
  have hcc := hw.cb
  have hgc := hw.gb
  have hzr := hw.zr
  obtain ⟨n, hh⟩ := rn_i rfl rfl rfl rfl hh
  obtain ⟨n, hh⟩ := rn_i rfl rfl rfl rfl hh
  have hh : pm_run PT n fr lo 38 (6, [some (.ref 5), some (.ref 19), some (.int x2), some (.int (nI i))], [.ref 5, .int (nI i)], h, 198, sl) = some R := hh
  obtain ⟨n, hh⟩ := rn_gi (x := nI cc) hw.wt rfl rfl (by decide) rfl (by decide) rfl hw.x0 hh
  have hh : pm_run PT n fr lo 38 (9, [some (.ref 5), some (.ref 19), some (.int x2), some (.int (nI i))], [.int (nI cc), .int (nI i)], h, 198, sl) = some R := hh
  obtain ⟨n, hh⟩ := en_cn (cc := .ge) (off := 18) (t := 27) (b := decide (cc ≤ i)) (hI_ge (by omega) (by omega)) rfl rfl hh
  have hh := en_t (show decide (cc ≤ i) = true from decide_eq_true (by omega)) hh
  have hh : pm_run PT n fr lo 38 (27, [some (.ref 5), some (.ref 19), some (.int x2), some (.int (nI i))], [], h, 198, sl) = some R := hh
  exact ⟨n, hh⟩
theorem v38t_4_s {n fr lo sl cc gc : Nat} {q : QT} {h : pm_H} {R : pm_Rs} {i : Nat} {x2 : Int32} (hw : HC q cc gc h) (hi : i < cc) (hI : i < 1000000) (hh : pm_run PT n fr lo 38 (4, [some (.ref 5), some (.ref 19), some (.int x2), some (.int (nI i))], [], h, 198, sl) = some R) : ∃ m, pm_run PT m fr lo 38 (4, [some (.ref 5), some (.ref 19), some (.int (v38_4b q cc gc (Ar h 21) i x2)), some (.int (nI (i + 1)))], [], h, 198, sl) = some R := by
  have hcc := hw.cb
  have hgc := hw.gb
  have hzr := hw.zr
  obtain ⟨n, hh⟩ := rn_i rfl rfl rfl rfl hh
  obtain ⟨n, hh⟩ := rn_i rfl rfl rfl rfl hh
  have hh : pm_run PT n fr lo 38 (6, [some (.ref 5), some (.ref 19), some (.int x2), some (.int (nI i))], [.ref 5, .int (nI i)], h, 198, sl) = some R := hh
  obtain ⟨n, hh⟩ := rn_gi (x := nI cc) hw.wt rfl rfl (by decide) rfl (by decide) rfl hw.x0 hh
  have hh : pm_run PT n fr lo 38 (9, [some (.ref 5), some (.ref 19), some (.int x2), some (.int (nI i))], [.int (nI cc), .int (nI i)], h, 198, sl) = some R := hh
  obtain ⟨n, hh⟩ := en_cn (cc := .ge) (off := 18) (t := 27) (b := decide (cc ≤ i)) (hI_ge (by omega) (by omega)) rfl rfl hh
  have hh := en_f (show decide (cc ≤ i) = false from decide_eq_false (by omega)) hh
  have hh : pm_run PT n fr lo 38 (12, [some (.ref 5), some (.ref 19), some (.int x2), some (.int (nI i))], [], h, 198, sl) = some R := hh
  obtain ⟨n, hh⟩ := rn_i rfl rfl rfl rfl hh
  obtain ⟨n, hh⟩ := rn_i rfl rfl rfl rfl hh
  obtain ⟨n, hh⟩ := rn_i rfl rfl rfl rfl hh
  obtain ⟨n, hh⟩ := rn_i rfl rfl rfl rfl hh
  have hh : pm_run PT n fr lo 38 (16, [some (.ref 5), some (.ref 19), some (.int x2), some (.int (nI i))], [.int (nI i), .ref 19, .ref 5, .int x2], h, 198, sl) = some R := hh
  obtain ⟨n, fr1, lo1, r1, hh1, hh⟩ := rn_call (w := 0) (t := 37) rfl rfl hh
  have er1 := v37t_ok (c := i) hw (by omega) hh1
  subst er1
  obtain ⟨n, hh⟩ := rn_i rfl rfl rfl rfl hh
  obtain ⟨n, hh⟩ := rn_i rfl rfl rfl rfl hh
  have hh : pm_run PT n fr lo 38 (21, [some (.ref 5), some (.ref 19), some (.int (x2 + (v37 q cc gc (Ar h 21) i))), some (.int (nI i))], [], h, 198, sl) = some R := hh
  obtain ⟨n, hh⟩ := en_inc (x := i) (c := 1) (j := 3) rfl rfl (by decide) hh
  have hh : pm_run PT n fr lo 38 (24, [some (.ref 5), some (.ref 19), some (.int (x2 + (v37 q cc gc (Ar h 21) i))), some (.int (nI (i + 1)))], [], h, 198, sl) = some R := hh
  obtain ⟨n, hh⟩ := rn_i rfl rfl rfl rfl hh
  have ed : v38_4b q cc gc (Ar h 21) i x2 = x2 + (v37 q cc gc (Ar h 21) i) := rfl
  rw [ed]
  exact ⟨n, hh⟩
theorem v38t_4_ok {fr lo sl cc gc : Nat} {q : QT} {R : pm_Rs} : ∀ {j i : Nat} {x2 : Int32} {h : pm_H} {n : Nat}, cc - i = j → i + j < 1000000 → HC q cc gc h → pm_run PT n fr lo 38 (4, [some (.ref 5), some (.ref 19), some (.int x2), some (.int (nI i))], [], h, 198, sl) = some R → ∃ m wc, pm_run PT m fr lo 38 (27, [some (.ref 5), some (.ref 19), some (.int (v38_4 q cc gc (Ar h 21) j i x2)), wc], [], h, 198, sl) = some R := by
  intro j
  induction j with
  | zero =>
    intro i x2 h n e eI hw hh
    obtain ⟨n, hh⟩ := v38t_4_e hw (by omega) (by omega) hh
    exact ⟨n, _, hh⟩
  | succ j ih =>
    intro i x2 h n e eI hw hh
    obtain ⟨n, hh⟩ := v38t_4_s hw (by omega) (by omega) hh
    obtain ⟨n, wc, hh⟩ := ih (by omega) (by omega) hw hh
    exact ⟨n, wc, hh⟩
theorem v38t_ok {n fr lo sl cc gc : Nat} {q : QT} {h : pm_H} {R : pm_Rs} (hw : HC q cc gc h) (hh : pm_run PT n fr lo 38 (0, pm_l0 [.ref 5, .ref 19] 4, [], h, 198, sl) = some R) : R = (some (.int (v38 q cc gc (Ar h 21))), h, 198, sl) := by
  have hcc := hw.cb
  have hgc := hw.gb
  have hzr := hw.zr
  obtain ⟨n, hh⟩ := rn_i rfl rfl rfl rfl hh
  obtain ⟨n, hh⟩ := rn_i rfl rfl rfl rfl hh
  obtain ⟨n, hh⟩ := rn_i rfl rfl rfl rfl hh
  obtain ⟨n, hh⟩ := rn_i rfl rfl rfl rfl hh
  have hh : pm_run PT n fr lo 38 (4, [some (.ref 5), some (.ref 19), some (.int (nI 0)), some (.int (nI 0))], [], h, 198, sl) = some R := hh
  obtain ⟨n, u1, hh⟩ := v38t_4_ok  (i := 0) (x2 := (nI 0)) (j := cc) (by omega) (by omega) hw hh
  have hh : pm_run PT n fr lo 38 (27, [some (.ref 5), some (.ref 19), some (.int (v38_4 q cc gc (Ar h 21) cc 0 (nI 0))), u1], [], h, 198, sl) = some R := hh
  obtain ⟨n, hh⟩ := rn_i rfl rfl rfl rfl hh
  have hh : pm_run PT n fr lo 38 (28, [some (.ref 5), some (.ref 19), some (.int (v38_4 q cc gc (Ar h 21) cc 0 (nI 0))), u1], [.int (v38_4 q cc gc (Ar h 21) cc 0 (nI 0))], h, 198, sl) = some R := hh
  have er2 : R = (some (.int (v38_4 q cc gc (Ar h 21) cc 0 (nI 0))), h, 198, sl) := (rn_ret rfl (Or.inl rfl) hh).2
  have ed : v38 q cc gc (Ar h 21) = (v38_4 q cc gc (Ar h 21) cc 0 (nI 0)) := rfl
  rw [ed]
  exact er2
def v28t (q : QT) (cc gc : Nat) (d0 : Nat → Int32) (c : Nat) (d : Int32) : Int32 := (d0) (((nI (c * 5)) + d).toNatClampNeg)
theorem v28t_ok {n fr lo sl cc gc : Nat} {q : QT} {h : pm_H} {R : pm_Rs} {c : Nat} {d : Int32} (hw : HC q cc gc h) (h_c : c < 10000) (hh : pm_run PT n fr lo 28 (0, pm_l0 [.ref 5, .int (nI c), .int d] 3, [], h, 198, sl) = some R) : R = (some (.int (v28t q cc gc (Ar h 7) c d)), h, 198, sl) := by
  have hcc := hw.cb
  have hgc := hw.gb
  have hzr := hw.zr
  obtain ⟨n, hh⟩ := rn_i rfl rfl rfl rfl hh
  have hh : pm_run PT n fr lo 28 (1, [some (.ref 5), some (.int (nI c)), some (.int d)], [.ref 5], h, 198, sl) = some R := hh
  obtain ⟨n, hh⟩ := rn_gr hw.wt rfl rfl (by decide) rfl (by decide) (show _ = some (2, ((7 : Nat) : Int), 1) from rfl) rfl hh
  obtain ⟨n, hh⟩ := rn_i rfl rfl rfl rfl hh
  obtain ⟨n, hh⟩ := rn_i rfl rfl rfl rfl hh
  have hh : pm_run PT n fr lo 28 (6, [some (.ref 5), some (.int (nI c)), some (.int d)], [.int (nI 5), .int (nI c), .ref 7], h, 198, sl) = some R := hh
  obtain ⟨n, hh⟩ := en_mul rfl hh
  have hh : pm_run PT n fr lo 28 (7, [some (.ref 5), some (.int (nI c)), some (.int d)], [.int (nI (c * 5)), .ref 7], h, 198, sl) = some R := hh
  obtain ⟨n, hh⟩ := rn_i rfl rfl rfl rfl hh
  obtain ⟨n, hh⟩ := rn_i rfl rfl rfl rfl hh
  have hh : pm_run PT n fr lo 28 (9, [some (.ref 5), some (.int (nI c)), some (.int d)], [.int ((nI (c * 5)) + d), .ref 7], h, 198, sl) = some R := hh
  obtain ⟨n, hx1, hh⟩ := en_lu (t := ((nI (c * 5)) + d).toNatClampNeg) (f := Ar h 7) (w := (Ar h 7) (((nI (c * 5)) + d).toNatClampNeg)) rfl hw.wt rfl (by decide) rfl (by decide) rfl (fun _ => rfl) hh
  have hh : pm_run PT n fr lo 28 (10, [some (.ref 5), some (.int (nI c)), some (.int d)], [.int ((Ar h 7) (((nI (c * 5)) + d).toNatClampNeg))], h, 198, sl) = some R := hh
  have er2 : R = (some (.int ((Ar h 7) (((nI (c * 5)) + d).toNatClampNeg))), h, 198, sl) := (rn_ret rfl (Or.inl rfl) hh).2
  have ed : v28t q cc gc (Ar h 7) c d = (Ar h 7) (((nI (c * 5)) + d).toNatClampNeg) := rfl
  rw [ed]
  exact er2
def v39 (q : QT) (cc gc : Nat) (h : pm_H) (g : Nat) (c : Nat) : Int32 × pm_H := (imax (nI 0) (imin (nI 999) ((v68 q cc gc (aset h 12 7 (upd (upd (upd (upd (upd (upd (upd (Ar h 12) 0 ((Ar h 10) g)) 1 (v28t q cc gc (Ar h 7) c ((Ar h 9) g))) 2 ((Ar h 6) c)) 3 ((Ar h 6) (((Ar h 17) g).toNatClampNeg))) 4 (v270 q cc gc ((Ar h 18) g))) 5 ((Ar h 11) g)) 6 (cond (cond (v74 q cc gc (Fi h 13 5) g) true false) 1 0)))).1)), (v68 q cc gc (aset h 12 7 (upd (upd (upd (upd (upd (upd (upd (Ar h 12) 0 ((Ar h 10) g)) 1 (v28t q cc gc (Ar h 7) c ((Ar h 9) g))) 2 ((Ar h 6) c)) 3 ((Ar h 6) (((Ar h 17) g).toNatClampNeg))) 4 (v270 q cc gc ((Ar h 18) g))) 5 ((Ar h 11) g)) 6 (cond (cond (v74 q cc gc (Fi h 13 5) g) true false) 1 0)))).2)
theorem v39_ok {n fr lo sl cc gc : Nat} {q : QT} {h : pm_H} {R : pm_Rs} {g : Nat} {c : Nat} (hw : HC q cc gc h) (h_g : g < 10000) (h_c : c < 10000) (hh : pm_run PT n fr lo 39 (0, pm_l0 [.ref 5, .ref q.1, .ref 13, .int (nI g), .int (nI c)] 5, [], h, 198, sl) = some R) : R = (some (.int ((v39 q cc gc h g c).1)), (v39 q cc gc h g c).2, 198, sl) ∧ HC q cc gc ((v39 q cc gc h g c).2) ∧ frm [12, 142, 144, 145, 147] [(142, 3), (145, 3)] h ((v39 q cc gc h g c).2) := by
  have hcc := hw.cb
  have hgc := hw.gb
  have hzr := hw.zr
  obtain ⟨n, hh⟩ := rn_i rfl rfl rfl rfl hh
  have hh : pm_run PT n fr lo 39 (1, [some (.ref 5), some (.ref q.1), some (.ref 13), some (.int (nI g)), some (.int (nI c))], [.ref 5], h, 198, sl) = some R := hh
  obtain ⟨n, hh⟩ := rn_gr hw.wt rfl rfl (by decide) rfl (by decide) (show _ = some (2, ((12 : Nat) : Int), 1) from rfl) rfl hh
  obtain ⟨n, hh⟩ := rn_i rfl rfl rfl rfl hh
  obtain ⟨n, hh⟩ := rn_i rfl rfl rfl rfl hh
  have hh : pm_run PT n fr lo 39 (6, [some (.ref 5), some (.ref q.1), some (.ref 13), some (.int (nI g)), some (.int (nI c))], [.ref 5, .int (nI 0), .ref 12], h, 198, sl) = some R := hh
  obtain ⟨n, hh⟩ := rn_gr hw.wt rfl rfl (by decide) rfl (by decide) (show _ = some (2, ((10 : Nat) : Int), 1) from rfl) rfl hh
  obtain ⟨n, hh⟩ := rn_i rfl rfl rfl rfl hh
  have hh : pm_run PT n fr lo 39 (10, [some (.ref 5), some (.ref q.1), some (.ref 13), some (.int (nI g)), some (.int (nI c))], [.int (nI g), .ref 10, .int (nI 0), .ref 12], h, 198, sl) = some R := hh
  obtain ⟨n, hx1, hh⟩ := en_lu (t := g) (f := Ar h 10) (w := (Ar h 10) g) (nI_clamp (by omega)) hw.wt rfl (by decide) rfl (by decide) rfl (fun _ => rfl) hh
  have hh : pm_run PT n fr lo 39 (11, [some (.ref 5), some (.ref q.1), some (.ref 13), some (.int (nI g)), some (.int (nI c))], [.int ((Ar h 10) g), .int (nI 0), .ref 12], h, 198, sl) = some R := hh
  obtain ⟨n, hx2, hh⟩ := en_st (t := 0) (f := Ar h 12) (nI_clamp (by omega)) hw.wt rfl (by decide) rfl (by decide) rfl hh
  obtain ⟨n, hh⟩ := rn_i rfl rfl rfl rfl hh
  have hh : pm_run PT n fr lo 39 (13, [some (.ref 5), some (.ref q.1), some (.ref 13), some (.int (nI g)), some (.int (nI c))], [.ref 5], aset h 12 7 (upd (Ar h 12) 0 ((Ar h 10) g)), 198, sl) = some R := hh
  obtain ⟨n, hh⟩ := rn_gr (hc_a rfl rfl hw).wt rfl rfl (by decide) rfl (by decide) (show _ = some (2, ((12 : Nat) : Int), 1) from rfl) rfl hh
  obtain ⟨n, hh⟩ := rn_i rfl rfl rfl rfl hh
  obtain ⟨n, hh⟩ := rn_i rfl rfl rfl rfl hh
  obtain ⟨n, hh⟩ := rn_i rfl rfl rfl rfl hh
  obtain ⟨n, hh⟩ := rn_i rfl rfl rfl rfl hh
  have hh : pm_run PT n fr lo 39 (21, [some (.ref 5), some (.ref q.1), some (.ref 13), some (.int (nI g)), some (.int (nI c))], [.ref 5, .int (nI c), .ref 5, .int (nI 1), .ref 12], aset h 12 7 (upd (Ar h 12) 0 ((Ar h 10) g)), 198, sl) = some R := hh
  obtain ⟨n, hh⟩ := rn_gr (hc_a rfl rfl hw).wt rfl rfl (by decide) rfl (by decide) (show _ = some (2, ((9 : Nat) : Int), 1) from rfl) rfl hh
  obtain ⟨n, hh⟩ := rn_i rfl rfl rfl rfl hh
  have hh : pm_run PT n fr lo 39 (25, [some (.ref 5), some (.ref q.1), some (.ref 13), some (.int (nI g)), some (.int (nI c))], [.int (nI g), .ref 9, .int (nI c), .ref 5, .int (nI 1), .ref 12], aset h 12 7 (upd (Ar h 12) 0 ((Ar h 10) g)), 198, sl) = some R := hh
  obtain ⟨n, hx3, hh⟩ := en_lu (t := g) (f := Ar h 9) (w := (Ar h 9) g) (nI_clamp (by omega)) (hc_a rfl rfl hw).wt rfl (by decide) rfl (by decide) ((Ar_n (by decide)).trans rfl) (fun _ => rfl) hh
  have hh : pm_run PT n fr lo 39 (26, [some (.ref 5), some (.ref q.1), some (.ref 13), some (.int (nI g)), some (.int (nI c))], [.int ((Ar h 9) g), .int (nI c), .ref 5, .int (nI 1), .ref 12], aset h 12 7 (upd (Ar h 12) 0 ((Ar h 10) g)), 198, sl) = some R := hh
  obtain ⟨n, fr1, lo1, r1, hh1, hh⟩ := rn_call (w := 0) (t := 28) rfl rfl hh
  have er4 := v28t_ok (c := c) (d := ((Ar h 9) g)) (hc_a rfl rfl hw) (by omega) hh1
  rw [show Ar (aset h 12 7 (upd (Ar h 12) 0 ((Ar h 10) g))) 7 = Ar h 7 from ((Ar_n (by decide)).trans rfl)] at er4
  subst er4
  have hh : pm_run PT n fr lo 39 (29, [some (.ref 5), some (.ref q.1), some (.ref 13), some (.int (nI g)), some (.int (nI c))], [.int (v28t q cc gc (Ar h 7) c ((Ar h 9) g)), .int (nI 1), .ref 12], aset h 12 7 (upd (Ar h 12) 0 ((Ar h 10) g)), 198, sl) = some R := hh
  obtain ⟨n, hx5, hh⟩ := en_st (t := 1) (f := upd (Ar h 12) 0 ((Ar h 10) g)) (nI_clamp (by omega)) (hc_a rfl rfl hw).wt rfl (by decide) rfl (by decide) Ar_s hh
  have hh : pm_run PT n fr lo 39 (30, [some (.ref 5), some (.ref q.1), some (.ref 13), some (.int (nI g)), some (.int (nI c))], [], aset (aset h 12 7 (upd (Ar h 12) 0 ((Ar h 10) g))) 12 7 (upd (upd (Ar h 12) 0 ((Ar h 10) g)) 1 (v28t q cc gc (Ar h 7) c ((Ar h 9) g))), 198, sl) = some R := hh
  rw [aset_aset] at hh
  obtain ⟨n, hh⟩ := rn_i rfl rfl rfl rfl hh
  have hh : pm_run PT n fr lo 39 (31, [some (.ref 5), some (.ref q.1), some (.ref 13), some (.int (nI g)), some (.int (nI c))], [.ref 5], aset h 12 7 (upd (upd (Ar h 12) 0 ((Ar h 10) g)) 1 (v28t q cc gc (Ar h 7) c ((Ar h 9) g))), 198, sl) = some R := hh
  obtain ⟨n, hh⟩ := rn_gr (hc_a rfl rfl hw).wt rfl rfl (by decide) rfl (by decide) (show _ = some (2, ((12 : Nat) : Int), 1) from rfl) rfl hh
  obtain ⟨n, hh⟩ := rn_i rfl rfl rfl rfl hh
  obtain ⟨n, hh⟩ := rn_i rfl rfl rfl rfl hh
  have hh : pm_run PT n fr lo 39 (36, [some (.ref 5), some (.ref q.1), some (.ref 13), some (.int (nI g)), some (.int (nI c))], [.ref 5, .int (nI 2), .ref 12], aset h 12 7 (upd (upd (Ar h 12) 0 ((Ar h 10) g)) 1 (v28t q cc gc (Ar h 7) c ((Ar h 9) g))), 198, sl) = some R := hh
  obtain ⟨n, hh⟩ := rn_gr (hc_a rfl rfl hw).wt rfl rfl (by decide) rfl (by decide) (show _ = some (2, ((6 : Nat) : Int), 1) from rfl) rfl hh
  obtain ⟨n, hh⟩ := rn_i rfl rfl rfl rfl hh
  have hh : pm_run PT n fr lo 39 (41, [some (.ref 5), some (.ref q.1), some (.ref 13), some (.int (nI g)), some (.int (nI c))], [.int (nI c), .ref 6, .int (nI 2), .ref 12], aset h 12 7 (upd (upd (Ar h 12) 0 ((Ar h 10) g)) 1 (v28t q cc gc (Ar h 7) c ((Ar h 9) g))), 198, sl) = some R := hh
  obtain ⟨n, hx6, hh⟩ := en_lu (t := c) (f := Ar h 6) (w := (Ar h 6) c) (nI_clamp (by omega)) (hc_a rfl rfl hw).wt rfl (by decide) rfl (by decide) ((Ar_n (by decide)).trans rfl) (fun _ => rfl) hh
  have hh : pm_run PT n fr lo 39 (42, [some (.ref 5), some (.ref q.1), some (.ref 13), some (.int (nI g)), some (.int (nI c))], [.int ((Ar h 6) c), .int (nI 2), .ref 12], aset h 12 7 (upd (upd (Ar h 12) 0 ((Ar h 10) g)) 1 (v28t q cc gc (Ar h 7) c ((Ar h 9) g))), 198, sl) = some R := hh
  obtain ⟨n, hx7, hh⟩ := en_st (t := 2) (f := upd (upd (Ar h 12) 0 ((Ar h 10) g)) 1 (v28t q cc gc (Ar h 7) c ((Ar h 9) g))) (nI_clamp (by omega)) (hc_a rfl rfl hw).wt rfl (by decide) rfl (by decide) Ar_s hh
  have hh : pm_run PT n fr lo 39 (43, [some (.ref 5), some (.ref q.1), some (.ref 13), some (.int (nI g)), some (.int (nI c))], [], aset (aset h 12 7 (upd (upd (Ar h 12) 0 ((Ar h 10) g)) 1 (v28t q cc gc (Ar h 7) c ((Ar h 9) g)))) 12 7 (upd (upd (upd (Ar h 12) 0 ((Ar h 10) g)) 1 (v28t q cc gc (Ar h 7) c ((Ar h 9) g))) 2 ((Ar h 6) c)), 198, sl) = some R := hh
  rw [aset_aset] at hh
  obtain ⟨n, hh⟩ := rn_i rfl rfl rfl rfl hh
  have hh : pm_run PT n fr lo 39 (44, [some (.ref 5), some (.ref q.1), some (.ref 13), some (.int (nI g)), some (.int (nI c))], [.ref 5], aset h 12 7 (upd (upd (upd (Ar h 12) 0 ((Ar h 10) g)) 1 (v28t q cc gc (Ar h 7) c ((Ar h 9) g))) 2 ((Ar h 6) c)), 198, sl) = some R := hh
  obtain ⟨n, hh⟩ := rn_gr (hc_a rfl rfl hw).wt rfl rfl (by decide) rfl (by decide) (show _ = some (2, ((12 : Nat) : Int), 1) from rfl) rfl hh
  obtain ⟨n, hh⟩ := rn_i rfl rfl rfl rfl hh
  obtain ⟨n, hh⟩ := rn_i rfl rfl rfl rfl hh
  have hh : pm_run PT n fr lo 39 (49, [some (.ref 5), some (.ref q.1), some (.ref 13), some (.int (nI g)), some (.int (nI c))], [.ref 5, .int (nI 3), .ref 12], aset h 12 7 (upd (upd (upd (Ar h 12) 0 ((Ar h 10) g)) 1 (v28t q cc gc (Ar h 7) c ((Ar h 9) g))) 2 ((Ar h 6) c)), 198, sl) = some R := hh
  obtain ⟨n, hh⟩ := rn_gr (hc_a rfl rfl hw).wt rfl rfl (by decide) rfl (by decide) (show _ = some (2, ((6 : Nat) : Int), 1) from rfl) rfl hh
  obtain ⟨n, hh⟩ := rn_i rfl rfl rfl rfl hh
  have hh : pm_run PT n fr lo 39 (53, [some (.ref 5), some (.ref q.1), some (.ref 13), some (.int (nI g)), some (.int (nI c))], [.ref 13, .ref 6, .int (nI 3), .ref 12], aset h 12 7 (upd (upd (upd (Ar h 12) 0 ((Ar h 10) g)) 1 (v28t q cc gc (Ar h 7) c ((Ar h 9) g))) 2 ((Ar h 6) c)), 198, sl) = some R := hh
  obtain ⟨n, hh⟩ := rn_gr (hc_a rfl rfl hw).wt rfl rfl (by decide) rfl (by decide) (show _ = some (2, ((17 : Nat) : Int), 1) from rfl) rfl hh
  obtain ⟨n, hh⟩ := rn_i rfl rfl rfl rfl hh
  have hh : pm_run PT n fr lo 39 (57, [some (.ref 5), some (.ref q.1), some (.ref 13), some (.int (nI g)), some (.int (nI c))], [.int (nI g), .ref 17, .ref 6, .int (nI 3), .ref 12], aset h 12 7 (upd (upd (upd (Ar h 12) 0 ((Ar h 10) g)) 1 (v28t q cc gc (Ar h 7) c ((Ar h 9) g))) 2 ((Ar h 6) c)), 198, sl) = some R := hh
  obtain ⟨n, hx8, hh⟩ := en_lu (t := g) (f := Ar h 17) (w := (Ar h 17) g) (nI_clamp (by omega)) (hc_a rfl rfl hw).wt rfl (by decide) rfl (by decide) ((Ar_n (by decide)).trans rfl) (fun _ => rfl) hh
  have hh : pm_run PT n fr lo 39 (58, [some (.ref 5), some (.ref q.1), some (.ref 13), some (.int (nI g)), some (.int (nI c))], [.int ((Ar h 17) g), .ref 6, .int (nI 3), .ref 12], aset h 12 7 (upd (upd (upd (Ar h 12) 0 ((Ar h 10) g)) 1 (v28t q cc gc (Ar h 7) c ((Ar h 9) g))) 2 ((Ar h 6) c)), 198, sl) = some R := hh
  obtain ⟨n, hx9, hh⟩ := en_lu (t := ((Ar h 17) g).toNatClampNeg) (f := Ar h 6) (w := (Ar h 6) (((Ar h 17) g).toNatClampNeg)) rfl (hc_a rfl rfl hw).wt rfl (by decide) rfl (by decide) ((Ar_n (by decide)).trans rfl) (fun _ => rfl) hh
  have hh : pm_run PT n fr lo 39 (59, [some (.ref 5), some (.ref q.1), some (.ref 13), some (.int (nI g)), some (.int (nI c))], [.int ((Ar h 6) (((Ar h 17) g).toNatClampNeg)), .int (nI 3), .ref 12], aset h 12 7 (upd (upd (upd (Ar h 12) 0 ((Ar h 10) g)) 1 (v28t q cc gc (Ar h 7) c ((Ar h 9) g))) 2 ((Ar h 6) c)), 198, sl) = some R := hh
  obtain ⟨n, hx10, hh⟩ := en_st (t := 3) (f := upd (upd (upd (Ar h 12) 0 ((Ar h 10) g)) 1 (v28t q cc gc (Ar h 7) c ((Ar h 9) g))) 2 ((Ar h 6) c)) (nI_clamp (by omega)) (hc_a rfl rfl hw).wt rfl (by decide) rfl (by decide) Ar_s hh
  have hh : pm_run PT n fr lo 39 (60, [some (.ref 5), some (.ref q.1), some (.ref 13), some (.int (nI g)), some (.int (nI c))], [], aset (aset h 12 7 (upd (upd (upd (Ar h 12) 0 ((Ar h 10) g)) 1 (v28t q cc gc (Ar h 7) c ((Ar h 9) g))) 2 ((Ar h 6) c))) 12 7 (upd (upd (upd (upd (Ar h 12) 0 ((Ar h 10) g)) 1 (v28t q cc gc (Ar h 7) c ((Ar h 9) g))) 2 ((Ar h 6) c)) 3 ((Ar h 6) (((Ar h 17) g).toNatClampNeg))), 198, sl) = some R := hh
  rw [aset_aset] at hh
  obtain ⟨n, hh⟩ := rn_i rfl rfl rfl rfl hh
  have hh : pm_run PT n fr lo 39 (61, [some (.ref 5), some (.ref q.1), some (.ref 13), some (.int (nI g)), some (.int (nI c))], [.ref 5], aset h 12 7 (upd (upd (upd (upd (Ar h 12) 0 ((Ar h 10) g)) 1 (v28t q cc gc (Ar h 7) c ((Ar h 9) g))) 2 ((Ar h 6) c)) 3 ((Ar h 6) (((Ar h 17) g).toNatClampNeg))), 198, sl) = some R := hh
  obtain ⟨n, hh⟩ := rn_gr (hc_a rfl rfl hw).wt rfl rfl (by decide) rfl (by decide) (show _ = some (2, ((12 : Nat) : Int), 1) from rfl) rfl hh
  obtain ⟨n, hh⟩ := rn_i rfl rfl rfl rfl hh
  obtain ⟨n, hh⟩ := rn_i rfl rfl rfl rfl hh
  have hh : pm_run PT n fr lo 39 (66, [some (.ref 5), some (.ref q.1), some (.ref 13), some (.int (nI g)), some (.int (nI c))], [.ref 13, .int (nI 4), .ref 12], aset h 12 7 (upd (upd (upd (upd (Ar h 12) 0 ((Ar h 10) g)) 1 (v28t q cc gc (Ar h 7) c ((Ar h 9) g))) 2 ((Ar h 6) c)) 3 ((Ar h 6) (((Ar h 17) g).toNatClampNeg))), 198, sl) = some R := hh
  obtain ⟨n, hh⟩ := rn_gr (hc_a rfl rfl hw).wt rfl rfl (by decide) rfl (by decide) (show _ = some (2, ((18 : Nat) : Int), 1) from rfl) rfl hh
  obtain ⟨n, hh⟩ := rn_i rfl rfl rfl rfl hh
  have hh : pm_run PT n fr lo 39 (70, [some (.ref 5), some (.ref q.1), some (.ref 13), some (.int (nI g)), some (.int (nI c))], [.int (nI g), .ref 18, .int (nI 4), .ref 12], aset h 12 7 (upd (upd (upd (upd (Ar h 12) 0 ((Ar h 10) g)) 1 (v28t q cc gc (Ar h 7) c ((Ar h 9) g))) 2 ((Ar h 6) c)) 3 ((Ar h 6) (((Ar h 17) g).toNatClampNeg))), 198, sl) = some R := hh
  obtain ⟨n, hx11, hh⟩ := en_lu (t := g) (f := Ar h 18) (w := (Ar h 18) g) (nI_clamp (by omega)) (hc_a rfl rfl hw).wt rfl (by decide) rfl (by decide) ((Ar_n (by decide)).trans rfl) (fun _ => rfl) hh
  have hh : pm_run PT n fr lo 39 (71, [some (.ref 5), some (.ref q.1), some (.ref 13), some (.int (nI g)), some (.int (nI c))], [.int ((Ar h 18) g), .int (nI 4), .ref 12], aset h 12 7 (upd (upd (upd (upd (Ar h 12) 0 ((Ar h 10) g)) 1 (v28t q cc gc (Ar h 7) c ((Ar h 9) g))) 2 ((Ar h 6) c)) 3 ((Ar h 6) (((Ar h 17) g).toNatClampNeg))), 198, sl) = some R := hh
  obtain ⟨n, fr1, lo1, r1, hh1, hh⟩ := rn_call (w := 2) (t := 270) rfl rfl hh
  have er12 := v270_ok (a := ((Ar h 18) g)) (hc_a rfl rfl hw) hh1
  subst er12
  have hh : pm_run PT n fr lo 39 (74, [some (.ref 5), some (.ref q.1), some (.ref 13), some (.int (nI g)), some (.int (nI c))], [.int (v270 q cc gc ((Ar h 18) g)), .int (nI 4), .ref 12], aset h 12 7 (upd (upd (upd (upd (Ar h 12) 0 ((Ar h 10) g)) 1 (v28t q cc gc (Ar h 7) c ((Ar h 9) g))) 2 ((Ar h 6) c)) 3 ((Ar h 6) (((Ar h 17) g).toNatClampNeg))), 198, sl) = some R := hh
  obtain ⟨n, hx13, hh⟩ := en_st (t := 4) (f := upd (upd (upd (upd (Ar h 12) 0 ((Ar h 10) g)) 1 (v28t q cc gc (Ar h 7) c ((Ar h 9) g))) 2 ((Ar h 6) c)) 3 ((Ar h 6) (((Ar h 17) g).toNatClampNeg))) (nI_clamp (by omega)) (hc_a rfl rfl hw).wt rfl (by decide) rfl (by decide) Ar_s hh
  have hh : pm_run PT n fr lo 39 (75, [some (.ref 5), some (.ref q.1), some (.ref 13), some (.int (nI g)), some (.int (nI c))], [], aset (aset h 12 7 (upd (upd (upd (upd (Ar h 12) 0 ((Ar h 10) g)) 1 (v28t q cc gc (Ar h 7) c ((Ar h 9) g))) 2 ((Ar h 6) c)) 3 ((Ar h 6) (((Ar h 17) g).toNatClampNeg)))) 12 7 (upd (upd (upd (upd (upd (Ar h 12) 0 ((Ar h 10) g)) 1 (v28t q cc gc (Ar h 7) c ((Ar h 9) g))) 2 ((Ar h 6) c)) 3 ((Ar h 6) (((Ar h 17) g).toNatClampNeg))) 4 (v270 q cc gc ((Ar h 18) g))), 198, sl) = some R := hh
  rw [aset_aset] at hh
  obtain ⟨n, hh⟩ := rn_i rfl rfl rfl rfl hh
  have hh : pm_run PT n fr lo 39 (76, [some (.ref 5), some (.ref q.1), some (.ref 13), some (.int (nI g)), some (.int (nI c))], [.ref 5], aset h 12 7 (upd (upd (upd (upd (upd (Ar h 12) 0 ((Ar h 10) g)) 1 (v28t q cc gc (Ar h 7) c ((Ar h 9) g))) 2 ((Ar h 6) c)) 3 ((Ar h 6) (((Ar h 17) g).toNatClampNeg))) 4 (v270 q cc gc ((Ar h 18) g))), 198, sl) = some R := hh
  obtain ⟨n, hh⟩ := rn_gr (hc_a rfl rfl hw).wt rfl rfl (by decide) rfl (by decide) (show _ = some (2, ((12 : Nat) : Int), 1) from rfl) rfl hh
  obtain ⟨n, hh⟩ := rn_i rfl rfl rfl rfl hh
  obtain ⟨n, hh⟩ := rn_i rfl rfl rfl rfl hh
  have hh : pm_run PT n fr lo 39 (81, [some (.ref 5), some (.ref q.1), some (.ref 13), some (.int (nI g)), some (.int (nI c))], [.ref 5, .int (nI 5), .ref 12], aset h 12 7 (upd (upd (upd (upd (upd (Ar h 12) 0 ((Ar h 10) g)) 1 (v28t q cc gc (Ar h 7) c ((Ar h 9) g))) 2 ((Ar h 6) c)) 3 ((Ar h 6) (((Ar h 17) g).toNatClampNeg))) 4 (v270 q cc gc ((Ar h 18) g))), 198, sl) = some R := hh
  obtain ⟨n, hh⟩ := rn_gr (hc_a rfl rfl hw).wt rfl rfl (by decide) rfl (by decide) (show _ = some (2, ((11 : Nat) : Int), 1) from rfl) rfl hh
  obtain ⟨n, hh⟩ := rn_i rfl rfl rfl rfl hh
  have hh : pm_run PT n fr lo 39 (85, [some (.ref 5), some (.ref q.1), some (.ref 13), some (.int (nI g)), some (.int (nI c))], [.int (nI g), .ref 11, .int (nI 5), .ref 12], aset h 12 7 (upd (upd (upd (upd (upd (Ar h 12) 0 ((Ar h 10) g)) 1 (v28t q cc gc (Ar h 7) c ((Ar h 9) g))) 2 ((Ar h 6) c)) 3 ((Ar h 6) (((Ar h 17) g).toNatClampNeg))) 4 (v270 q cc gc ((Ar h 18) g))), 198, sl) = some R := hh
  obtain ⟨n, hx14, hh⟩ := en_lu (t := g) (f := Ar h 11) (w := (Ar h 11) g) (nI_clamp (by omega)) (hc_a rfl rfl hw).wt rfl (by decide) rfl (by decide) ((Ar_n (by decide)).trans rfl) (fun _ => rfl) hh
  have hh : pm_run PT n fr lo 39 (86, [some (.ref 5), some (.ref q.1), some (.ref 13), some (.int (nI g)), some (.int (nI c))], [.int ((Ar h 11) g), .int (nI 5), .ref 12], aset h 12 7 (upd (upd (upd (upd (upd (Ar h 12) 0 ((Ar h 10) g)) 1 (v28t q cc gc (Ar h 7) c ((Ar h 9) g))) 2 ((Ar h 6) c)) 3 ((Ar h 6) (((Ar h 17) g).toNatClampNeg))) 4 (v270 q cc gc ((Ar h 18) g))), 198, sl) = some R := hh
  obtain ⟨n, hx15, hh⟩ := en_st (t := 5) (f := upd (upd (upd (upd (upd (Ar h 12) 0 ((Ar h 10) g)) 1 (v28t q cc gc (Ar h 7) c ((Ar h 9) g))) 2 ((Ar h 6) c)) 3 ((Ar h 6) (((Ar h 17) g).toNatClampNeg))) 4 (v270 q cc gc ((Ar h 18) g))) (nI_clamp (by omega)) (hc_a rfl rfl hw).wt rfl (by decide) rfl (by decide) Ar_s hh
  have hh : pm_run PT n fr lo 39 (87, [some (.ref 5), some (.ref q.1), some (.ref 13), some (.int (nI g)), some (.int (nI c))], [], aset (aset h 12 7 (upd (upd (upd (upd (upd (Ar h 12) 0 ((Ar h 10) g)) 1 (v28t q cc gc (Ar h 7) c ((Ar h 9) g))) 2 ((Ar h 6) c)) 3 ((Ar h 6) (((Ar h 17) g).toNatClampNeg))) 4 (v270 q cc gc ((Ar h 18) g)))) 12 7 (upd (upd (upd (upd (upd (upd (Ar h 12) 0 ((Ar h 10) g)) 1 (v28t q cc gc (Ar h 7) c ((Ar h 9) g))) 2 ((Ar h 6) c)) 3 ((Ar h 6) (((Ar h 17) g).toNatClampNeg))) 4 (v270 q cc gc ((Ar h 18) g))) 5 ((Ar h 11) g)), 198, sl) = some R := hh
  rw [aset_aset] at hh
  obtain ⟨n, hh⟩ := rn_i rfl rfl rfl rfl hh
  have hh : pm_run PT n fr lo 39 (88, [some (.ref 5), some (.ref q.1), some (.ref 13), some (.int (nI g)), some (.int (nI c))], [.ref 5], aset h 12 7 (upd (upd (upd (upd (upd (upd (Ar h 12) 0 ((Ar h 10) g)) 1 (v28t q cc gc (Ar h 7) c ((Ar h 9) g))) 2 ((Ar h 6) c)) 3 ((Ar h 6) (((Ar h 17) g).toNatClampNeg))) 4 (v270 q cc gc ((Ar h 18) g))) 5 ((Ar h 11) g)), 198, sl) = some R := hh
  obtain ⟨n, hh⟩ := rn_gr (hc_a rfl rfl hw).wt rfl rfl (by decide) rfl (by decide) (show _ = some (2, ((12 : Nat) : Int), 1) from rfl) rfl hh
  obtain ⟨n, hh⟩ := rn_i rfl rfl rfl rfl hh
  obtain ⟨n, hh⟩ := rn_i rfl rfl rfl rfl hh
  obtain ⟨n, hh⟩ := rn_i rfl rfl rfl rfl hh
  have hh : pm_run PT n fr lo 39 (95, [some (.ref 5), some (.ref q.1), some (.ref 13), some (.int (nI g)), some (.int (nI c))], [.int (nI g), .ref 13, .int (nI 6), .ref 12], aset h 12 7 (upd (upd (upd (upd (upd (upd (Ar h 12) 0 ((Ar h 10) g)) 1 (v28t q cc gc (Ar h 7) c ((Ar h 9) g))) 2 ((Ar h 6) c)) 3 ((Ar h 6) (((Ar h 17) g).toNatClampNeg))) 4 (v270 q cc gc ((Ar h 18) g))) 5 ((Ar h 11) g)), 198, sl) = some R := hh
  obtain ⟨n, fr1, lo1, r1, hh1, hh⟩ := rn_call (w := 0) (t := 74) rfl rfl hh
  have er16 := v74_ok (g := g) (hc_a rfl rfl hw) (by omega) hh1
  rw [show Fi (aset h 12 7 (upd (upd (upd (upd (upd (upd (Ar h 12) 0 ((Ar h 10) g)) 1 (v28t q cc gc (Ar h 7) c ((Ar h 9) g))) 2 ((Ar h 6) c)) 3 ((Ar h 6) (((Ar h 17) g).toNatClampNeg))) 4 (v270 q cc gc ((Ar h 18) g))) 5 ((Ar h 11) g))) 13 5 = Fi h 13 5 from ((Fi_a (by decide)).trans rfl)] at er16
  subst er16
  have hh : pm_run PT n fr lo 39 (98, [some (.ref 5), some (.ref q.1), some (.ref 13), some (.int (nI g)), some (.int (nI c))], [.int (cond (v74 q cc gc (Fi h 13 5) g) 1 0), .int (nI 6), .ref 12], aset h 12 7 (upd (upd (upd (upd (upd (upd (Ar h 12) 0 ((Ar h 10) g)) 1 (v28t q cc gc (Ar h 7) c ((Ar h 9) g))) 2 ((Ar h 6) c)) 3 ((Ar h 6) (((Ar h 17) g).toNatClampNeg))) 4 (v270 q cc gc ((Ar h 18) g))) 5 ((Ar h 11) g)), 198, sl) = some R := hh
  obtain ⟨n, hh⟩ := en_zn (cc := .eq) (off := 7) (t := 105) (b := !(v74 q cc gc (Fi h 13 5) g)) eb_eq rfl rfl hh
  have hj18 : ∃ mJ, pm_run PT mJ fr lo 39 (cond (v74 q cc gc (Fi h 13 5) g) (106, [some (.ref 5), some (.ref q.1), some (.ref 13), some (.int (nI g)), some (.int (nI c))], [.int (nI 1), .int (nI 6), .ref 12], aset h 12 7 (upd (upd (upd (upd (upd (upd (Ar h 12) 0 ((Ar h 10) g)) 1 (v28t q cc gc (Ar h 7) c ((Ar h 9) g))) 2 ((Ar h 6) c)) 3 ((Ar h 6) (((Ar h 17) g).toNatClampNeg))) 4 (v270 q cc gc ((Ar h 18) g))) 5 ((Ar h 11) g)), 198, sl) (106, [some (.ref 5), some (.ref q.1), some (.ref 13), some (.int (nI g)), some (.int (nI c))], [.int (nI 0), .int (nI 6), .ref 12], aset h 12 7 (upd (upd (upd (upd (upd (upd (Ar h 12) 0 ((Ar h 10) g)) 1 (v28t q cc gc (Ar h 7) c ((Ar h 9) g))) 2 ((Ar h 6) c)) 3 ((Ar h 6) (((Ar h 17) g).toNatClampNeg))) 4 (v270 q cc gc ((Ar h 18) g))) 5 ((Ar h 11) g)), 198, sl)) = some R := en_J (fun z17 => by
      have hh := en_nt z17 hh
      have hh : pm_run PT n fr lo 39 (101, [some (.ref 5), some (.ref q.1), some (.ref 13), some (.int (nI g)), some (.int (nI c))], [.int (nI 6), .ref 12], aset h 12 7 (upd (upd (upd (upd (upd (upd (Ar h 12) 0 ((Ar h 10) g)) 1 (v28t q cc gc (Ar h 7) c ((Ar h 9) g))) 2 ((Ar h 6) c)) 3 ((Ar h 6) (((Ar h 17) g).toNatClampNeg))) 4 (v270 q cc gc ((Ar h 18) g))) 5 ((Ar h 11) g)), 198, sl) = some R := hh
      obtain ⟨n, hh⟩ := rn_i rfl rfl rfl rfl hh
      obtain ⟨n, hh⟩ := rn_i rfl rfl rfl rfl hh
      exact ⟨n, hh⟩) (fun z17 => by
      have hh := en_nf z17 hh
      have hh : pm_run PT n fr lo 39 (105, [some (.ref 5), some (.ref q.1), some (.ref 13), some (.int (nI g)), some (.int (nI c))], [.int (nI 6), .ref 12], aset h 12 7 (upd (upd (upd (upd (upd (upd (Ar h 12) 0 ((Ar h 10) g)) 1 (v28t q cc gc (Ar h 7) c ((Ar h 9) g))) 2 ((Ar h 6) c)) 3 ((Ar h 6) (((Ar h 17) g).toNatClampNeg))) 4 (v270 q cc gc ((Ar h 18) g))) 5 ((Ar h 11) g)), 198, sl) = some R := hh
      obtain ⟨n, hh⟩ := rn_i rfl rfl rfl rfl hh
      exact ⟨n, hh⟩)
  obtain ⟨n, hh⟩ := hj18
  rw [show (cond (v74 q cc gc (Fi h 13 5) g) (106, [some (.ref 5), some (.ref q.1), some (.ref 13), some (.int (nI g)), some (.int (nI c))], [.int (nI 1), .int (nI 6), .ref 12], aset h 12 7 (upd (upd (upd (upd (upd (upd (Ar h 12) 0 ((Ar h 10) g)) 1 (v28t q cc gc (Ar h 7) c ((Ar h 9) g))) 2 ((Ar h 6) c)) 3 ((Ar h 6) (((Ar h 17) g).toNatClampNeg))) 4 (v270 q cc gc ((Ar h 18) g))) 5 ((Ar h 11) g)), 198, sl) (106, [some (.ref 5), some (.ref q.1), some (.ref 13), some (.int (nI g)), some (.int (nI c))], [.int (nI 0), .int (nI 6), .ref 12], aset h 12 7 (upd (upd (upd (upd (upd (upd (Ar h 12) 0 ((Ar h 10) g)) 1 (v28t q cc gc (Ar h 7) c ((Ar h 9) g))) 2 ((Ar h 6) c)) 3 ((Ar h 6) (((Ar h 17) g).toNatClampNeg))) 4 (v270 q cc gc ((Ar h 18) g))) 5 ((Ar h 11) g)), 198, sl) : pm_St) = (106, [some (.ref 5), some (.ref q.1), some (.ref 13), some (.int (nI g)), some (.int (nI c))], [.int (cond (cond (v74 q cc gc (Fi h 13 5) g) true false) 1 0), .int (nI 6), .ref 12], aset h 12 7 (upd (upd (upd (upd (upd (upd (Ar h 12) 0 ((Ar h 10) g)) 1 (v28t q cc gc (Ar h 7) c ((Ar h 9) g))) 2 ((Ar h 6) c)) 3 ((Ar h 6) (((Ar h 17) g).toNatClampNeg))) 4 (v270 q cc gc ((Ar h 18) g))) 5 ((Ar h 11) g)), 198, sl) from by cases (v74 q cc gc (Fi h 13 5) g) <;> rfl] at hh
  have hh : pm_run PT n fr lo 39 (106, [some (.ref 5), some (.ref q.1), some (.ref 13), some (.int (nI g)), some (.int (nI c))], [.int (cond (cond (v74 q cc gc (Fi h 13 5) g) true false) 1 0), .int (nI 6), .ref 12], aset h 12 7 (upd (upd (upd (upd (upd (upd (Ar h 12) 0 ((Ar h 10) g)) 1 (v28t q cc gc (Ar h 7) c ((Ar h 9) g))) 2 ((Ar h 6) c)) 3 ((Ar h 6) (((Ar h 17) g).toNatClampNeg))) 4 (v270 q cc gc ((Ar h 18) g))) 5 ((Ar h 11) g)), 198, sl) = some R := hh
  obtain ⟨n, hx19, hh⟩ := en_st (t := 6) (f := upd (upd (upd (upd (upd (upd (Ar h 12) 0 ((Ar h 10) g)) 1 (v28t q cc gc (Ar h 7) c ((Ar h 9) g))) 2 ((Ar h 6) c)) 3 ((Ar h 6) (((Ar h 17) g).toNatClampNeg))) 4 (v270 q cc gc ((Ar h 18) g))) 5 ((Ar h 11) g)) (nI_clamp (by omega)) (hc_a rfl rfl hw).wt rfl (by decide) rfl (by decide) Ar_s hh
  have hh : pm_run PT n fr lo 39 (107, [some (.ref 5), some (.ref q.1), some (.ref 13), some (.int (nI g)), some (.int (nI c))], [], aset (aset h 12 7 (upd (upd (upd (upd (upd (upd (Ar h 12) 0 ((Ar h 10) g)) 1 (v28t q cc gc (Ar h 7) c ((Ar h 9) g))) 2 ((Ar h 6) c)) 3 ((Ar h 6) (((Ar h 17) g).toNatClampNeg))) 4 (v270 q cc gc ((Ar h 18) g))) 5 ((Ar h 11) g))) 12 7 (upd (upd (upd (upd (upd (upd (upd (Ar h 12) 0 ((Ar h 10) g)) 1 (v28t q cc gc (Ar h 7) c ((Ar h 9) g))) 2 ((Ar h 6) c)) 3 ((Ar h 6) (((Ar h 17) g).toNatClampNeg))) 4 (v270 q cc gc ((Ar h 18) g))) 5 ((Ar h 11) g)) 6 (cond (cond (v74 q cc gc (Fi h 13 5) g) true false) 1 0)), 198, sl) = some R := hh
  rw [aset_aset] at hh
  obtain ⟨n, hh⟩ := rn_i rfl rfl rfl rfl hh
  obtain ⟨n, hh⟩ := rn_i rfl rfl rfl rfl hh
  have hh : pm_run PT n fr lo 39 (109, [some (.ref 5), some (.ref q.1), some (.ref 13), some (.int (nI g)), some (.int (nI c))], [.ref 5, .ref q.1], aset h 12 7 (upd (upd (upd (upd (upd (upd (upd (Ar h 12) 0 ((Ar h 10) g)) 1 (v28t q cc gc (Ar h 7) c ((Ar h 9) g))) 2 ((Ar h 6) c)) 3 ((Ar h 6) (((Ar h 17) g).toNatClampNeg))) 4 (v270 q cc gc ((Ar h 18) g))) 5 ((Ar h 11) g)) 6 (cond (cond (v74 q cc gc (Fi h 13 5) g) true false) 1 0)), 198, sl) = some R := hh
  obtain ⟨n, hh⟩ := rn_gr (hc_a rfl rfl hw).wt rfl rfl (by decide) rfl (by decide) (show _ = some (2, ((12 : Nat) : Int), 1) from rfl) rfl hh
  have hh : pm_run PT n fr lo 39 (112, [some (.ref 5), some (.ref q.1), some (.ref 13), some (.int (nI g)), some (.int (nI c))], [.ref 12, .ref q.1], aset h 12 7 (upd (upd (upd (upd (upd (upd (upd (Ar h 12) 0 ((Ar h 10) g)) 1 (v28t q cc gc (Ar h 7) c ((Ar h 9) g))) 2 ((Ar h 6) c)) 3 ((Ar h 6) (((Ar h 17) g).toNatClampNeg))) 4 (v270 q cc gc ((Ar h 18) g))) 5 ((Ar h 11) g)) 6 (cond (cond (v74 q cc gc (Fi h 13 5) g) true false) 1 0)), 198, sl) = some R := hh
  obtain ⟨n, fr1, lo1, r1, hh1, hh⟩ := rn_call (w := 0) (t := 68) rfl rfl hh
  obtain ⟨er20, hc21, hf22⟩ := v68_ok (hc_a rfl rfl hw) hh1
  subst er20
  obtain ⟨n, hh⟩ := rn_i rfl rfl rfl rfl hh
  have hh : pm_run PT n fr lo 39 (118, [some (.ref 5), some (.ref q.1), some (.ref 13), some (.int (nI g)), some (.int (nI c))], [.int (nI 999), .int ((v68 q cc gc (aset h 12 7 (upd (upd (upd (upd (upd (upd (upd (Ar h 12) 0 ((Ar h 10) g)) 1 (v28t q cc gc (Ar h 7) c ((Ar h 9) g))) 2 ((Ar h 6) c)) 3 ((Ar h 6) (((Ar h 17) g).toNatClampNeg))) 4 (v270 q cc gc ((Ar h 18) g))) 5 ((Ar h 11) g)) 6 (cond (cond (v74 q cc gc (Fi h 13 5) g) true false) 1 0)))).1)], (v68 q cc gc (aset h 12 7 (upd (upd (upd (upd (upd (upd (upd (Ar h 12) 0 ((Ar h 10) g)) 1 (v28t q cc gc (Ar h 7) c ((Ar h 9) g))) 2 ((Ar h 6) c)) 3 ((Ar h 6) (((Ar h 17) g).toNatClampNeg))) 4 (v270 q cc gc ((Ar h 18) g))) 5 ((Ar h 11) g)) 6 (cond (cond (v74 q cc gc (Fi h 13 5) g) true false) 1 0)))).2, 198, sl) = some R := hh
  obtain ⟨n, fr1, lo1, r1, hh1, hh⟩ := rn_call (w := 3) (t := 159) rfl rfl hh
  have hh1 : pm_run PT n fr1 lo1 159 (0, [some (.int ((v68 q cc gc (aset h 12 7 (upd (upd (upd (upd (upd (upd (upd (Ar h 12) 0 ((Ar h 10) g)) 1 (v28t q cc gc (Ar h 7) c ((Ar h 9) g))) 2 ((Ar h 6) c)) 3 ((Ar h 6) (((Ar h 17) g).toNatClampNeg))) 4 (v270 q cc gc ((Ar h 18) g))) 5 ((Ar h 11) g)) 6 (cond (cond (v74 q cc gc (Fi h 13 5) g) true false) 1 0)))).1)), some (.int (nI 999))], [], (v68 q cc gc (aset h 12 7 (upd (upd (upd (upd (upd (upd (upd (Ar h 12) 0 ((Ar h 10) g)) 1 (v28t q cc gc (Ar h 7) c ((Ar h 9) g))) 2 ((Ar h 6) c)) 3 ((Ar h 6) (((Ar h 17) g).toNatClampNeg))) 4 (v270 q cc gc ((Ar h 18) g))) 5 ((Ar h 11) g)) 6 (cond (cond (v74 q cc gc (Fi h 13 5) g) true false) 1 0)))).2, 198, sl) = some r1 := hh1
  obtain ⟨n1, hh1⟩ := rn_i rfl rfl rfl rfl hh1
  obtain ⟨n1, hh1⟩ := rn_i rfl rfl rfl rfl hh1
  obtain ⟨n1, hh1⟩ := rn_i rfl rfl rfl rfl hh1
  have hh1 : pm_run PT n1 fr1 lo1 159 (3, [some (.int ((v68 q cc gc (aset h 12 7 (upd (upd (upd (upd (upd (upd (upd (Ar h 12) 0 ((Ar h 10) g)) 1 (v28t q cc gc (Ar h 7) c ((Ar h 9) g))) 2 ((Ar h 6) c)) 3 ((Ar h 6) (((Ar h 17) g).toNatClampNeg))) 4 (v270 q cc gc ((Ar h 18) g))) 5 ((Ar h 11) g)) 6 (cond (cond (v74 q cc gc (Fi h 13 5) g) true false) 1 0)))).1)), some (.int (nI 999))], [.int ((v68 q cc gc (aset h 12 7 (upd (upd (upd (upd (upd (upd (upd (Ar h 12) 0 ((Ar h 10) g)) 1 (v28t q cc gc (Ar h 7) c ((Ar h 9) g))) 2 ((Ar h 6) c)) 3 ((Ar h 6) (((Ar h 17) g).toNatClampNeg))) 4 (v270 q cc gc ((Ar h 18) g))) 5 ((Ar h 11) g)) 6 (cond (cond (v74 q cc gc (Fi h 13 5) g) true false) 1 0)))).1), .int (nI 999), .int (nI 0)], (v68 q cc gc (aset h 12 7 (upd (upd (upd (upd (upd (upd (upd (Ar h 12) 0 ((Ar h 10) g)) 1 (v28t q cc gc (Ar h 7) c ((Ar h 9) g))) 2 ((Ar h 6) c)) 3 ((Ar h 6) (((Ar h 17) g).toNatClampNeg))) 4 (v270 q cc gc ((Ar h 18) g))) 5 ((Ar h 11) g)) 6 (cond (cond (v74 q cc gc (Fi h 13 5) g) true false) 1 0)))).2, 198, sl) = some r1 := hh1
  obtain ⟨n1, hh1⟩ := en_min rfl rfl rfl hh1
  have hh1 : pm_run PT n1 fr1 lo1 159 (6, [some (.int ((v68 q cc gc (aset h 12 7 (upd (upd (upd (upd (upd (upd (upd (Ar h 12) 0 ((Ar h 10) g)) 1 (v28t q cc gc (Ar h 7) c ((Ar h 9) g))) 2 ((Ar h 6) c)) 3 ((Ar h 6) (((Ar h 17) g).toNatClampNeg))) 4 (v270 q cc gc ((Ar h 18) g))) 5 ((Ar h 11) g)) 6 (cond (cond (v74 q cc gc (Fi h 13 5) g) true false) 1 0)))).1)), some (.int (nI 999))], [.int (imin (nI 999) ((v68 q cc gc (aset h 12 7 (upd (upd (upd (upd (upd (upd (upd (Ar h 12) 0 ((Ar h 10) g)) 1 (v28t q cc gc (Ar h 7) c ((Ar h 9) g))) 2 ((Ar h 6) c)) 3 ((Ar h 6) (((Ar h 17) g).toNatClampNeg))) 4 (v270 q cc gc ((Ar h 18) g))) 5 ((Ar h 11) g)) 6 (cond (cond (v74 q cc gc (Fi h 13 5) g) true false) 1 0)))).1)), .int (nI 0)], (v68 q cc gc (aset h 12 7 (upd (upd (upd (upd (upd (upd (upd (Ar h 12) 0 ((Ar h 10) g)) 1 (v28t q cc gc (Ar h 7) c ((Ar h 9) g))) 2 ((Ar h 6) c)) 3 ((Ar h 6) (((Ar h 17) g).toNatClampNeg))) 4 (v270 q cc gc ((Ar h 18) g))) 5 ((Ar h 11) g)) 6 (cond (cond (v74 q cc gc (Fi h 13 5) g) true false) 1 0)))).2, 198, sl) = some r1 := hh1
  obtain ⟨n1, hh1⟩ := en_max rfl rfl rfl hh1
  have hh1 : pm_run PT n1 fr1 lo1 159 (9, [some (.int ((v68 q cc gc (aset h 12 7 (upd (upd (upd (upd (upd (upd (upd (Ar h 12) 0 ((Ar h 10) g)) 1 (v28t q cc gc (Ar h 7) c ((Ar h 9) g))) 2 ((Ar h 6) c)) 3 ((Ar h 6) (((Ar h 17) g).toNatClampNeg))) 4 (v270 q cc gc ((Ar h 18) g))) 5 ((Ar h 11) g)) 6 (cond (cond (v74 q cc gc (Fi h 13 5) g) true false) 1 0)))).1)), some (.int (nI 999))], [.int (imax (nI 0) (imin (nI 999) ((v68 q cc gc (aset h 12 7 (upd (upd (upd (upd (upd (upd (upd (Ar h 12) 0 ((Ar h 10) g)) 1 (v28t q cc gc (Ar h 7) c ((Ar h 9) g))) 2 ((Ar h 6) c)) 3 ((Ar h 6) (((Ar h 17) g).toNatClampNeg))) 4 (v270 q cc gc ((Ar h 18) g))) 5 ((Ar h 11) g)) 6 (cond (cond (v74 q cc gc (Fi h 13 5) g) true false) 1 0)))).1)))], (v68 q cc gc (aset h 12 7 (upd (upd (upd (upd (upd (upd (upd (Ar h 12) 0 ((Ar h 10) g)) 1 (v28t q cc gc (Ar h 7) c ((Ar h 9) g))) 2 ((Ar h 6) c)) 3 ((Ar h 6) (((Ar h 17) g).toNatClampNeg))) 4 (v270 q cc gc ((Ar h 18) g))) 5 ((Ar h 11) g)) 6 (cond (cond (v74 q cc gc (Fi h 13 5) g) true false) 1 0)))).2, 198, sl) = some r1 := hh1
  have er23 : r1 = (some (.int (imax (nI 0) (imin (nI 999) ((v68 q cc gc (aset h 12 7 (upd (upd (upd (upd (upd (upd (upd (Ar h 12) 0 ((Ar h 10) g)) 1 (v28t q cc gc (Ar h 7) c ((Ar h 9) g))) 2 ((Ar h 6) c)) 3 ((Ar h 6) (((Ar h 17) g).toNatClampNeg))) 4 (v270 q cc gc ((Ar h 18) g))) 5 ((Ar h 11) g)) 6 (cond (cond (v74 q cc gc (Fi h 13 5) g) true false) 1 0)))).1)))), (v68 q cc gc (aset h 12 7 (upd (upd (upd (upd (upd (upd (upd (Ar h 12) 0 ((Ar h 10) g)) 1 (v28t q cc gc (Ar h 7) c ((Ar h 9) g))) 2 ((Ar h 6) c)) 3 ((Ar h 6) (((Ar h 17) g).toNatClampNeg))) 4 (v270 q cc gc ((Ar h 18) g))) 5 ((Ar h 11) g)) 6 (cond (cond (v74 q cc gc (Fi h 13 5) g) true false) 1 0)))).2, 198, sl) := (rn_ret rfl (Or.inl rfl) hh1).2
  subst er23
  have hh : pm_run PT n fr lo 39 (121, [some (.ref 5), some (.ref q.1), some (.ref 13), some (.int (nI g)), some (.int (nI c))], [.int (imax (nI 0) (imin (nI 999) ((v68 q cc gc (aset h 12 7 (upd (upd (upd (upd (upd (upd (upd (Ar h 12) 0 ((Ar h 10) g)) 1 (v28t q cc gc (Ar h 7) c ((Ar h 9) g))) 2 ((Ar h 6) c)) 3 ((Ar h 6) (((Ar h 17) g).toNatClampNeg))) 4 (v270 q cc gc ((Ar h 18) g))) 5 ((Ar h 11) g)) 6 (cond (cond (v74 q cc gc (Fi h 13 5) g) true false) 1 0)))).1)))], (v68 q cc gc (aset h 12 7 (upd (upd (upd (upd (upd (upd (upd (Ar h 12) 0 ((Ar h 10) g)) 1 (v28t q cc gc (Ar h 7) c ((Ar h 9) g))) 2 ((Ar h 6) c)) 3 ((Ar h 6) (((Ar h 17) g).toNatClampNeg))) 4 (v270 q cc gc ((Ar h 18) g))) 5 ((Ar h 11) g)) 6 (cond (cond (v74 q cc gc (Fi h 13 5) g) true false) 1 0)))).2, 198, sl) = some R := hh
  have er24 : R = (some (.int (imax (nI 0) (imin (nI 999) ((v68 q cc gc (aset h 12 7 (upd (upd (upd (upd (upd (upd (upd (Ar h 12) 0 ((Ar h 10) g)) 1 (v28t q cc gc (Ar h 7) c ((Ar h 9) g))) 2 ((Ar h 6) c)) 3 ((Ar h 6) (((Ar h 17) g).toNatClampNeg))) 4 (v270 q cc gc ((Ar h 18) g))) 5 ((Ar h 11) g)) 6 (cond (cond (v74 q cc gc (Fi h 13 5) g) true false) 1 0)))).1)))), (v68 q cc gc (aset h 12 7 (upd (upd (upd (upd (upd (upd (upd (Ar h 12) 0 ((Ar h 10) g)) 1 (v28t q cc gc (Ar h 7) c ((Ar h 9) g))) 2 ((Ar h 6) c)) 3 ((Ar h 6) (((Ar h 17) g).toNatClampNeg))) 4 (v270 q cc gc ((Ar h 18) g))) 5 ((Ar h 11) g)) 6 (cond (cond (v74 q cc gc (Fi h 13 5) g) true false) 1 0)))).2, 198, sl) := (rn_ret rfl (Or.inl rfl) hh).2
  have ed : v39 q cc gc h g c = (imax (nI 0) (imin (nI 999) ((v68 q cc gc (aset h 12 7 (upd (upd (upd (upd (upd (upd (upd (Ar h 12) 0 ((Ar h 10) g)) 1 (v28t q cc gc (Ar h 7) c ((Ar h 9) g))) 2 ((Ar h 6) c)) 3 ((Ar h 6) (((Ar h 17) g).toNatClampNeg))) 4 (v270 q cc gc ((Ar h 18) g))) 5 ((Ar h 11) g)) 6 (cond (cond (v74 q cc gc (Fi h 13 5) g) true false) 1 0)))).1)), (v68 q cc gc (aset h 12 7 (upd (upd (upd (upd (upd (upd (upd (Ar h 12) 0 ((Ar h 10) g)) 1 (v28t q cc gc (Ar h 7) c ((Ar h 9) g))) 2 ((Ar h 6) c)) 3 ((Ar h 6) (((Ar h 17) g).toNatClampNeg))) 4 (v270 q cc gc ((Ar h 18) g))) 5 ((Ar h 11) g)) 6 (cond (cond (v74 q cc gc (Fi h 13 5) g) true false) 1 0)))).2) := rfl
  refine ⟨?_, ?_, ?_⟩ <;> rw [ed]
  · exact er24
  · exact hc21
  · exact (fr_g rfl rfl hf22 (fr_a rfl rfl fr_0))
theorem v39_fr {cc gc : Nat} {q : QT} {h : pm_H} {g : Nat} {c : Nat} (hw : HC q cc gc h) : HC q cc gc ((v39 q cc gc h g c).2) ∧ frm [12, 142, 144, 145, 147] [(142, 3), (145, 3)] h ((v39 q cc gc h g c).2) := by
  unfold v39
  show HC q cc gc ((v68 q cc gc (aset h 12 7 (upd (upd (upd (upd (upd (upd (upd (Ar h 12) 0 ((Ar h 10) g)) 1 (v28t q cc gc (Ar h 7) c ((Ar h 9) g))) 2 ((Ar h 6) c)) 3 ((Ar h 6) (((Ar h 17) g).toNatClampNeg))) 4 (v270 q cc gc ((Ar h 18) g))) 5 ((Ar h 11) g)) 6 (cond (cond (v74 q cc gc (Fi h 13 5) g) true false) 1 0)))).2) ∧ frm [12, 142, 144, 145, 147] [(142, 3), (145, 3)] h ((v68 q cc gc (aset h 12 7 (upd (upd (upd (upd (upd (upd (upd (Ar h 12) 0 ((Ar h 10) g)) 1 (v28t q cc gc (Ar h 7) c ((Ar h 9) g))) 2 ((Ar h 6) c)) 3 ((Ar h 6) (((Ar h 17) g).toNatClampNeg))) 4 (v270 q cc gc ((Ar h 18) g))) 5 ((Ar h 11) g)) 6 (cond (cond (v74 q cc gc (Fi h 13 5) g) true false) 1 0)))).2)
  exact ⟨(v68_fr (hc_a rfl rfl hw)).1, (fr_g rfl rfl (v68_fr (hc_a rfl rfl hw)).2 (fr_a rfl rfl fr_0))⟩
def v39t (q : QT) (cc gc : Nat) (h : pm_H) (g : Nat) (c : Nat) : Int32 × pm_H := (imax (nI 0) (imin (nI 999) ((v68 q cc gc (aset h 12 7 (upd (upd (upd (upd (upd (upd (upd (Ar h 12) 0 ((Ar h 10) g)) 1 (v28t q cc gc (Ar h 7) c ((Ar h 9) g))) 2 ((Ar h 6) c)) 3 ((Ar h 6) (((Ar h 23) g).toNatClampNeg))) 4 (v270 q cc gc ((Ar h 24) g))) 5 ((Ar h 11) g)) 6 (cond (cond (v74 q cc gc (Fi h 19 5) g) true false) 1 0)))).1)), (v68 q cc gc (aset h 12 7 (upd (upd (upd (upd (upd (upd (upd (Ar h 12) 0 ((Ar h 10) g)) 1 (v28t q cc gc (Ar h 7) c ((Ar h 9) g))) 2 ((Ar h 6) c)) 3 ((Ar h 6) (((Ar h 23) g).toNatClampNeg))) 4 (v270 q cc gc ((Ar h 24) g))) 5 ((Ar h 11) g)) 6 (cond (cond (v74 q cc gc (Fi h 19 5) g) true false) 1 0)))).2)
theorem v39t_ok {n fr lo sl cc gc : Nat} {q : QT} {h : pm_H} {R : pm_Rs} {g : Nat} {c : Nat} (hw : HC q cc gc h) (h_g : g < 10000) (h_c : c < 10000) (hh : pm_run PT n fr lo 39 (0, pm_l0 [.ref 5, .ref q.1, .ref 19, .int (nI g), .int (nI c)] 5, [], h, 198, sl) = some R) : R = (some (.int ((v39t q cc gc h g c).1)), (v39t q cc gc h g c).2, 198, sl) ∧ HC q cc gc ((v39t q cc gc h g c).2) ∧ frm [12, 142, 144, 145, 147] [(142, 3), (145, 3)] h ((v39t q cc gc h g c).2) := by
  have hcc := hw.cb
  have hgc := hw.gb
  have hzr := hw.zr
  obtain ⟨n, hh⟩ := rn_i rfl rfl rfl rfl hh
  have hh : pm_run PT n fr lo 39 (1, [some (.ref 5), some (.ref q.1), some (.ref 19), some (.int (nI g)), some (.int (nI c))], [.ref 5], h, 198, sl) = some R := hh
  obtain ⟨n, hh⟩ := rn_gr hw.wt rfl rfl (by decide) rfl (by decide) (show _ = some (2, ((12 : Nat) : Int), 1) from rfl) rfl hh
  obtain ⟨n, hh⟩ := rn_i rfl rfl rfl rfl hh
  obtain ⟨n, hh⟩ := rn_i rfl rfl rfl rfl hh
  have hh : pm_run PT n fr lo 39 (6, [some (.ref 5), some (.ref q.1), some (.ref 19), some (.int (nI g)), some (.int (nI c))], [.ref 5, .int (nI 0), .ref 12], h, 198, sl) = some R := hh
  obtain ⟨n, hh⟩ := rn_gr hw.wt rfl rfl (by decide) rfl (by decide) (show _ = some (2, ((10 : Nat) : Int), 1) from rfl) rfl hh
  obtain ⟨n, hh⟩ := rn_i rfl rfl rfl rfl hh
  have hh : pm_run PT n fr lo 39 (10, [some (.ref 5), some (.ref q.1), some (.ref 19), some (.int (nI g)), some (.int (nI c))], [.int (nI g), .ref 10, .int (nI 0), .ref 12], h, 198, sl) = some R := hh
  obtain ⟨n, hx1, hh⟩ := en_lu (t := g) (f := Ar h 10) (w := (Ar h 10) g) (nI_clamp (by omega)) hw.wt rfl (by decide) rfl (by decide) rfl (fun _ => rfl) hh
  have hh : pm_run PT n fr lo 39 (11, [some (.ref 5), some (.ref q.1), some (.ref 19), some (.int (nI g)), some (.int (nI c))], [.int ((Ar h 10) g), .int (nI 0), .ref 12], h, 198, sl) = some R := hh
  obtain ⟨n, hx2, hh⟩ := en_st (t := 0) (f := Ar h 12) (nI_clamp (by omega)) hw.wt rfl (by decide) rfl (by decide) rfl hh
  obtain ⟨n, hh⟩ := rn_i rfl rfl rfl rfl hh
  have hh : pm_run PT n fr lo 39 (13, [some (.ref 5), some (.ref q.1), some (.ref 19), some (.int (nI g)), some (.int (nI c))], [.ref 5], aset h 12 7 (upd (Ar h 12) 0 ((Ar h 10) g)), 198, sl) = some R := hh
  obtain ⟨n, hh⟩ := rn_gr (hc_a rfl rfl hw).wt rfl rfl (by decide) rfl (by decide) (show _ = some (2, ((12 : Nat) : Int), 1) from rfl) rfl hh
  obtain ⟨n, hh⟩ := rn_i rfl rfl rfl rfl hh
  obtain ⟨n, hh⟩ := rn_i rfl rfl rfl rfl hh
  obtain ⟨n, hh⟩ := rn_i rfl rfl rfl rfl hh
  obtain ⟨n, hh⟩ := rn_i rfl rfl rfl rfl hh
  have hh : pm_run PT n fr lo 39 (21, [some (.ref 5), some (.ref q.1), some (.ref 19), some (.int (nI g)), some (.int (nI c))], [.ref 5, .int (nI c), .ref 5, .int (nI 1), .ref 12], aset h 12 7 (upd (Ar h 12) 0 ((Ar h 10) g)), 198, sl) = some R := hh
  obtain ⟨n, hh⟩ := rn_gr (hc_a rfl rfl hw).wt rfl rfl (by decide) rfl (by decide) (show _ = some (2, ((9 : Nat) : Int), 1) from rfl) rfl hh
  obtain ⟨n, hh⟩ := rn_i rfl rfl rfl rfl hh
  have hh : pm_run PT n fr lo 39 (25, [some (.ref 5), some (.ref q.1), some (.ref 19), some (.int (nI g)), some (.int (nI c))], [.int (nI g), .ref 9, .int (nI c), .ref 5, .int (nI 1), .ref 12], aset h 12 7 (upd (Ar h 12) 0 ((Ar h 10) g)), 198, sl) = some R := hh
  obtain ⟨n, hx3, hh⟩ := en_lu (t := g) (f := Ar h 9) (w := (Ar h 9) g) (nI_clamp (by omega)) (hc_a rfl rfl hw).wt rfl (by decide) rfl (by decide) ((Ar_n (by decide)).trans rfl) (fun _ => rfl) hh
  have hh : pm_run PT n fr lo 39 (26, [some (.ref 5), some (.ref q.1), some (.ref 19), some (.int (nI g)), some (.int (nI c))], [.int ((Ar h 9) g), .int (nI c), .ref 5, .int (nI 1), .ref 12], aset h 12 7 (upd (Ar h 12) 0 ((Ar h 10) g)), 198, sl) = some R := hh
  obtain ⟨n, fr1, lo1, r1, hh1, hh⟩ := rn_call (w := 0) (t := 28) rfl rfl hh
  have er4 := v28t_ok (c := c) (d := ((Ar h 9) g)) (hc_a rfl rfl hw) (by omega) hh1
  rw [show Ar (aset h 12 7 (upd (Ar h 12) 0 ((Ar h 10) g))) 7 = Ar h 7 from ((Ar_n (by decide)).trans rfl)] at er4
  subst er4
  have hh : pm_run PT n fr lo 39 (29, [some (.ref 5), some (.ref q.1), some (.ref 19), some (.int (nI g)), some (.int (nI c))], [.int (v28t q cc gc (Ar h 7) c ((Ar h 9) g)), .int (nI 1), .ref 12], aset h 12 7 (upd (Ar h 12) 0 ((Ar h 10) g)), 198, sl) = some R := hh
  obtain ⟨n, hx5, hh⟩ := en_st (t := 1) (f := upd (Ar h 12) 0 ((Ar h 10) g)) (nI_clamp (by omega)) (hc_a rfl rfl hw).wt rfl (by decide) rfl (by decide) Ar_s hh
  have hh : pm_run PT n fr lo 39 (30, [some (.ref 5), some (.ref q.1), some (.ref 19), some (.int (nI g)), some (.int (nI c))], [], aset (aset h 12 7 (upd (Ar h 12) 0 ((Ar h 10) g))) 12 7 (upd (upd (Ar h 12) 0 ((Ar h 10) g)) 1 (v28t q cc gc (Ar h 7) c ((Ar h 9) g))), 198, sl) = some R := hh
  rw [aset_aset] at hh
  obtain ⟨n, hh⟩ := rn_i rfl rfl rfl rfl hh
  have hh : pm_run PT n fr lo 39 (31, [some (.ref 5), some (.ref q.1), some (.ref 19), some (.int (nI g)), some (.int (nI c))], [.ref 5], aset h 12 7 (upd (upd (Ar h 12) 0 ((Ar h 10) g)) 1 (v28t q cc gc (Ar h 7) c ((Ar h 9) g))), 198, sl) = some R := hh
  obtain ⟨n, hh⟩ := rn_gr (hc_a rfl rfl hw).wt rfl rfl (by decide) rfl (by decide) (show _ = some (2, ((12 : Nat) : Int), 1) from rfl) rfl hh
  obtain ⟨n, hh⟩ := rn_i rfl rfl rfl rfl hh
  obtain ⟨n, hh⟩ := rn_i rfl rfl rfl rfl hh
  have hh : pm_run PT n fr lo 39 (36, [some (.ref 5), some (.ref q.1), some (.ref 19), some (.int (nI g)), some (.int (nI c))], [.ref 5, .int (nI 2), .ref 12], aset h 12 7 (upd (upd (Ar h 12) 0 ((Ar h 10) g)) 1 (v28t q cc gc (Ar h 7) c ((Ar h 9) g))), 198, sl) = some R := hh
  obtain ⟨n, hh⟩ := rn_gr (hc_a rfl rfl hw).wt rfl rfl (by decide) rfl (by decide) (show _ = some (2, ((6 : Nat) : Int), 1) from rfl) rfl hh
  obtain ⟨n, hh⟩ := rn_i rfl rfl rfl rfl hh
  have hh : pm_run PT n fr lo 39 (41, [some (.ref 5), some (.ref q.1), some (.ref 19), some (.int (nI g)), some (.int (nI c))], [.int (nI c), .ref 6, .int (nI 2), .ref 12], aset h 12 7 (upd (upd (Ar h 12) 0 ((Ar h 10) g)) 1 (v28t q cc gc (Ar h 7) c ((Ar h 9) g))), 198, sl) = some R := hh
  obtain ⟨n, hx6, hh⟩ := en_lu (t := c) (f := Ar h 6) (w := (Ar h 6) c) (nI_clamp (by omega)) (hc_a rfl rfl hw).wt rfl (by decide) rfl (by decide) ((Ar_n (by decide)).trans rfl) (fun _ => rfl) hh
  have hh : pm_run PT n fr lo 39 (42, [some (.ref 5), some (.ref q.1), some (.ref 19), some (.int (nI g)), some (.int (nI c))], [.int ((Ar h 6) c), .int (nI 2), .ref 12], aset h 12 7 (upd (upd (Ar h 12) 0 ((Ar h 10) g)) 1 (v28t q cc gc (Ar h 7) c ((Ar h 9) g))), 198, sl) = some R := hh
  obtain ⟨n, hx7, hh⟩ := en_st (t := 2) (f := upd (upd (Ar h 12) 0 ((Ar h 10) g)) 1 (v28t q cc gc (Ar h 7) c ((Ar h 9) g))) (nI_clamp (by omega)) (hc_a rfl rfl hw).wt rfl (by decide) rfl (by decide) Ar_s hh
  have hh : pm_run PT n fr lo 39 (43, [some (.ref 5), some (.ref q.1), some (.ref 19), some (.int (nI g)), some (.int (nI c))], [], aset (aset h 12 7 (upd (upd (Ar h 12) 0 ((Ar h 10) g)) 1 (v28t q cc gc (Ar h 7) c ((Ar h 9) g)))) 12 7 (upd (upd (upd (Ar h 12) 0 ((Ar h 10) g)) 1 (v28t q cc gc (Ar h 7) c ((Ar h 9) g))) 2 ((Ar h 6) c)), 198, sl) = some R := hh
  rw [aset_aset] at hh
  obtain ⟨n, hh⟩ := rn_i rfl rfl rfl rfl hh
  have hh : pm_run PT n fr lo 39 (44, [some (.ref 5), some (.ref q.1), some (.ref 19), some (.int (nI g)), some (.int (nI c))], [.ref 5], aset h 12 7 (upd (upd (upd (Ar h 12) 0 ((Ar h 10) g)) 1 (v28t q cc gc (Ar h 7) c ((Ar h 9) g))) 2 ((Ar h 6) c)), 198, sl) = some R := hh
  obtain ⟨n, hh⟩ := rn_gr (hc_a rfl rfl hw).wt rfl rfl (by decide) rfl (by decide) (show _ = some (2, ((12 : Nat) : Int), 1) from rfl) rfl hh
  obtain ⟨n, hh⟩ := rn_i rfl rfl rfl rfl hh
  obtain ⟨n, hh⟩ := rn_i rfl rfl rfl rfl hh
  have hh : pm_run PT n fr lo 39 (49, [some (.ref 5), some (.ref q.1), some (.ref 19), some (.int (nI g)), some (.int (nI c))], [.ref 5, .int (nI 3), .ref 12], aset h 12 7 (upd (upd (upd (Ar h 12) 0 ((Ar h 10) g)) 1 (v28t q cc gc (Ar h 7) c ((Ar h 9) g))) 2 ((Ar h 6) c)), 198, sl) = some R := hh
  obtain ⟨n, hh⟩ := rn_gr (hc_a rfl rfl hw).wt rfl rfl (by decide) rfl (by decide) (show _ = some (2, ((6 : Nat) : Int), 1) from rfl) rfl hh
  obtain ⟨n, hh⟩ := rn_i rfl rfl rfl rfl hh
  have hh : pm_run PT n fr lo 39 (53, [some (.ref 5), some (.ref q.1), some (.ref 19), some (.int (nI g)), some (.int (nI c))], [.ref 19, .ref 6, .int (nI 3), .ref 12], aset h 12 7 (upd (upd (upd (Ar h 12) 0 ((Ar h 10) g)) 1 (v28t q cc gc (Ar h 7) c ((Ar h 9) g))) 2 ((Ar h 6) c)), 198, sl) = some R := hh
  obtain ⟨n, hh⟩ := rn_gr (hc_a rfl rfl hw).wt rfl rfl (by decide) rfl (by decide) (show _ = some (2, ((23 : Nat) : Int), 1) from rfl) rfl hh
  obtain ⟨n, hh⟩ := rn_i rfl rfl rfl rfl hh
  have hh : pm_run PT n fr lo 39 (57, [some (.ref 5), some (.ref q.1), some (.ref 19), some (.int (nI g)), some (.int (nI c))], [.int (nI g), .ref 23, .ref 6, .int (nI 3), .ref 12], aset h 12 7 (upd (upd (upd (Ar h 12) 0 ((Ar h 10) g)) 1 (v28t q cc gc (Ar h 7) c ((Ar h 9) g))) 2 ((Ar h 6) c)), 198, sl) = some R := hh
  obtain ⟨n, hx8, hh⟩ := en_lu (t := g) (f := Ar h 23) (w := (Ar h 23) g) (nI_clamp (by omega)) (hc_a rfl rfl hw).wt rfl (by decide) rfl (by decide) ((Ar_n (by decide)).trans rfl) (fun _ => rfl) hh
  have hh : pm_run PT n fr lo 39 (58, [some (.ref 5), some (.ref q.1), some (.ref 19), some (.int (nI g)), some (.int (nI c))], [.int ((Ar h 23) g), .ref 6, .int (nI 3), .ref 12], aset h 12 7 (upd (upd (upd (Ar h 12) 0 ((Ar h 10) g)) 1 (v28t q cc gc (Ar h 7) c ((Ar h 9) g))) 2 ((Ar h 6) c)), 198, sl) = some R := hh
  obtain ⟨n, hx9, hh⟩ := en_lu (t := ((Ar h 23) g).toNatClampNeg) (f := Ar h 6) (w := (Ar h 6) (((Ar h 23) g).toNatClampNeg)) rfl (hc_a rfl rfl hw).wt rfl (by decide) rfl (by decide) ((Ar_n (by decide)).trans rfl) (fun _ => rfl) hh
  have hh : pm_run PT n fr lo 39 (59, [some (.ref 5), some (.ref q.1), some (.ref 19), some (.int (nI g)), some (.int (nI c))], [.int ((Ar h 6) (((Ar h 23) g).toNatClampNeg)), .int (nI 3), .ref 12], aset h 12 7 (upd (upd (upd (Ar h 12) 0 ((Ar h 10) g)) 1 (v28t q cc gc (Ar h 7) c ((Ar h 9) g))) 2 ((Ar h 6) c)), 198, sl) = some R := hh
  obtain ⟨n, hx10, hh⟩ := en_st (t := 3) (f := upd (upd (upd (Ar h 12) 0 ((Ar h 10) g)) 1 (v28t q cc gc (Ar h 7) c ((Ar h 9) g))) 2 ((Ar h 6) c)) (nI_clamp (by omega)) (hc_a rfl rfl hw).wt rfl (by decide) rfl (by decide) Ar_s hh
  have hh : pm_run PT n fr lo 39 (60, [some (.ref 5), some (.ref q.1), some (.ref 19), some (.int (nI g)), some (.int (nI c))], [], aset (aset h 12 7 (upd (upd (upd (Ar h 12) 0 ((Ar h 10) g)) 1 (v28t q cc gc (Ar h 7) c ((Ar h 9) g))) 2 ((Ar h 6) c))) 12 7 (upd (upd (upd (upd (Ar h 12) 0 ((Ar h 10) g)) 1 (v28t q cc gc (Ar h 7) c ((Ar h 9) g))) 2 ((Ar h 6) c)) 3 ((Ar h 6) (((Ar h 23) g).toNatClampNeg))), 198, sl) = some R := hh
  rw [aset_aset] at hh
  obtain ⟨n, hh⟩ := rn_i rfl rfl rfl rfl hh
  have hh : pm_run PT n fr lo 39 (61, [some (.ref 5), some (.ref q.1), some (.ref 19), some (.int (nI g)), some (.int (nI c))], [.ref 5], aset h 12 7 (upd (upd (upd (upd (Ar h 12) 0 ((Ar h 10) g)) 1 (v28t q cc gc (Ar h 7) c ((Ar h 9) g))) 2 ((Ar h 6) c)) 3 ((Ar h 6) (((Ar h 23) g).toNatClampNeg))), 198, sl) = some R := hh
  obtain ⟨n, hh⟩ := rn_gr (hc_a rfl rfl hw).wt rfl rfl (by decide) rfl (by decide) (show _ = some (2, ((12 : Nat) : Int), 1) from rfl) rfl hh
  obtain ⟨n, hh⟩ := rn_i rfl rfl rfl rfl hh
  obtain ⟨n, hh⟩ := rn_i rfl rfl rfl rfl hh
  have hh : pm_run PT n fr lo 39 (66, [some (.ref 5), some (.ref q.1), some (.ref 19), some (.int (nI g)), some (.int (nI c))], [.ref 19, .int (nI 4), .ref 12], aset h 12 7 (upd (upd (upd (upd (Ar h 12) 0 ((Ar h 10) g)) 1 (v28t q cc gc (Ar h 7) c ((Ar h 9) g))) 2 ((Ar h 6) c)) 3 ((Ar h 6) (((Ar h 23) g).toNatClampNeg))), 198, sl) = some R := hh
  obtain ⟨n, hh⟩ := rn_gr (hc_a rfl rfl hw).wt rfl rfl (by decide) rfl (by decide) (show _ = some (2, ((24 : Nat) : Int), 1) from rfl) rfl hh
  obtain ⟨n, hh⟩ := rn_i rfl rfl rfl rfl hh
  have hh : pm_run PT n fr lo 39 (70, [some (.ref 5), some (.ref q.1), some (.ref 19), some (.int (nI g)), some (.int (nI c))], [.int (nI g), .ref 24, .int (nI 4), .ref 12], aset h 12 7 (upd (upd (upd (upd (Ar h 12) 0 ((Ar h 10) g)) 1 (v28t q cc gc (Ar h 7) c ((Ar h 9) g))) 2 ((Ar h 6) c)) 3 ((Ar h 6) (((Ar h 23) g).toNatClampNeg))), 198, sl) = some R := hh
  obtain ⟨n, hx11, hh⟩ := en_lu (t := g) (f := Ar h 24) (w := (Ar h 24) g) (nI_clamp (by omega)) (hc_a rfl rfl hw).wt rfl (by decide) rfl (by decide) ((Ar_n (by decide)).trans rfl) (fun _ => rfl) hh
  have hh : pm_run PT n fr lo 39 (71, [some (.ref 5), some (.ref q.1), some (.ref 19), some (.int (nI g)), some (.int (nI c))], [.int ((Ar h 24) g), .int (nI 4), .ref 12], aset h 12 7 (upd (upd (upd (upd (Ar h 12) 0 ((Ar h 10) g)) 1 (v28t q cc gc (Ar h 7) c ((Ar h 9) g))) 2 ((Ar h 6) c)) 3 ((Ar h 6) (((Ar h 23) g).toNatClampNeg))), 198, sl) = some R := hh
  obtain ⟨n, fr1, lo1, r1, hh1, hh⟩ := rn_call (w := 2) (t := 270) rfl rfl hh
  have er12 := v270_ok (a := ((Ar h 24) g)) (hc_a rfl rfl hw) hh1
  subst er12
  have hh : pm_run PT n fr lo 39 (74, [some (.ref 5), some (.ref q.1), some (.ref 19), some (.int (nI g)), some (.int (nI c))], [.int (v270 q cc gc ((Ar h 24) g)), .int (nI 4), .ref 12], aset h 12 7 (upd (upd (upd (upd (Ar h 12) 0 ((Ar h 10) g)) 1 (v28t q cc gc (Ar h 7) c ((Ar h 9) g))) 2 ((Ar h 6) c)) 3 ((Ar h 6) (((Ar h 23) g).toNatClampNeg))), 198, sl) = some R := hh
  obtain ⟨n, hx13, hh⟩ := en_st (t := 4) (f := upd (upd (upd (upd (Ar h 12) 0 ((Ar h 10) g)) 1 (v28t q cc gc (Ar h 7) c ((Ar h 9) g))) 2 ((Ar h 6) c)) 3 ((Ar h 6) (((Ar h 23) g).toNatClampNeg))) (nI_clamp (by omega)) (hc_a rfl rfl hw).wt rfl (by decide) rfl (by decide) Ar_s hh
  have hh : pm_run PT n fr lo 39 (75, [some (.ref 5), some (.ref q.1), some (.ref 19), some (.int (nI g)), some (.int (nI c))], [], aset (aset h 12 7 (upd (upd (upd (upd (Ar h 12) 0 ((Ar h 10) g)) 1 (v28t q cc gc (Ar h 7) c ((Ar h 9) g))) 2 ((Ar h 6) c)) 3 ((Ar h 6) (((Ar h 23) g).toNatClampNeg)))) 12 7 (upd (upd (upd (upd (upd (Ar h 12) 0 ((Ar h 10) g)) 1 (v28t q cc gc (Ar h 7) c ((Ar h 9) g))) 2 ((Ar h 6) c)) 3 ((Ar h 6) (((Ar h 23) g).toNatClampNeg))) 4 (v270 q cc gc ((Ar h 24) g))), 198, sl) = some R := hh
  rw [aset_aset] at hh
  obtain ⟨n, hh⟩ := rn_i rfl rfl rfl rfl hh
  have hh : pm_run PT n fr lo 39 (76, [some (.ref 5), some (.ref q.1), some (.ref 19), some (.int (nI g)), some (.int (nI c))], [.ref 5], aset h 12 7 (upd (upd (upd (upd (upd (Ar h 12) 0 ((Ar h 10) g)) 1 (v28t q cc gc (Ar h 7) c ((Ar h 9) g))) 2 ((Ar h 6) c)) 3 ((Ar h 6) (((Ar h 23) g).toNatClampNeg))) 4 (v270 q cc gc ((Ar h 24) g))), 198, sl) = some R := hh
  obtain ⟨n, hh⟩ := rn_gr (hc_a rfl rfl hw).wt rfl rfl (by decide) rfl (by decide) (show _ = some (2, ((12 : Nat) : Int), 1) from rfl) rfl hh
  obtain ⟨n, hh⟩ := rn_i rfl rfl rfl rfl hh
  obtain ⟨n, hh⟩ := rn_i rfl rfl rfl rfl hh
  have hh : pm_run PT n fr lo 39 (81, [some (.ref 5), some (.ref q.1), some (.ref 19), some (.int (nI g)), some (.int (nI c))], [.ref 5, .int (nI 5), .ref 12], aset h 12 7 (upd (upd (upd (upd (upd (Ar h 12) 0 ((Ar h 10) g)) 1 (v28t q cc gc (Ar h 7) c ((Ar h 9) g))) 2 ((Ar h 6) c)) 3 ((Ar h 6) (((Ar h 23) g).toNatClampNeg))) 4 (v270 q cc gc ((Ar h 24) g))), 198, sl) = some R := hh
  obtain ⟨n, hh⟩ := rn_gr (hc_a rfl rfl hw).wt rfl rfl (by decide) rfl (by decide) (show _ = some (2, ((11 : Nat) : Int), 1) from rfl) rfl hh
  obtain ⟨n, hh⟩ := rn_i rfl rfl rfl rfl hh
  have hh : pm_run PT n fr lo 39 (85, [some (.ref 5), some (.ref q.1), some (.ref 19), some (.int (nI g)), some (.int (nI c))], [.int (nI g), .ref 11, .int (nI 5), .ref 12], aset h 12 7 (upd (upd (upd (upd (upd (Ar h 12) 0 ((Ar h 10) g)) 1 (v28t q cc gc (Ar h 7) c ((Ar h 9) g))) 2 ((Ar h 6) c)) 3 ((Ar h 6) (((Ar h 23) g).toNatClampNeg))) 4 (v270 q cc gc ((Ar h 24) g))), 198, sl) = some R := hh
  obtain ⟨n, hx14, hh⟩ := en_lu (t := g) (f := Ar h 11) (w := (Ar h 11) g) (nI_clamp (by omega)) (hc_a rfl rfl hw).wt rfl (by decide) rfl (by decide) ((Ar_n (by decide)).trans rfl) (fun _ => rfl) hh
  have hh : pm_run PT n fr lo 39 (86, [some (.ref 5), some (.ref q.1), some (.ref 19), some (.int (nI g)), some (.int (nI c))], [.int ((Ar h 11) g), .int (nI 5), .ref 12], aset h 12 7 (upd (upd (upd (upd (upd (Ar h 12) 0 ((Ar h 10) g)) 1 (v28t q cc gc (Ar h 7) c ((Ar h 9) g))) 2 ((Ar h 6) c)) 3 ((Ar h 6) (((Ar h 23) g).toNatClampNeg))) 4 (v270 q cc gc ((Ar h 24) g))), 198, sl) = some R := hh
  obtain ⟨n, hx15, hh⟩ := en_st (t := 5) (f := upd (upd (upd (upd (upd (Ar h 12) 0 ((Ar h 10) g)) 1 (v28t q cc gc (Ar h 7) c ((Ar h 9) g))) 2 ((Ar h 6) c)) 3 ((Ar h 6) (((Ar h 23) g).toNatClampNeg))) 4 (v270 q cc gc ((Ar h 24) g))) (nI_clamp (by omega)) (hc_a rfl rfl hw).wt rfl (by decide) rfl (by decide) Ar_s hh
  have hh : pm_run PT n fr lo 39 (87, [some (.ref 5), some (.ref q.1), some (.ref 19), some (.int (nI g)), some (.int (nI c))], [], aset (aset h 12 7 (upd (upd (upd (upd (upd (Ar h 12) 0 ((Ar h 10) g)) 1 (v28t q cc gc (Ar h 7) c ((Ar h 9) g))) 2 ((Ar h 6) c)) 3 ((Ar h 6) (((Ar h 23) g).toNatClampNeg))) 4 (v270 q cc gc ((Ar h 24) g)))) 12 7 (upd (upd (upd (upd (upd (upd (Ar h 12) 0 ((Ar h 10) g)) 1 (v28t q cc gc (Ar h 7) c ((Ar h 9) g))) 2 ((Ar h 6) c)) 3 ((Ar h 6) (((Ar h 23) g).toNatClampNeg))) 4 (v270 q cc gc ((Ar h 24) g))) 5 ((Ar h 11) g)), 198, sl) = some R := hh
  rw [aset_aset] at hh
  obtain ⟨n, hh⟩ := rn_i rfl rfl rfl rfl hh
  have hh : pm_run PT n fr lo 39 (88, [some (.ref 5), some (.ref q.1), some (.ref 19), some (.int (nI g)), some (.int (nI c))], [.ref 5], aset h 12 7 (upd (upd (upd (upd (upd (upd (Ar h 12) 0 ((Ar h 10) g)) 1 (v28t q cc gc (Ar h 7) c ((Ar h 9) g))) 2 ((Ar h 6) c)) 3 ((Ar h 6) (((Ar h 23) g).toNatClampNeg))) 4 (v270 q cc gc ((Ar h 24) g))) 5 ((Ar h 11) g)), 198, sl) = some R := hh
  obtain ⟨n, hh⟩ := rn_gr (hc_a rfl rfl hw).wt rfl rfl (by decide) rfl (by decide) (show _ = some (2, ((12 : Nat) : Int), 1) from rfl) rfl hh
  obtain ⟨n, hh⟩ := rn_i rfl rfl rfl rfl hh
  obtain ⟨n, hh⟩ := rn_i rfl rfl rfl rfl hh
  obtain ⟨n, hh⟩ := rn_i rfl rfl rfl rfl hh
  have hh : pm_run PT n fr lo 39 (95, [some (.ref 5), some (.ref q.1), some (.ref 19), some (.int (nI g)), some (.int (nI c))], [.int (nI g), .ref 19, .int (nI 6), .ref 12], aset h 12 7 (upd (upd (upd (upd (upd (upd (Ar h 12) 0 ((Ar h 10) g)) 1 (v28t q cc gc (Ar h 7) c ((Ar h 9) g))) 2 ((Ar h 6) c)) 3 ((Ar h 6) (((Ar h 23) g).toNatClampNeg))) 4 (v270 q cc gc ((Ar h 24) g))) 5 ((Ar h 11) g)), 198, sl) = some R := hh
  obtain ⟨n, fr1, lo1, r1, hh1, hh⟩ := rn_call (w := 0) (t := 74) rfl rfl hh
  have er16 := v74t_ok (g := g) (hc_a rfl rfl hw) (by omega) hh1
  rw [show Fi (aset h 12 7 (upd (upd (upd (upd (upd (upd (Ar h 12) 0 ((Ar h 10) g)) 1 (v28t q cc gc (Ar h 7) c ((Ar h 9) g))) 2 ((Ar h 6) c)) 3 ((Ar h 6) (((Ar h 23) g).toNatClampNeg))) 4 (v270 q cc gc ((Ar h 24) g))) 5 ((Ar h 11) g))) 19 5 = Fi h 19 5 from ((Fi_a (by decide)).trans rfl)] at er16
  subst er16
  have hh : pm_run PT n fr lo 39 (98, [some (.ref 5), some (.ref q.1), some (.ref 19), some (.int (nI g)), some (.int (nI c))], [.int (cond (v74 q cc gc (Fi h 19 5) g) 1 0), .int (nI 6), .ref 12], aset h 12 7 (upd (upd (upd (upd (upd (upd (Ar h 12) 0 ((Ar h 10) g)) 1 (v28t q cc gc (Ar h 7) c ((Ar h 9) g))) 2 ((Ar h 6) c)) 3 ((Ar h 6) (((Ar h 23) g).toNatClampNeg))) 4 (v270 q cc gc ((Ar h 24) g))) 5 ((Ar h 11) g)), 198, sl) = some R := hh
  obtain ⟨n, hh⟩ := en_zn (cc := .eq) (off := 7) (t := 105) (b := !(v74 q cc gc (Fi h 19 5) g)) eb_eq rfl rfl hh
  have hj18 : ∃ mJ, pm_run PT mJ fr lo 39 (cond (v74 q cc gc (Fi h 19 5) g) (106, [some (.ref 5), some (.ref q.1), some (.ref 19), some (.int (nI g)), some (.int (nI c))], [.int (nI 1), .int (nI 6), .ref 12], aset h 12 7 (upd (upd (upd (upd (upd (upd (Ar h 12) 0 ((Ar h 10) g)) 1 (v28t q cc gc (Ar h 7) c ((Ar h 9) g))) 2 ((Ar h 6) c)) 3 ((Ar h 6) (((Ar h 23) g).toNatClampNeg))) 4 (v270 q cc gc ((Ar h 24) g))) 5 ((Ar h 11) g)), 198, sl) (106, [some (.ref 5), some (.ref q.1), some (.ref 19), some (.int (nI g)), some (.int (nI c))], [.int (nI 0), .int (nI 6), .ref 12], aset h 12 7 (upd (upd (upd (upd (upd (upd (Ar h 12) 0 ((Ar h 10) g)) 1 (v28t q cc gc (Ar h 7) c ((Ar h 9) g))) 2 ((Ar h 6) c)) 3 ((Ar h 6) (((Ar h 23) g).toNatClampNeg))) 4 (v270 q cc gc ((Ar h 24) g))) 5 ((Ar h 11) g)), 198, sl)) = some R := en_J (fun z17 => by
      have hh := en_nt z17 hh
      have hh : pm_run PT n fr lo 39 (101, [some (.ref 5), some (.ref q.1), some (.ref 19), some (.int (nI g)), some (.int (nI c))], [.int (nI 6), .ref 12], aset h 12 7 (upd (upd (upd (upd (upd (upd (Ar h 12) 0 ((Ar h 10) g)) 1 (v28t q cc gc (Ar h 7) c ((Ar h 9) g))) 2 ((Ar h 6) c)) 3 ((Ar h 6) (((Ar h 23) g).toNatClampNeg))) 4 (v270 q cc gc ((Ar h 24) g))) 5 ((Ar h 11) g)), 198, sl) = some R := hh
      obtain ⟨n, hh⟩ := rn_i rfl rfl rfl rfl hh
      obtain ⟨n, hh⟩ := rn_i rfl rfl rfl rfl hh
      exact ⟨n, hh⟩) (fun z17 => by
      have hh := en_nf z17 hh
      have hh : pm_run PT n fr lo 39 (105, [some (.ref 5), some (.ref q.1), some (.ref 19), some (.int (nI g)), some (.int (nI c))], [.int (nI 6), .ref 12], aset h 12 7 (upd (upd (upd (upd (upd (upd (Ar h 12) 0 ((Ar h 10) g)) 1 (v28t q cc gc (Ar h 7) c ((Ar h 9) g))) 2 ((Ar h 6) c)) 3 ((Ar h 6) (((Ar h 23) g).toNatClampNeg))) 4 (v270 q cc gc ((Ar h 24) g))) 5 ((Ar h 11) g)), 198, sl) = some R := hh
      obtain ⟨n, hh⟩ := rn_i rfl rfl rfl rfl hh
      exact ⟨n, hh⟩)
  obtain ⟨n, hh⟩ := hj18
  rw [show (cond (v74 q cc gc (Fi h 19 5) g) (106, [some (.ref 5), some (.ref q.1), some (.ref 19), some (.int (nI g)), some (.int (nI c))], [.int (nI 1), .int (nI 6), .ref 12], aset h 12 7 (upd (upd (upd (upd (upd (upd (Ar h 12) 0 ((Ar h 10) g)) 1 (v28t q cc gc (Ar h 7) c ((Ar h 9) g))) 2 ((Ar h 6) c)) 3 ((Ar h 6) (((Ar h 23) g).toNatClampNeg))) 4 (v270 q cc gc ((Ar h 24) g))) 5 ((Ar h 11) g)), 198, sl) (106, [some (.ref 5), some (.ref q.1), some (.ref 19), some (.int (nI g)), some (.int (nI c))], [.int (nI 0), .int (nI 6), .ref 12], aset h 12 7 (upd (upd (upd (upd (upd (upd (Ar h 12) 0 ((Ar h 10) g)) 1 (v28t q cc gc (Ar h 7) c ((Ar h 9) g))) 2 ((Ar h 6) c)) 3 ((Ar h 6) (((Ar h 23) g).toNatClampNeg))) 4 (v270 q cc gc ((Ar h 24) g))) 5 ((Ar h 11) g)), 198, sl) : pm_St) = (106, [some (.ref 5), some (.ref q.1), some (.ref 19), some (.int (nI g)), some (.int (nI c))], [.int (cond (cond (v74 q cc gc (Fi h 19 5) g) true false) 1 0), .int (nI 6), .ref 12], aset h 12 7 (upd (upd (upd (upd (upd (upd (Ar h 12) 0 ((Ar h 10) g)) 1 (v28t q cc gc (Ar h 7) c ((Ar h 9) g))) 2 ((Ar h 6) c)) 3 ((Ar h 6) (((Ar h 23) g).toNatClampNeg))) 4 (v270 q cc gc ((Ar h 24) g))) 5 ((Ar h 11) g)), 198, sl) from by cases (v74 q cc gc (Fi h 19 5) g) <;> rfl] at hh
  have hh : pm_run PT n fr lo 39 (106, [some (.ref 5), some (.ref q.1), some (.ref 19), some (.int (nI g)), some (.int (nI c))], [.int (cond (cond (v74 q cc gc (Fi h 19 5) g) true false) 1 0), .int (nI 6), .ref 12], aset h 12 7 (upd (upd (upd (upd (upd (upd (Ar h 12) 0 ((Ar h 10) g)) 1 (v28t q cc gc (Ar h 7) c ((Ar h 9) g))) 2 ((Ar h 6) c)) 3 ((Ar h 6) (((Ar h 23) g).toNatClampNeg))) 4 (v270 q cc gc ((Ar h 24) g))) 5 ((Ar h 11) g)), 198, sl) = some R := hh
  obtain ⟨n, hx19, hh⟩ := en_st (t := 6) (f := upd (upd (upd (upd (upd (upd (Ar h 12) 0 ((Ar h 10) g)) 1 (v28t q cc gc (Ar h 7) c ((Ar h 9) g))) 2 ((Ar h 6) c)) 3 ((Ar h 6) (((Ar h 23) g).toNatClampNeg))) 4 (v270 q cc gc ((Ar h 24) g))) 5 ((Ar h 11) g)) (nI_clamp (by omega)) (hc_a rfl rfl hw).wt rfl (by decide) rfl (by decide) Ar_s hh
  have hh : pm_run PT n fr lo 39 (107, [some (.ref 5), some (.ref q.1), some (.ref 19), some (.int (nI g)), some (.int (nI c))], [], aset (aset h 12 7 (upd (upd (upd (upd (upd (upd (Ar h 12) 0 ((Ar h 10) g)) 1 (v28t q cc gc (Ar h 7) c ((Ar h 9) g))) 2 ((Ar h 6) c)) 3 ((Ar h 6) (((Ar h 23) g).toNatClampNeg))) 4 (v270 q cc gc ((Ar h 24) g))) 5 ((Ar h 11) g))) 12 7 (upd (upd (upd (upd (upd (upd (upd (Ar h 12) 0 ((Ar h 10) g)) 1 (v28t q cc gc (Ar h 7) c ((Ar h 9) g))) 2 ((Ar h 6) c)) 3 ((Ar h 6) (((Ar h 23) g).toNatClampNeg))) 4 (v270 q cc gc ((Ar h 24) g))) 5 ((Ar h 11) g)) 6 (cond (cond (v74 q cc gc (Fi h 19 5) g) true false) 1 0)), 198, sl) = some R := hh
  rw [aset_aset] at hh
  obtain ⟨n, hh⟩ := rn_i rfl rfl rfl rfl hh
  obtain ⟨n, hh⟩ := rn_i rfl rfl rfl rfl hh
  have hh : pm_run PT n fr lo 39 (109, [some (.ref 5), some (.ref q.1), some (.ref 19), some (.int (nI g)), some (.int (nI c))], [.ref 5, .ref q.1], aset h 12 7 (upd (upd (upd (upd (upd (upd (upd (Ar h 12) 0 ((Ar h 10) g)) 1 (v28t q cc gc (Ar h 7) c ((Ar h 9) g))) 2 ((Ar h 6) c)) 3 ((Ar h 6) (((Ar h 23) g).toNatClampNeg))) 4 (v270 q cc gc ((Ar h 24) g))) 5 ((Ar h 11) g)) 6 (cond (cond (v74 q cc gc (Fi h 19 5) g) true false) 1 0)), 198, sl) = some R := hh
  obtain ⟨n, hh⟩ := rn_gr (hc_a rfl rfl hw).wt rfl rfl (by decide) rfl (by decide) (show _ = some (2, ((12 : Nat) : Int), 1) from rfl) rfl hh
  have hh : pm_run PT n fr lo 39 (112, [some (.ref 5), some (.ref q.1), some (.ref 19), some (.int (nI g)), some (.int (nI c))], [.ref 12, .ref q.1], aset h 12 7 (upd (upd (upd (upd (upd (upd (upd (Ar h 12) 0 ((Ar h 10) g)) 1 (v28t q cc gc (Ar h 7) c ((Ar h 9) g))) 2 ((Ar h 6) c)) 3 ((Ar h 6) (((Ar h 23) g).toNatClampNeg))) 4 (v270 q cc gc ((Ar h 24) g))) 5 ((Ar h 11) g)) 6 (cond (cond (v74 q cc gc (Fi h 19 5) g) true false) 1 0)), 198, sl) = some R := hh
  obtain ⟨n, fr1, lo1, r1, hh1, hh⟩ := rn_call (w := 0) (t := 68) rfl rfl hh
  obtain ⟨er20, hc21, hf22⟩ := v68_ok (hc_a rfl rfl hw) hh1
  subst er20
  obtain ⟨n, hh⟩ := rn_i rfl rfl rfl rfl hh
  have hh : pm_run PT n fr lo 39 (118, [some (.ref 5), some (.ref q.1), some (.ref 19), some (.int (nI g)), some (.int (nI c))], [.int (nI 999), .int ((v68 q cc gc (aset h 12 7 (upd (upd (upd (upd (upd (upd (upd (Ar h 12) 0 ((Ar h 10) g)) 1 (v28t q cc gc (Ar h 7) c ((Ar h 9) g))) 2 ((Ar h 6) c)) 3 ((Ar h 6) (((Ar h 23) g).toNatClampNeg))) 4 (v270 q cc gc ((Ar h 24) g))) 5 ((Ar h 11) g)) 6 (cond (cond (v74 q cc gc (Fi h 19 5) g) true false) 1 0)))).1)], (v68 q cc gc (aset h 12 7 (upd (upd (upd (upd (upd (upd (upd (Ar h 12) 0 ((Ar h 10) g)) 1 (v28t q cc gc (Ar h 7) c ((Ar h 9) g))) 2 ((Ar h 6) c)) 3 ((Ar h 6) (((Ar h 23) g).toNatClampNeg))) 4 (v270 q cc gc ((Ar h 24) g))) 5 ((Ar h 11) g)) 6 (cond (cond (v74 q cc gc (Fi h 19 5) g) true false) 1 0)))).2, 198, sl) = some R := hh
  obtain ⟨n, fr1, lo1, r1, hh1, hh⟩ := rn_call (w := 3) (t := 159) rfl rfl hh
  have hh1 : pm_run PT n fr1 lo1 159 (0, [some (.int ((v68 q cc gc (aset h 12 7 (upd (upd (upd (upd (upd (upd (upd (Ar h 12) 0 ((Ar h 10) g)) 1 (v28t q cc gc (Ar h 7) c ((Ar h 9) g))) 2 ((Ar h 6) c)) 3 ((Ar h 6) (((Ar h 23) g).toNatClampNeg))) 4 (v270 q cc gc ((Ar h 24) g))) 5 ((Ar h 11) g)) 6 (cond (cond (v74 q cc gc (Fi h 19 5) g) true false) 1 0)))).1)), some (.int (nI 999))], [], (v68 q cc gc (aset h 12 7 (upd (upd (upd (upd (upd (upd (upd (Ar h 12) 0 ((Ar h 10) g)) 1 (v28t q cc gc (Ar h 7) c ((Ar h 9) g))) 2 ((Ar h 6) c)) 3 ((Ar h 6) (((Ar h 23) g).toNatClampNeg))) 4 (v270 q cc gc ((Ar h 24) g))) 5 ((Ar h 11) g)) 6 (cond (cond (v74 q cc gc (Fi h 19 5) g) true false) 1 0)))).2, 198, sl) = some r1 := hh1
  obtain ⟨n1, hh1⟩ := rn_i rfl rfl rfl rfl hh1
  obtain ⟨n1, hh1⟩ := rn_i rfl rfl rfl rfl hh1
  obtain ⟨n1, hh1⟩ := rn_i rfl rfl rfl rfl hh1
  have hh1 : pm_run PT n1 fr1 lo1 159 (3, [some (.int ((v68 q cc gc (aset h 12 7 (upd (upd (upd (upd (upd (upd (upd (Ar h 12) 0 ((Ar h 10) g)) 1 (v28t q cc gc (Ar h 7) c ((Ar h 9) g))) 2 ((Ar h 6) c)) 3 ((Ar h 6) (((Ar h 23) g).toNatClampNeg))) 4 (v270 q cc gc ((Ar h 24) g))) 5 ((Ar h 11) g)) 6 (cond (cond (v74 q cc gc (Fi h 19 5) g) true false) 1 0)))).1)), some (.int (nI 999))], [.int ((v68 q cc gc (aset h 12 7 (upd (upd (upd (upd (upd (upd (upd (Ar h 12) 0 ((Ar h 10) g)) 1 (v28t q cc gc (Ar h 7) c ((Ar h 9) g))) 2 ((Ar h 6) c)) 3 ((Ar h 6) (((Ar h 23) g).toNatClampNeg))) 4 (v270 q cc gc ((Ar h 24) g))) 5 ((Ar h 11) g)) 6 (cond (cond (v74 q cc gc (Fi h 19 5) g) true false) 1 0)))).1), .int (nI 999), .int (nI 0)], (v68 q cc gc (aset h 12 7 (upd (upd (upd (upd (upd (upd (upd (Ar h 12) 0 ((Ar h 10) g)) 1 (v28t q cc gc (Ar h 7) c ((Ar h 9) g))) 2 ((Ar h 6) c)) 3 ((Ar h 6) (((Ar h 23) g).toNatClampNeg))) 4 (v270 q cc gc ((Ar h 24) g))) 5 ((Ar h 11) g)) 6 (cond (cond (v74 q cc gc (Fi h 19 5) g) true false) 1 0)))).2, 198, sl) = some r1 := hh1
  obtain ⟨n1, hh1⟩ := en_min rfl rfl rfl hh1
  have hh1 : pm_run PT n1 fr1 lo1 159 (6, [some (.int ((v68 q cc gc (aset h 12 7 (upd (upd (upd (upd (upd (upd (upd (Ar h 12) 0 ((Ar h 10) g)) 1 (v28t q cc gc (Ar h 7) c ((Ar h 9) g))) 2 ((Ar h 6) c)) 3 ((Ar h 6) (((Ar h 23) g).toNatClampNeg))) 4 (v270 q cc gc ((Ar h 24) g))) 5 ((Ar h 11) g)) 6 (cond (cond (v74 q cc gc (Fi h 19 5) g) true false) 1 0)))).1)), some (.int (nI 999))], [.int (imin (nI 999) ((v68 q cc gc (aset h 12 7 (upd (upd (upd (upd (upd (upd (upd (Ar h 12) 0 ((Ar h 10) g)) 1 (v28t q cc gc (Ar h 7) c ((Ar h 9) g))) 2 ((Ar h 6) c)) 3 ((Ar h 6) (((Ar h 23) g).toNatClampNeg))) 4 (v270 q cc gc ((Ar h 24) g))) 5 ((Ar h 11) g)) 6 (cond (cond (v74 q cc gc (Fi h 19 5) g) true false) 1 0)))).1)), .int (nI 0)], (v68 q cc gc (aset h 12 7 (upd (upd (upd (upd (upd (upd (upd (Ar h 12) 0 ((Ar h 10) g)) 1 (v28t q cc gc (Ar h 7) c ((Ar h 9) g))) 2 ((Ar h 6) c)) 3 ((Ar h 6) (((Ar h 23) g).toNatClampNeg))) 4 (v270 q cc gc ((Ar h 24) g))) 5 ((Ar h 11) g)) 6 (cond (cond (v74 q cc gc (Fi h 19 5) g) true false) 1 0)))).2, 198, sl) = some r1 := hh1
  obtain ⟨n1, hh1⟩ := en_max rfl rfl rfl hh1
  have hh1 : pm_run PT n1 fr1 lo1 159 (9, [some (.int ((v68 q cc gc (aset h 12 7 (upd (upd (upd (upd (upd (upd (upd (Ar h 12) 0 ((Ar h 10) g)) 1 (v28t q cc gc (Ar h 7) c ((Ar h 9) g))) 2 ((Ar h 6) c)) 3 ((Ar h 6) (((Ar h 23) g).toNatClampNeg))) 4 (v270 q cc gc ((Ar h 24) g))) 5 ((Ar h 11) g)) 6 (cond (cond (v74 q cc gc (Fi h 19 5) g) true false) 1 0)))).1)), some (.int (nI 999))], [.int (imax (nI 0) (imin (nI 999) ((v68 q cc gc (aset h 12 7 (upd (upd (upd (upd (upd (upd (upd (Ar h 12) 0 ((Ar h 10) g)) 1 (v28t q cc gc (Ar h 7) c ((Ar h 9) g))) 2 ((Ar h 6) c)) 3 ((Ar h 6) (((Ar h 23) g).toNatClampNeg))) 4 (v270 q cc gc ((Ar h 24) g))) 5 ((Ar h 11) g)) 6 (cond (cond (v74 q cc gc (Fi h 19 5) g) true false) 1 0)))).1)))], (v68 q cc gc (aset h 12 7 (upd (upd (upd (upd (upd (upd (upd (Ar h 12) 0 ((Ar h 10) g)) 1 (v28t q cc gc (Ar h 7) c ((Ar h 9) g))) 2 ((Ar h 6) c)) 3 ((Ar h 6) (((Ar h 23) g).toNatClampNeg))) 4 (v270 q cc gc ((Ar h 24) g))) 5 ((Ar h 11) g)) 6 (cond (cond (v74 q cc gc (Fi h 19 5) g) true false) 1 0)))).2, 198, sl) = some r1 := hh1
  have er23 : r1 = (some (.int (imax (nI 0) (imin (nI 999) ((v68 q cc gc (aset h 12 7 (upd (upd (upd (upd (upd (upd (upd (Ar h 12) 0 ((Ar h 10) g)) 1 (v28t q cc gc (Ar h 7) c ((Ar h 9) g))) 2 ((Ar h 6) c)) 3 ((Ar h 6) (((Ar h 23) g).toNatClampNeg))) 4 (v270 q cc gc ((Ar h 24) g))) 5 ((Ar h 11) g)) 6 (cond (cond (v74 q cc gc (Fi h 19 5) g) true false) 1 0)))).1)))), (v68 q cc gc (aset h 12 7 (upd (upd (upd (upd (upd (upd (upd (Ar h 12) 0 ((Ar h 10) g)) 1 (v28t q cc gc (Ar h 7) c ((Ar h 9) g))) 2 ((Ar h 6) c)) 3 ((Ar h 6) (((Ar h 23) g).toNatClampNeg))) 4 (v270 q cc gc ((Ar h 24) g))) 5 ((Ar h 11) g)) 6 (cond (cond (v74 q cc gc (Fi h 19 5) g) true false) 1 0)))).2, 198, sl) := (rn_ret rfl (Or.inl rfl) hh1).2
  subst er23
  have hh : pm_run PT n fr lo 39 (121, [some (.ref 5), some (.ref q.1), some (.ref 19), some (.int (nI g)), some (.int (nI c))], [.int (imax (nI 0) (imin (nI 999) ((v68 q cc gc (aset h 12 7 (upd (upd (upd (upd (upd (upd (upd (Ar h 12) 0 ((Ar h 10) g)) 1 (v28t q cc gc (Ar h 7) c ((Ar h 9) g))) 2 ((Ar h 6) c)) 3 ((Ar h 6) (((Ar h 23) g).toNatClampNeg))) 4 (v270 q cc gc ((Ar h 24) g))) 5 ((Ar h 11) g)) 6 (cond (cond (v74 q cc gc (Fi h 19 5) g) true false) 1 0)))).1)))], (v68 q cc gc (aset h 12 7 (upd (upd (upd (upd (upd (upd (upd (Ar h 12) 0 ((Ar h 10) g)) 1 (v28t q cc gc (Ar h 7) c ((Ar h 9) g))) 2 ((Ar h 6) c)) 3 ((Ar h 6) (((Ar h 23) g).toNatClampNeg))) 4 (v270 q cc gc ((Ar h 24) g))) 5 ((Ar h 11) g)) 6 (cond (cond (v74 q cc gc (Fi h 19 5) g) true false) 1 0)))).2, 198, sl) = some R := hh
  have er24 : R = (some (.int (imax (nI 0) (imin (nI 999) ((v68 q cc gc (aset h 12 7 (upd (upd (upd (upd (upd (upd (upd (Ar h 12) 0 ((Ar h 10) g)) 1 (v28t q cc gc (Ar h 7) c ((Ar h 9) g))) 2 ((Ar h 6) c)) 3 ((Ar h 6) (((Ar h 23) g).toNatClampNeg))) 4 (v270 q cc gc ((Ar h 24) g))) 5 ((Ar h 11) g)) 6 (cond (cond (v74 q cc gc (Fi h 19 5) g) true false) 1 0)))).1)))), (v68 q cc gc (aset h 12 7 (upd (upd (upd (upd (upd (upd (upd (Ar h 12) 0 ((Ar h 10) g)) 1 (v28t q cc gc (Ar h 7) c ((Ar h 9) g))) 2 ((Ar h 6) c)) 3 ((Ar h 6) (((Ar h 23) g).toNatClampNeg))) 4 (v270 q cc gc ((Ar h 24) g))) 5 ((Ar h 11) g)) 6 (cond (cond (v74 q cc gc (Fi h 19 5) g) true false) 1 0)))).2, 198, sl) := (rn_ret rfl (Or.inl rfl) hh).2
  have ed : v39t q cc gc h g c = (imax (nI 0) (imin (nI 999) ((v68 q cc gc (aset h 12 7 (upd (upd (upd (upd (upd (upd (upd (Ar h 12) 0 ((Ar h 10) g)) 1 (v28t q cc gc (Ar h 7) c ((Ar h 9) g))) 2 ((Ar h 6) c)) 3 ((Ar h 6) (((Ar h 23) g).toNatClampNeg))) 4 (v270 q cc gc ((Ar h 24) g))) 5 ((Ar h 11) g)) 6 (cond (cond (v74 q cc gc (Fi h 19 5) g) true false) 1 0)))).1)), (v68 q cc gc (aset h 12 7 (upd (upd (upd (upd (upd (upd (upd (Ar h 12) 0 ((Ar h 10) g)) 1 (v28t q cc gc (Ar h 7) c ((Ar h 9) g))) 2 ((Ar h 6) c)) 3 ((Ar h 6) (((Ar h 23) g).toNatClampNeg))) 4 (v270 q cc gc ((Ar h 24) g))) 5 ((Ar h 11) g)) 6 (cond (cond (v74 q cc gc (Fi h 19 5) g) true false) 1 0)))).2) := rfl
  refine ⟨?_, ?_, ?_⟩ <;> rw [ed]
  · exact er24
  · exact hc21
  · exact (fr_g rfl rfl hf22 (fr_a rfl rfl fr_0))
theorem v39t_fr {cc gc : Nat} {q : QT} {h : pm_H} {g : Nat} {c : Nat} (hw : HC q cc gc h) : HC q cc gc ((v39t q cc gc h g c).2) ∧ frm [12, 142, 144, 145, 147] [(142, 3), (145, 3)] h ((v39t q cc gc h g c).2) := by
  unfold v39t
  show HC q cc gc ((v68 q cc gc (aset h 12 7 (upd (upd (upd (upd (upd (upd (upd (Ar h 12) 0 ((Ar h 10) g)) 1 (v28t q cc gc (Ar h 7) c ((Ar h 9) g))) 2 ((Ar h 6) c)) 3 ((Ar h 6) (((Ar h 23) g).toNatClampNeg))) 4 (v270 q cc gc ((Ar h 24) g))) 5 ((Ar h 11) g)) 6 (cond (cond (v74 q cc gc (Fi h 19 5) g) true false) 1 0)))).2) ∧ frm [12, 142, 144, 145, 147] [(142, 3), (145, 3)] h ((v68 q cc gc (aset h 12 7 (upd (upd (upd (upd (upd (upd (upd (Ar h 12) 0 ((Ar h 10) g)) 1 (v28t q cc gc (Ar h 7) c ((Ar h 9) g))) 2 ((Ar h 6) c)) 3 ((Ar h 6) (((Ar h 23) g).toNatClampNeg))) 4 (v270 q cc gc ((Ar h 24) g))) 5 ((Ar h 11) g)) 6 (cond (cond (v74 q cc gc (Fi h 19 5) g) true false) 1 0)))).2)
  exact ⟨(v68_fr (hc_a rfl rfl hw)).1, (fr_g rfl rfl (v68_fr (hc_a rfl rfl hw)).2 (fr_a rfl rfl fr_0))⟩
end ED
end MH95zzxfx2
