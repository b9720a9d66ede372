/-! runs told exactly, written by ext.py -/
section EC
def v67 (q : QT) (cc gc : Nat) (x : Int32) : Int32 := cond (pm_cmp .eq x (nI 100)) (nI 6) (cond (pm_cmp .eq x (nI 101)) (nI 5) (cond (pm_cmp .eq x (nI 104)) (nI 4) (cond (pm_cmp .eq x (nI 107)) (nI 1) (cond (pm_cmp .eq x (nI 114)) (nI 2) (cond (pm_cmp .eq x (nI 115)) (nI 3) (cond (pm_cmp .eq x (nI 119)) (nI 0) (Int32.ofInt (-1))))))))
theorem v67_ok {n fr lo sl cc gc : Nat} {q : QT} {h : pm_H} {R : pm_Rs} {x : Int32} (hw : HC q cc gc h) (hh : pm_run PT n fr lo 67 (0, pm_l0 [.int x] 1, [], h, 198, sl) = some R) : R = (some (.int (v67 q cc gc x)), h, 198, sl) := by
  have hcc := hw.cb
  have hgc := hw.gb
  have hzr := hw.zr
  obtain ⟨n, hh⟩ := rn_i rfl rfl rfl rfl hh
  have hh : pm_run PT n fr lo 67 (1, [some (.int x)], [.int x], h, 198, sl) = some R := hh
  cases z1 : pm_cmp .eq x (nI 100) with
  | true =>
    obtain ⟨n, hh⟩ := en_tsc (c := 100) (t := 108) rfl (en_xc (c := 100) (by decide) z1) (by decide) rfl rfl hh
    have hh : pm_run PT n fr lo 67 (108, [some (.int x)], [], h, 198, sl) = some R := hh
    obtain ⟨n, hh⟩ := rn_i rfl rfl rfl rfl hh
    have hh : pm_run PT n fr lo 67 (110, [some (.int x)], [.int (nI 6)], h, 198, sl) = some R := hh
    have er2 : R = (some (.int (nI 6)), h, 198, sl) := (rn_ret rfl (Or.inl rfl) hh).2
    have ed : v67 q cc gc x = nI 6 := (ct z1).trans rfl
    rw [ed]
    exact er2
  | false =>
    cases z3 : pm_cmp .eq x (nI 101) with
    | true =>
      obtain ⟨n, hh⟩ := en_tsc (c := 101) (t := 106) rfl (en_xc (c := 101) (by decide) z3) (by decide) rfl rfl hh
      have hh : pm_run PT n fr lo 67 (106, [some (.int x)], [], h, 198, sl) = some R := hh
      obtain ⟨n, hh⟩ := rn_i rfl rfl rfl rfl hh
      have hh : pm_run PT n fr lo 67 (107, [some (.int x)], [.int (nI 5)], h, 198, sl) = some R := hh
      have er4 : R = (some (.int (nI 5)), h, 198, sl) := (rn_ret rfl (Or.inl rfl) hh).2
      have ed : v67 q cc gc x = nI 5 := (cf z1).trans ((ct z3).trans rfl)
      rw [ed]
      exact er4
    | false =>
      cases z5 : pm_cmp .eq x (nI 104) with
      | true =>
        obtain ⟨n, hh⟩ := en_tsc (c := 104) (t := 104) rfl (en_xc (c := 104) (by decide) z5) (by decide) rfl rfl hh
        have hh : pm_run PT n fr lo 67 (104, [some (.int x)], [], h, 198, sl) = some R := hh
        obtain ⟨n, hh⟩ := rn_i rfl rfl rfl rfl hh
        have hh : pm_run PT n fr lo 67 (105, [some (.int x)], [.int (nI 4)], h, 198, sl) = some R := hh
        have er6 : R = (some (.int (nI 4)), h, 198, sl) := (rn_ret rfl (Or.inl rfl) hh).2
        have ed : v67 q cc gc x = nI 4 := (cf z1).trans ((cf z3).trans ((ct z5).trans rfl))
        rw [ed]
        exact er6
      | false =>
        cases z7 : pm_cmp .eq x (nI 107) with
        | true =>
          obtain ⟨n, hh⟩ := en_tsc (c := 107) (t := 98) rfl (en_xc (c := 107) (by decide) z7) (by decide) rfl rfl hh
          have hh : pm_run PT n fr lo 67 (98, [some (.int x)], [], h, 198, sl) = some R := hh
          obtain ⟨n, hh⟩ := rn_i rfl rfl rfl rfl hh
          have hh : pm_run PT n fr lo 67 (99, [some (.int x)], [.int (nI 1)], h, 198, sl) = some R := hh
          have er8 : R = (some (.int (nI 1)), h, 198, sl) := (rn_ret rfl (Or.inl rfl) hh).2
          have ed : v67 q cc gc x = nI 1 := (cf z1).trans ((cf z3).trans ((cf z5).trans ((ct z7).trans rfl)))
          rw [ed]
          exact er8
        | false =>
          cases z9 : pm_cmp .eq x (nI 114) with
          | true =>
            obtain ⟨n, hh⟩ := en_tsc (c := 114) (t := 100) rfl (en_xc (c := 114) (by decide) z9) (by decide) rfl rfl hh
            have hh : pm_run PT n fr lo 67 (100, [some (.int x)], [], h, 198, sl) = some R := hh
            obtain ⟨n, hh⟩ := rn_i rfl rfl rfl rfl hh
            have hh : pm_run PT n fr lo 67 (101, [some (.int x)], [.int (nI 2)], h, 198, sl) = some R := hh
            have er10 : R = (some (.int (nI 2)), h, 198, sl) := (rn_ret rfl (Or.inl rfl) hh).2
            have ed : v67 q cc gc x = nI 2 := (cf z1).trans ((cf z3).trans ((cf z5).trans ((cf z7).trans ((ct z9).trans rfl))))
            rw [ed]
            exact er10
          | false =>
            cases z11 : pm_cmp .eq x (nI 115) with
            | true =>
              obtain ⟨n, hh⟩ := en_tsc (c := 115) (t := 102) rfl (en_xc (c := 115) (by decide) z11) (by decide) rfl rfl hh
              have hh : pm_run PT n fr lo 67 (102, [some (.int x)], [], h, 198, sl) = some R := hh
              obtain ⟨n, hh⟩ := rn_i rfl rfl rfl rfl hh
              have hh : pm_run PT n fr lo 67 (103, [some (.int x)], [.int (nI 3)], h, 198, sl) = some R := hh
              have er12 : R = (some (.int (nI 3)), h, 198, sl) := (rn_ret rfl (Or.inl rfl) hh).2
              have ed : v67 q cc gc x = nI 3 := (cf z1).trans ((cf z3).trans ((cf z5).trans ((cf z7).trans ((cf z9).trans ((ct z11).trans rfl)))))
              rw [ed]
              exact er12
            | false =>
              cases z13 : pm_cmp .eq x (nI 119) with
              | true =>
                obtain ⟨n, hh⟩ := en_tsc (c := 119) (t := 96) rfl (en_xc (c := 119) (by decide) z13) (by decide) rfl rfl hh
                have hh : pm_run PT n fr lo 67 (96, [some (.int x)], [], h, 198, sl) = some R := hh
                obtain ⟨n, hh⟩ := rn_i rfl rfl rfl rfl hh
                have hh : pm_run PT n fr lo 67 (97, [some (.int x)], [.int (nI 0)], h, 198, sl) = some R := hh
                have er14 : R = (some (.int (nI 0)), h, 198, sl) := (rn_ret rfl (Or.inl rfl) hh).2
                have ed : v67 q cc gc x = nI 0 := (cf z1).trans ((cf z3).trans ((cf z5).trans ((cf z7).trans ((cf z9).trans ((cf z11).trans ((ct z13).trans rfl))))))
                rw [ed]
                exact er14
              | false =>
                obtain ⟨n, hh⟩ := en_tsd (t := 111) [100, 101, 104, 107, 114, 115, 119] rfl (by decide) (by decide) (en_l1 (en_xn (c := 100) (by decide) z1) (en_l1 (en_xn (c := 101) (by decide) z3) (en_l1 (en_xn (c := 104) (by decide) z5) (en_l1 (en_xn (c := 107) (by decide) z7) (en_l1 (en_xn (c := 114) (by decide) z9) (en_l1 (en_xn (c := 115) (by decide) z11) (en_l1 (en_xn (c := 119) (by decide) z13) en_l0))))))) rfl hh
                have hh : pm_run PT n fr lo 67 (111, [some (.int x)], [], h, 198, sl) = some R := hh
                obtain ⟨n, hh⟩ := rn_i rfl rfl rfl rfl hh
                have hh : pm_run PT n fr lo 67 (112, [some (.int x)], [.int (Int32.ofInt (-1))], h, 198, sl) = some R := hh
                have er15 : R = (some (.int (Int32.ofInt (-1))), h, 198, sl) := (rn_ret rfl (Or.inl rfl) hh).2
                have ed : v67 q cc gc x = (Int32.ofInt (-1)) := (cf z1).trans ((cf z3).trans ((cf z5).trans ((cf z7).trans ((cf z9).trans ((cf z11).trans ((cf z13).trans rfl))))))
                rw [ed]
                exact er15
def v71 (q : QT) (cc gc : Nat) (s : Int32) (a : Int32) (b : Int32) : Int32 := cond (pm_cmp .eq s (nI 42)) (a * b) (cond (pm_cmp .eq s (nI 43)) (a + b) (cond (pm_cmp .eq s (nI 45)) (a - b) (cond (pm_cmp .eq s (nI 60)) (cond (cond (pm_cmp .ge a b) false true) 1 0) (cond (pm_cmp .eq s (nI 61)) (cond (cond (pm_cmp .ne a b) false true) 1 0) (cond (pm_cmp .eq s (nI 62)) (cond (cond (pm_cmp .le a b) false true) 1 0) (cond (pm_cmp .ne b 0) (a / b) (nI 0)))))))
theorem v71_ok {n fr lo sl cc gc : Nat} {q : QT} {h : pm_H} {R : pm_Rs} {s : Int32} {a : Int32} {b : Int32} (hw : HC q cc gc h) (hh : pm_run PT n fr lo 71 (0, pm_l0 [.int s, .int a, .int b] 3, [], h, 198, sl) = some R) : R = (some (.int (v71 q cc gc s a b)), h, 198, sl) := by
  have hcc := hw.cb
  have hgc := hw.gb
  have hzr := hw.zr
  obtain ⟨n, hh⟩ := rn_i rfl rfl rfl rfl hh
  have hh : pm_run PT n fr lo 71 (1, [some (.int s), some (.int a), some (.int b)], [.int s], h, 198, sl) = some R := hh
  cases z1 : pm_cmp .eq s (nI 42) with
  | true =>
    obtain ⟨n, hh⟩ := en_lsc (c := 42) (t := 101) (off := 100) rfl (by decide) (en_xc (c := 42) (by decide) z1) (by decide) rfl hh
    have hh : pm_run PT n fr lo 71 (101, [some (.int s), some (.int a), some (.int b)], [], h, 198, sl) = some R := hh
    obtain ⟨n, hh⟩ := rn_i rfl rfl rfl rfl hh
    obtain ⟨n, hh⟩ := rn_i rfl rfl rfl rfl hh
    obtain ⟨n, hh⟩ := rn_i rfl rfl rfl rfl hh
    have hh : pm_run PT n fr lo 71 (104, [some (.int s), some (.int a), some (.int b)], [.int (a * b)], h, 198, sl) = some R := hh
    have er2 : R = (some (.int (a * b)), h, 198, sl) := (rn_ret rfl (Or.inl rfl) hh).2
    have ed : v71 q cc gc s a b = a * b := (ct z1).trans rfl
    rw [ed]
    exact er2
  | false =>
    cases z3 : pm_cmp .eq s (nI 43) with
    | true =>
      obtain ⟨n, hh⟩ := en_lsc (c := 43) (t := 93) (off := 92) rfl (by decide) (en_xc (c := 43) (by decide) z3) (by decide) rfl hh
      have hh : pm_run PT n fr lo 71 (93, [some (.int s), some (.int a), some (.int b)], [], h, 198, sl) = some R := hh
      obtain ⟨n, hh⟩ := rn_i rfl rfl rfl rfl hh
      obtain ⟨n, hh⟩ := rn_i rfl rfl rfl rfl hh
      obtain ⟨n, hh⟩ := rn_i rfl rfl rfl rfl hh
      have hh : pm_run PT n fr lo 71 (96, [some (.int s), some (.int a), some (.int b)], [.int (a + b)], h, 198, sl) = some R := hh
      have er4 : R = (some (.int (a + b)), h, 198, sl) := (rn_ret rfl (Or.inl rfl) hh).2
      have ed : v71 q cc gc s a b = a + b := (cf z1).trans ((ct z3).trans rfl)
      rw [ed]
      exact er4
    | false =>
      cases z5 : pm_cmp .eq s (nI 45) with
      | true =>
        obtain ⟨n, hh⟩ := en_lsc (c := 45) (t := 97) (off := 96) rfl (by decide) (en_xc (c := 45) (by decide) z5) (by decide) rfl hh
        have hh : pm_run PT n fr lo 71 (97, [some (.int s), some (.int a), some (.int b)], [], h, 198, sl) = some R := hh
        obtain ⟨n, hh⟩ := rn_i rfl rfl rfl rfl hh
        obtain ⟨n, hh⟩ := rn_i rfl rfl rfl rfl hh
        obtain ⟨n, hh⟩ := rn_i rfl rfl rfl rfl hh
        have hh : pm_run PT n fr lo 71 (100, [some (.int s), some (.int a), some (.int b)], [.int (a - b)], h, 198, sl) = some R := hh
        have er6 : R = (some (.int (a - b)), h, 198, sl) := (rn_ret rfl (Or.inl rfl) hh).2
        have ed : v71 q cc gc s a b = a - b := (cf z1).trans ((cf z3).trans ((ct z5).trans rfl))
        rw [ed]
        exact er6
      | false =>
        cases z7 : pm_cmp .eq s (nI 60) with
        | true =>
          obtain ⟨n, hh⟩ := en_lsc (c := 60) (t := 60) (off := 59) rfl (by decide) (en_xc (c := 60) (by decide) z7) (by decide) rfl hh
          have hh : pm_run PT n fr lo 71 (60, [some (.int s), some (.int a), some (.int b)], [], h, 198, sl) = some R := hh
          obtain ⟨n, hh⟩ := rn_i rfl rfl rfl rfl hh
          obtain ⟨n, hh⟩ := rn_i rfl rfl rfl rfl hh
          have hh : pm_run PT n fr lo 71 (62, [some (.int s), some (.int a), some (.int b)], [.int b, .int a], h, 198, sl) = some R := hh
          obtain ⟨n, hh⟩ := en_cn (cc := .ge) (off := 7) (t := 69) (b := pm_cmp .ge a b) rfl rfl rfl hh
          have hj9 : ∃ mJ, pm_run PT mJ fr lo 71 (cond (pm_cmp .ge a b) (70, [some (.int s), some (.int a), some (.int b)], [.int (nI 0)], h, 198, sl) (70, [some (.int s), some (.int a), some (.int b)], [.int (nI 1)], h, 198, sl)) = some R := en_J (fun z8 => by
              have hh := en_t z8 hh
              have hh : pm_run PT n fr lo 71 (69, [some (.int s), some (.int a), some (.int b)], [], h, 198, sl) = some R := hh
              obtain ⟨n, hh⟩ := rn_i rfl rfl rfl rfl hh
              exact ⟨n, hh⟩) (fun z8 => by
              have hh := en_f z8 hh
              have hh : pm_run PT n fr lo 71 (65, [some (.int s), some (.int a), some (.int b)], [], h, 198, sl) = some R := hh
              obtain ⟨n, hh⟩ := rn_i rfl rfl rfl rfl hh
              obtain ⟨n, hh⟩ := rn_i rfl rfl rfl rfl hh
              exact ⟨n, hh⟩)
          obtain ⟨n, hh⟩ := hj9
          rw [show (cond (pm_cmp .ge a b) (70, [some (.int s), some (.int a), some (.int b)], [.int (nI 0)], h, 198, sl) (70, [some (.int s), some (.int a), some (.int b)], [.int (nI 1)], h, 198, sl) : pm_St) = (70, [some (.int s), some (.int a), some (.int b)], [.int (cond (cond (pm_cmp .ge a b) false true) 1 0)], h, 198, sl) from by cases (pm_cmp .ge a b) <;> rfl] at hh
          have hh : pm_run PT n fr lo 71 (70, [some (.int s), some (.int a), some (.int b)], [.int (cond (cond (pm_cmp .ge a b) false true) 1 0)], h, 198, sl) = some R := hh
          have er10 : R = (some (.int (cond (cond (pm_cmp .ge a b) false true) 1 0)), h, 198, sl) := (rn_ret rfl (Or.inl rfl) hh).2
          have ed : v71 q cc gc s a b = cond (cond (pm_cmp .ge a b) false true) 1 0 := (cf z1).trans ((cf z3).trans ((cf z5).trans ((ct z7).trans rfl)))
          rw [ed]
          exact er10
        | false =>
          cases z11 : pm_cmp .eq s (nI 61) with
          | true =>
            obtain ⟨n, hh⟩ := en_lsc (c := 61) (t := 82) (off := 81) rfl (by decide) (en_xc (c := 61) (by decide) z11) (by decide) rfl hh
            have hh : pm_run PT n fr lo 71 (82, [some (.int s), some (.int a), some (.int b)], [], h, 198, sl) = some R := hh
            obtain ⟨n, hh⟩ := rn_i rfl rfl rfl rfl hh
            obtain ⟨n, hh⟩ := rn_i rfl rfl rfl rfl hh
            have hh : pm_run PT n fr lo 71 (84, [some (.int s), some (.int a), some (.int b)], [.int b, .int a], h, 198, sl) = some R := hh
            obtain ⟨n, hh⟩ := en_cn (cc := .ne) (off := 7) (t := 91) (b := pm_cmp .ne a b) rfl rfl rfl hh
            have hj13 : ∃ mJ, pm_run PT mJ fr lo 71 (cond (pm_cmp .ne a b) (92, [some (.int s), some (.int a), some (.int b)], [.int (nI 0)], h, 198, sl) (92, [some (.int s), some (.int a), some (.int b)], [.int (nI 1)], h, 198, sl)) = some R := en_J (fun z12 => by
                have hh := en_t z12 hh
                have hh : pm_run PT n fr lo 71 (91, [some (.int s), some (.int a), some (.int b)], [], h, 198, sl) = some R := hh
                obtain ⟨n, hh⟩ := rn_i rfl rfl rfl rfl hh
                exact ⟨n, hh⟩) (fun z12 => by
                have hh := en_f z12 hh
                have hh : pm_run PT n fr lo 71 (87, [some (.int s), some (.int a), some (.int b)], [], h, 198, sl) = some R := hh
                obtain ⟨n, hh⟩ := rn_i rfl rfl rfl rfl hh
                obtain ⟨n, hh⟩ := rn_i rfl rfl rfl rfl hh
                exact ⟨n, hh⟩)
            obtain ⟨n, hh⟩ := hj13
            rw [show (cond (pm_cmp .ne a b) (92, [some (.int s), some (.int a), some (.int b)], [.int (nI 0)], h, 198, sl) (92, [some (.int s), some (.int a), some (.int b)], [.int (nI 1)], h, 198, sl) : pm_St) = (92, [some (.int s), some (.int a), some (.int b)], [.int (cond (cond (pm_cmp .ne a b) false true) 1 0)], h, 198, sl) from by cases (pm_cmp .ne a b) <;> rfl] at hh
            have hh : pm_run PT n fr lo 71 (92, [some (.int s), some (.int a), some (.int b)], [.int (cond (cond (pm_cmp .ne a b) false true) 1 0)], h, 198, sl) = some R := hh
            have er14 : R = (some (.int (cond (cond (pm_cmp .ne a b) false true) 1 0)), h, 198, sl) := (rn_ret rfl (Or.inl rfl) hh).2
            have ed : v71 q cc gc s a b = cond (cond (pm_cmp .ne a b) false true) 1 0 := (cf z1).trans ((cf z3).trans ((cf z5).trans ((cf z7).trans ((ct z11).trans rfl))))
            rw [ed]
            exact er14
          | false =>
            cases z15 : pm_cmp .eq s (nI 62) with
            | true =>
              obtain ⟨n, hh⟩ := en_lsc (c := 62) (t := 71) (off := 70) rfl (by decide) (en_xc (c := 62) (by decide) z15) (by decide) rfl hh
              have hh : pm_run PT n fr lo 71 (71, [some (.int s), some (.int a), some (.int b)], [], h, 198, sl) = some R := hh
              obtain ⟨n, hh⟩ := rn_i rfl rfl rfl rfl hh
              obtain ⟨n, hh⟩ := rn_i rfl rfl rfl rfl hh
              have hh : pm_run PT n fr lo 71 (73, [some (.int s), some (.int a), some (.int b)], [.int b, .int a], h, 198, sl) = some R := hh
              obtain ⟨n, hh⟩ := en_cn (cc := .le) (off := 7) (t := 80) (b := pm_cmp .le a b) rfl rfl rfl hh
              have hj17 : ∃ mJ, pm_run PT mJ fr lo 71 (cond (pm_cmp .le a b) (81, [some (.int s), some (.int a), some (.int b)], [.int (nI 0)], h, 198, sl) (81, [some (.int s), some (.int a), some (.int b)], [.int (nI 1)], h, 198, sl)) = some R := en_J (fun z16 => by
                  have hh := en_t z16 hh
                  have hh : pm_run PT n fr lo 71 (80, [some (.int s), some (.int a), some (.int b)], [], h, 198, sl) = some R := hh
                  obtain ⟨n, hh⟩ := rn_i rfl rfl rfl rfl hh
                  exact ⟨n, hh⟩) (fun z16 => by
                  have hh := en_f z16 hh
                  have hh : pm_run PT n fr lo 71 (76, [some (.int s), some (.int a), some (.int b)], [], h, 198, sl) = some R := hh
                  obtain ⟨n, hh⟩ := rn_i rfl rfl rfl rfl hh
                  obtain ⟨n, hh⟩ := rn_i rfl rfl rfl rfl hh
                  exact ⟨n, hh⟩)
              obtain ⟨n, hh⟩ := hj17
              rw [show (cond (pm_cmp .le a b) (81, [some (.int s), some (.int a), some (.int b)], [.int (nI 0)], h, 198, sl) (81, [some (.int s), some (.int a), some (.int b)], [.int (nI 1)], h, 198, sl) : pm_St) = (81, [some (.int s), some (.int a), some (.int b)], [.int (cond (cond (pm_cmp .le a b) false true) 1 0)], h, 198, sl) from by cases (pm_cmp .le a b) <;> rfl] at hh
              have hh : pm_run PT n fr lo 71 (81, [some (.int s), some (.int a), some (.int b)], [.int (cond (cond (pm_cmp .le a b) false true) 1 0)], h, 198, sl) = some R := hh
              have er18 : R = (some (.int (cond (cond (pm_cmp .le a b) false true) 1 0)), h, 198, sl) := (rn_ret rfl (Or.inl rfl) hh).2
              have ed : v71 q cc gc s a b = cond (cond (pm_cmp .le a b) false true) 1 0 := (cf z1).trans ((cf z3).trans ((cf z5).trans ((cf z7).trans ((cf z11).trans ((ct z15).trans rfl)))))
              rw [ed]
              exact er18
            | false =>
              obtain ⟨n, hh⟩ := en_lsd (t := 105) [42, 43, 45, 60, 61, 62] rfl (by decide) (by decide) (en_l1 (en_xn (c := 42) (by decide) z1) (en_l1 (en_xn (c := 43) (by decide) z3) (en_l1 (en_xn (c := 45) (by decide) z5) (en_l1 (en_xn (c := 60) (by decide) z7) (en_l1 (en_xn (c := 61) (by decide) z11) (en_l1 (en_xn (c := 62) (by decide) z15) en_l0)))))) rfl hh
              have hh : pm_run PT n fr lo 71 (105, [some (.int s), some (.int a), some (.int b)], [], h, 198, sl) = some R := hh
              obtain ⟨n, hh⟩ := rn_i rfl rfl rfl rfl hh
              have hh : pm_run PT n fr lo 71 (106, [some (.int s), some (.int a), some (.int b)], [.int b], h, 198, sl) = some R := hh
              obtain ⟨n, hh⟩ := en_zn (cc := .ne) (off := 7) (t := 113) (b := pm_cmp .ne b 0) rfl rfl rfl hh
              have hj21 : ∃ mJ, pm_run PT mJ fr lo 71 (cond (pm_cmp .ne b 0) (116, [some (.int s), some (.int a), some (.int b)], [.int (a / b)], h, 198, sl) (116, [some (.int s), some (.int a), some (.int b)], [.int (nI 0)], h, 198, sl)) = some R := en_J (fun z19 => by
                  have hh := en_t z19 hh
                  have hh : pm_run PT n fr lo 71 (113, [some (.int s), some (.int a), some (.int b)], [], h, 198, sl) = some R := hh
                  obtain ⟨n, hh⟩ := rn_i rfl rfl rfl rfl hh
                  obtain ⟨n, hh⟩ := rn_i rfl rfl rfl rfl hh
                  have hh : pm_run PT n fr lo 71 (115, [some (.int s), some (.int a), some (.int b)], [.int b, .int a], h, 198, sl) = some R := hh
                  obtain ⟨n, hz20, hh⟩ := rn_dv rfl hh
                  exact ⟨n, hh⟩) (fun z19 => by
                  have hh := en_f z19 hh
                  have hh : pm_run PT n fr lo 71 (109, [some (.int s), some (.int a), some (.int b)], [], h, 198, sl) = some R := hh
                  obtain ⟨n, hh⟩ := rn_i rfl rfl rfl rfl hh
                  obtain ⟨n, hh⟩ := rn_i rfl rfl rfl rfl hh
                  exact ⟨n, hh⟩)
              obtain ⟨n, hh⟩ := hj21
              rw [show (cond (pm_cmp .ne b 0) (116, [some (.int s), some (.int a), some (.int b)], [.int (a / b)], h, 198, sl) (116, [some (.int s), some (.int a), some (.int b)], [.int (nI 0)], h, 198, sl) : pm_St) = (116, [some (.int s), some (.int a), some (.int b)], [.int (cond (pm_cmp .ne b 0) (a / b) (nI 0))], h, 198, sl) from by cases (pm_cmp .ne b 0) <;> rfl] at hh
              have hh : pm_run PT n fr lo 71 (116, [some (.int s), some (.int a), some (.int b)], [.int (cond (pm_cmp .ne b 0) (a / b) (nI 0))], h, 198, sl) = some R := hh
              have er22 : R = (some (.int (cond (pm_cmp .ne b 0) (a / b) (nI 0))), h, 198, sl) := (rn_ret rfl (Or.inl rfl) hh).2
              have ed : v71 q cc gc s a b = cond (pm_cmp .ne b 0) (a / b) (nI 0) := (cf z1).trans ((cf z3).trans ((cf z5).trans ((cf z7).trans ((cf z11).trans ((cf z15).trans rfl)))))
              rw [ed]
              exact er22
def v69a (q : QT) (cc gc : Nat) (h : pm_H) (v : Int32) : pm_H := cond (pm_cmp .ge (Fi h 142 3) (nI 40)) h (fset (aset h 144 40 (upd (Ar h 144) ((Fi h 142 3).toNatClampNeg) v)) 142 3 (.int ((Fi h 142 3) + (nI 1))))
theorem v69a_ok {n fr lo sl cc gc : Nat} {q : QT} {h : pm_H} {R : pm_Rs} {v : Int32} (hw : HC q cc gc h) (hh : pm_run PT n fr lo 69 (0, pm_l0 [.ref 142, .int v] 2, [], h, 198, sl) = some R) : R = (none, v69a q cc gc h v, 198, sl) ∧ HC q cc gc (v69a q cc gc h v) ∧ frm [142, 144] [(142, 3)] h (v69a q cc gc h v) := by
  have hcc := hw.cb
  have hgc := hw.gb
  have hzr := hw.zr
  obtain ⟨n, hh⟩ := rn_i rfl rfl rfl rfl hh
  have hh : pm_run PT n fr lo 69 (1, [some (.ref 142), some (.int v)], [.ref 142], h, 198, sl) = some R := hh
  obtain ⟨n, hh⟩ := rn_gi (x := Fi h 142 3) hw.wt rfl rfl (by decide) rfl (by decide) rfl rfl hh
  obtain ⟨n, hh⟩ := rn_i rfl rfl rfl rfl hh
  have hh : pm_run PT n fr lo 69 (6, [some (.ref 142), some (.int v)], [.int (nI 40), .int (Fi h 142 3)], h, 198, sl) = some R := hh
  obtain ⟨n, hh⟩ := en_cn (cc := .ge) (off := 23) (t := 29) (b := pm_cmp .ge (Fi h 142 3) (nI 40)) rfl rfl rfl hh
  cases z1 : pm_cmp .ge (Fi h 142 3) (nI 40) with
  | true =>
    have hh := en_t z1 hh
    have hh : pm_run PT n fr lo 69 (29, [some (.ref 142), some (.int v)], [], h, 198, sl) = some R := hh
    have er2 : R = (none, h, 198, sl) := rn_vret rfl rfl hh
    have ed : v69a q cc gc h v = h := (ct z1).trans rfl
    refine ⟨?_, ?_, ?_⟩ <;> rw [ed]
    · exact er2
    · exact hw
    · exact fr_0
  | false =>
    have hh := en_f z1 hh
    have hh : pm_run PT n fr lo 69 (9, [some (.ref 142), some (.int v)], [], h, 198, sl) = some R := hh
    obtain ⟨n, hh⟩ := rn_i rfl rfl rfl rfl hh
    have hh : pm_run PT n fr lo 69 (10, [some (.ref 142), some (.int v)], [.ref 142], h, 198, sl) = some R := hh
    obtain ⟨n, hh⟩ := rn_gr hw.wt rfl rfl (by decide) rfl (by decide) (show _ = some (2, ((144 : Nat) : Int), 1) from rfl) rfl hh
    obtain ⟨n, hh⟩ := rn_i rfl rfl rfl rfl hh
    have hh : pm_run PT n fr lo 69 (14, [some (.ref 142), some (.int v)], [.ref 142, .ref 144], h, 198, sl) = some R := hh
    obtain ⟨n, hh⟩ := rn_gi (x := Fi h 142 3) hw.wt rfl rfl (by decide) rfl (by decide) rfl rfl hh
    obtain ⟨n, hh⟩ := rn_i rfl rfl rfl rfl hh
    have hh : pm_run PT n fr lo 69 (18, [some (.ref 142), some (.int v)], [.int v, .int (Fi h 142 3), .ref 144], h, 198, sl) = some R := hh
    obtain ⟨n, hx3, hh⟩ := en_st (t := (Fi h 142 3).toNatClampNeg) (f := Ar h 144) rfl hw.wt rfl (by decide) rfl (by decide) rfl hh
    obtain ⟨n, hh⟩ := rn_i rfl rfl rfl rfl hh
    obtain ⟨n, hh⟩ := rn_i rfl rfl rfl rfl hh
    have hh : pm_run PT n fr lo 69 (21, [some (.ref 142), some (.int v)], [.ref 142, .ref 142], aset h 144 40 (upd (Ar h 144) ((Fi h 142 3).toNatClampNeg) v), 198, sl) = some R := hh
    obtain ⟨n, hh⟩ := rn_gi (x := Fi h 142 3) (hc_a rfl rfl hw).wt rfl rfl (by decide) rfl (by decide) rfl ((Fi_a (by decide)).trans rfl) hh
    obtain ⟨n, hh⟩ := rn_i rfl rfl rfl rfl hh
    obtain ⟨n, hh⟩ := rn_i rfl rfl rfl rfl hh
    have hh : pm_run PT n fr lo 69 (26, [some (.ref 142), some (.int v)], [.int ((Fi h 142 3) + (nI 1)), .ref 142], aset h 144 40 (upd (Ar h 144) ((Fi h 142 3).toNatClampNeg) v), 198, sl) = some R := hh
    obtain ⟨n, hh⟩ := rn_pi (hc_a rfl rfl hw).wt rfl rfl (by decide) rfl (by decide) rfl hh
    have er4 : R = (none, fset (aset h 144 40 (upd (Ar h 144) ((Fi h 142 3).toNatClampNeg) v)) 142 3 (.int ((Fi h 142 3) + (nI 1))), 198, sl) := rn_vret rfl rfl hh
    have ed : v69a q cc gc h v = fset (aset h 144 40 (upd (Ar h 144) ((Fi h 142 3).toNatClampNeg) v)) 142 3 (.int ((Fi h 142 3) + (nI 1))) := (cf z1).trans rfl
    refine ⟨?_, ?_, ?_⟩ <;> rw [ed]
    · exact er4
    · exact (hc_f rfl rfl (by decide) rfl (hc_a rfl rfl hw))
    · exact (fr_f rfl rfl (fr_a rfl rfl fr_0))
theorem v69a_fr {cc gc : Nat} {q : QT} {h : pm_H} {v : Int32} (hw : HC q cc gc h) : HC q cc gc (v69a q cc gc h v) ∧ frm [142, 144] [(142, 3)] h (v69a q cc gc h v) := by
  unfold v69a
  refine cd_s (P := fun (p : pm_H) => HC q cc gc (p) ∧ frm [142, 144] [(142, 3)] h (p)) (b := pm_cmp .ge (Fi h 142 3) (nI 40)) (fun _ => ?_) (fun _ => ?_)
  · show HC q cc gc (h) ∧ frm [142, 144] [(142, 3)] h (h)
    exact ⟨hw, fr_0⟩
  · show HC q cc gc (fset (aset h 144 40 (upd (Ar h 144) ((Fi h 142 3).toNatClampNeg) v)) 142 3 (.int ((Fi h 142 3) + (nI 1)))) ∧ frm [142, 144] [(142, 3)] h (fset (aset h 144 40 (upd (Ar h 144) ((Fi h 142 3).toNatClampNeg) v)) 142 3 (.int ((Fi h 142 3) + (nI 1))))
    exact ⟨(hc_f rfl rfl (by decide) rfl (hc_a rfl rfl hw)), (fr_f rfl rfl (fr_a rfl rfl fr_0))⟩
def v70a (q : QT) (cc gc : Nat) (h : pm_H) : Int32 × pm_H := cond (pm_cmp .gt (Fi h 142 3) 0) ((Ar h 144) (((Fi h 142 3) - (nI 1)).toNatClampNeg), fset h 142 3 (.int ((Fi h 142 3) - (nI 1)))) (nI 0, h)
theorem v70a_ok {n fr lo sl cc gc : Nat} {q : QT} {h : pm_H} {R : pm_Rs} (hw : HC q cc gc h) (hh : pm_run PT n fr lo 70 (0, pm_l0 [.ref 142] 1, [], h, 198, sl) = some R) : R = (some (.int ((v70a q cc gc h).1)), (v70a q cc gc h).2, 198, sl) ∧ HC q cc gc ((v70a q cc gc h).2) ∧ frm [142] [(142, 3)] h ((v70a q cc gc h).2) := by
  have hcc := hw.cb
  have hgc := hw.gb
  have hzr := hw.zr
  obtain ⟨n, hh⟩ := rn_i rfl rfl rfl rfl hh
  have hh : pm_run PT n fr lo 70 (1, [some (.ref 142)], [.ref 142], h, 198, sl) = some R := hh
  obtain ⟨n, hh⟩ := rn_gi (x := Fi h 142 3) hw.wt rfl rfl (by decide) rfl (by decide) rfl rfl hh
  have hh : pm_run PT n fr lo 70 (4, [some (.ref 142)], [.int (Fi h 142 3)], h, 198, sl) = some R := hh
  obtain ⟨n, hh⟩ := en_zn (cc := .gt) (off := 5) (t := 9) (b := pm_cmp .gt (Fi h 142 3) 0) rfl rfl rfl hh
  cases z1 : pm_cmp .gt (Fi h 142 3) 0 with
  | true =>
    have hh := en_t z1 hh
    have hh : pm_run PT n fr lo 70 (9, [some (.ref 142)], [], h, 198, sl) = some R := hh
    obtain ⟨n, hh⟩ := rn_i rfl rfl rfl rfl hh
    obtain ⟨n, hh⟩ := rn_i rfl rfl rfl rfl hh
    have hh : pm_run PT n fr lo 70 (11, [some (.ref 142)], [.ref 142, .ref 142], h, 198, sl) = some R := hh
    obtain ⟨n, hh⟩ := rn_gi (x := Fi h 142 3) hw.wt rfl rfl (by decide) rfl (by decide) rfl rfl hh
    obtain ⟨n, hh⟩ := rn_i rfl rfl rfl rfl hh
    obtain ⟨n, hh⟩ := rn_i rfl rfl rfl rfl hh
    have hh : pm_run PT n fr lo 70 (16, [some (.ref 142)], [.int ((Fi h 142 3) - (nI 1)), .ref 142], h, 198, sl) = some R := hh
    obtain ⟨n, hh⟩ := rn_pi hw.wt rfl rfl (by decide) rfl (by decide) rfl hh
    obtain ⟨n, hh⟩ := rn_i rfl rfl rfl rfl hh
    have hh : pm_run PT n fr lo 70 (20, [some (.ref 142)], [.ref 142], fset h 142 3 (.int ((Fi h 142 3) - (nI 1))), 198, sl) = some R := hh
    obtain ⟨n, hh⟩ := rn_gr (hc_f rfl rfl (by decide) rfl hw).wt rfl rfl (by decide) rfl (by decide) (show _ = some (2, ((144 : Nat) : Int), 1) from rfl) rfl hh
    obtain ⟨n, hh⟩ := rn_i rfl rfl rfl rfl hh
    have hh : pm_run PT n fr lo 70 (24, [some (.ref 142)], [.ref 142, .ref 144], fset h 142 3 (.int ((Fi h 142 3) - (nI 1))), 198, sl) = some R := hh
    obtain ⟨n, hh⟩ := rn_gi (x := (Fi h 142 3) - (nI 1)) (hc_f rfl rfl (by decide) rfl hw).wt rfl rfl (by decide) rfl (by decide) rfl (Fi_s hw.wt (by decide) rfl (by decide) rfl) hh
    have hh : pm_run PT n fr lo 70 (27, [some (.ref 142)], [.int ((Fi h 142 3) - (nI 1)), .ref 144], fset h 142 3 (.int ((Fi h 142 3) - (nI 1))), 198, sl) = some R := hh
    obtain ⟨n, hx2, hh⟩ := en_lu (t := ((Fi h 142 3) - (nI 1)).toNatClampNeg) (f := Ar h 144) (w := (Ar h 144) (((Fi h 142 3) - (nI 1)).toNatClampNeg)) rfl (hc_f rfl rfl (by decide) rfl hw).wt rfl (by decide) rfl (by decide) (Ar_f.trans rfl) (fun _ => rfl) hh
    have hh : pm_run PT n fr lo 70 (28, [some (.ref 142)], [.int ((Ar h 144) (((Fi h 142 3) - (nI 1)).toNatClampNeg))], fset h 142 3 (.int ((Fi h 142 3) - (nI 1))), 198, sl) = some R := hh
    have er3 : R = (some (.int ((Ar h 144) (((Fi h 142 3) - (nI 1)).toNatClampNeg))), fset h 142 3 (.int ((Fi h 142 3) - (nI 1))), 198, sl) := (rn_ret rfl (Or.inl rfl) hh).2
    have ed : v70a q cc gc h = ((Ar h 144) (((Fi h 142 3) - (nI 1)).toNatClampNeg), fset h 142 3 (.int ((Fi h 142 3) - (nI 1)))) := (ct z1).trans rfl
    refine ⟨?_, ?_, ?_⟩ <;> rw [ed]
    · exact er3
    · exact (hc_f rfl rfl (by decide) rfl hw)
    · exact (fr_f rfl rfl fr_0)
  | false =>
    have hh := en_f z1 hh
    have hh : pm_run PT n fr lo 70 (7, [some (.ref 142)], [], h, 198, sl) = some R := hh
    obtain ⟨n, hh⟩ := rn_i rfl rfl rfl rfl hh
    have hh : pm_run PT n fr lo 70 (8, [some (.ref 142)], [.int (nI 0)], h, 198, sl) = some R := hh
    have er4 : R = (some (.int (nI 0)), h, 198, sl) := (rn_ret rfl (Or.inl rfl) hh).2
    have ed : v70a q cc gc h = (nI 0, h) := (cf z1).trans rfl
    refine ⟨?_, ?_, ?_⟩ <;> rw [ed]
    · exact er4
    · exact hw
    · exact fr_0
theorem v70a_fr {cc gc : Nat} {q : QT} {h : pm_H} (hw : HC q cc gc h) : HC q cc gc ((v70a q cc gc h).2) ∧ frm [142] [(142, 3)] h ((v70a q cc gc h).2) := by
  unfold v70a
  refine cd_s (P := fun (p : Int32 × pm_H) => HC q cc gc ((p).2) ∧ frm [142] [(142, 3)] h ((p).2)) (b := pm_cmp .gt (Fi h 142 3) 0) (fun _ => ?_) (fun _ => ?_)
  · show HC q cc gc (fset h 142 3 (.int ((Fi h 142 3) - (nI 1)))) ∧ frm [142] [(142, 3)] h (fset h 142 3 (.int ((Fi h 142 3) - (nI 1))))
    exact ⟨(hc_f rfl rfl (by decide) rfl hw), (fr_f rfl rfl fr_0)⟩
  · show HC q cc gc (h) ∧ frm [142] [(142, 3)] h (h)
    exact ⟨hw, fr_0⟩
def v68a_7b (q : QT) (cc gc : Nat) (h : pm_H) (z : Nat) (i : Nat) : pm_H := cond (pm_cmp .lt ((Ar h 143) i) 0) (cond (pm_cmp .lt (v67 q cc gc (-((Ar h 143) i))) 0) (cond (pm_cmp .ne ((Ar h 143) i) (Int32.ofInt (-126))) (v69a q cc gc ((v70a q cc gc ((v70a q cc gc h).2)).2) (v71 q cc gc (-((Ar h 143) i)) ((v70a q cc gc ((v70a q cc gc h).2)).1) ((v70a q cc gc h).1))) (v69a q cc gc ((v70a q cc gc h).2) (-((v70a q cc gc h).1)))) (cond (pm_cmp .ge (v67 q cc gc (-((Ar h 143) i))) (nI 7)) (cond (pm_cmp .ne ((Ar h 143) i) (Int32.ofInt (-126))) (v69a q cc gc ((v70a q cc gc ((v70a q cc gc h).2)).2) (v71 q cc gc (-((Ar h 143) i)) ((v70a q cc gc ((v70a q cc gc h).2)).1) ((v70a q cc gc h).1))) (v69a q cc gc ((v70a q cc gc h).2) (-((v70a q cc gc h).1)))) (v69a q cc gc h ((Ar h 12) ((v67 q cc gc (-((Ar h 143) i))).toNatClampNeg))))) (v69a q cc gc h ((Ar h 143) i))
def v68a_7 (q : QT) (cc gc : Nat) (z : Nat) (j i : Nat) (a : pm_H) : pm_H := lp (fun i a => v68a_7b q cc gc a z i) j i a
theorem v68a_7_e {n fr lo sl cc gc : Nat} {q : QT} {h : pm_H} {R : pm_Rs} {z : Nat} {i : Nat} {o3 : Option Value} {o4 : Option Value} {o5 : Option Value} (hw : HC q cc gc h) (hz : z ≤ 40) (e1 : Fi h 142 1 = nI z) (hi : z ≤ i) (hI : i < 1000000) (hh : pm_run PT n fr lo 68 (7, [some (.ref 142), some (.ref 12), some (.int (nI i)), o3, o4, o5], [], h, 198, sl) = some R) : ∃ m, pm_run PT m fr lo 68 (127, [some (.ref 142), some (.ref 12), some (.int (nI i)), o3, o4, o5], [], h, 198, sl) = some R := by
  have hcc := hw.cb
  have hgc := hw.gb
  have hzr := hw.zr
  obtain ⟨n, hh⟩ := rn_i rfl rfl rfl rfl hh
  obtain ⟨n, hh⟩ := rn_i rfl rfl rfl rfl hh
  have hh : pm_run PT n fr lo 68 (9, [some (.ref 142), some (.ref 12), some (.int (nI i)), o3, o4, o5], [.ref 142, .int (nI i)], h, 198, sl) = some R := hh
  obtain ⟨n, hh⟩ := rn_gi (x := nI z) hw.wt rfl rfl (by decide) rfl (by decide) rfl e1 hh
  have hh : pm_run PT n fr lo 68 (12, [some (.ref 142), some (.ref 12), some (.int (nI i)), o3, o4, o5], [.int (nI z), .int (nI i)], h, 198, sl) = some R := hh
  obtain ⟨n, hh⟩ := en_cn (cc := .ge) (off := 115) (t := 127) (b := decide (z ≤ i)) (hI_ge (by omega) (by omega)) rfl rfl hh
  have hh := en_t (show decide (z ≤ i) = true from decide_eq_true (by omega)) hh
  have hh : pm_run PT n fr lo 68 (127, [some (.ref 142), some (.ref 12), some (.int (nI i)), o3, o4, o5], [], h, 198, sl) = some R := hh
  exact ⟨n, hh⟩
theorem v68a_7_s {n fr lo sl cc gc : Nat} {q : QT} {h : pm_H} {R : pm_Rs} {z : Nat} {i : Nat} {o3 : Option Value} {o4 : Option Value} {o5 : Option Value} (hw : HC q cc gc h) (hz : z ≤ 40) (e1 : Fi h 142 1 = nI z) (hi : i < z) (hI : i < 1000000) (hh : pm_run PT n fr lo 68 (7, [some (.ref 142), some (.ref 12), some (.int (nI i)), o3, o4, o5], [], h, 198, sl) = some R) : ∃ m w3 w4 w5, HC q cc gc ((v68a_7b q cc gc h z i)) ∧ frm [142, 144] [(142, 3)] h ((v68a_7b q cc gc h z i)) ∧ Fi ((v68a_7b q cc gc h z i)) 142 1 = nI z ∧ pm_run PT m fr lo 68 (7, [some (.ref 142), some (.ref 12), some (.int (nI (i + 1))), w3, w4, w5], [], (v68a_7b q cc gc h z i), 198, sl) = some R := by
  have hcc := hw.cb
  have hgc := hw.gb
  have hzr := hw.zr
  obtain ⟨n, hh⟩ := rn_i rfl rfl rfl rfl hh
  obtain ⟨n, hh⟩ := rn_i rfl rfl rfl rfl hh
  have hh : pm_run PT n fr lo 68 (9, [some (.ref 142), some (.ref 12), some (.int (nI i)), o3, o4, o5], [.ref 142, .int (nI i)], h, 198, sl) = some R := hh
  obtain ⟨n, hh⟩ := rn_gi (x := nI z) hw.wt rfl rfl (by decide) rfl (by decide) rfl e1 hh
  have hh : pm_run PT n fr lo 68 (12, [some (.ref 142), some (.ref 12), some (.int (nI i)), o3, o4, o5], [.int (nI z), .int (nI i)], h, 198, sl) = some R := hh
  obtain ⟨n, hh⟩ := en_cn (cc := .ge) (off := 115) (t := 127) (b := decide (z ≤ i)) (hI_ge (by omega) (by omega)) rfl rfl hh
  have hh := en_f (show decide (z ≤ i) = false from decide_eq_false (by omega)) hh
  have hh : pm_run PT n fr lo 68 (15, [some (.ref 142), some (.ref 12), some (.int (nI i)), o3, o4, o5], [], h, 198, sl) = some R := hh
  obtain ⟨n, hh⟩ := rn_i rfl rfl rfl rfl hh
  have hh : pm_run PT n fr lo 68 (16, [some (.ref 142), some (.ref 12), some (.int (nI i)), o3, o4, o5], [.ref 142], h, 198, sl) = some R := hh
  obtain ⟨n, hh⟩ := rn_gr hw.wt rfl rfl (by decide) rfl (by decide) (show _ = some (2, ((143 : Nat) : Int), 1) from rfl) rfl hh
  obtain ⟨n, hh⟩ := rn_i rfl rfl rfl rfl hh
  have hh : pm_run PT n fr lo 68 (20, [some (.ref 142), some (.ref 12), some (.int (nI i)), o3, o4, o5], [.int (nI i), .ref 143], h, 198, sl) = some R := hh
  obtain ⟨n, hx1, hh⟩ := en_lu (t := i) (f := Ar h 143) (w := (Ar h 143) i) (nI_clamp (by omega)) hw.wt rfl (by decide) rfl (by decide) rfl (fun _ => rfl) hh
  obtain ⟨n, hh⟩ := rn_i rfl rfl rfl rfl hh
  have hh : pm_run PT n fr lo 68 (22, [some (.ref 142), some (.ref 12), some (.int (nI i)), o3, o4, o5], [.int (-((Ar h 143) i))], h, 198, sl) = some R := hh
  obtain ⟨n, fr1, lo1, r1, hh1, hh⟩ := rn_call (w := 2) (t := 67) rfl rfl hh
  have er2 := v67_ok (x := (-((Ar h 143) i))) hw hh1
  subst er2
  obtain ⟨n, hh⟩ := rn_i rfl rfl rfl rfl hh
  obtain ⟨n, hh⟩ := rn_i rfl rfl rfl rfl hh
  have hh : pm_run PT n fr lo 68 (27, [some (.ref 142), some (.ref 12), some (.int (nI i)), some (.int (v67 q cc gc (-((Ar h 143) i)))), o4, o5], [.ref 142], h, 198, sl) = some R := hh
  obtain ⟨n, hh⟩ := rn_gr hw.wt rfl rfl (by decide) rfl (by decide) (show _ = some (2, ((143 : Nat) : Int), 1) from rfl) rfl hh
  obtain ⟨n, hh⟩ := rn_i rfl rfl rfl rfl hh
  have hh : pm_run PT n fr lo 68 (31, [some (.ref 142), some (.ref 12), some (.int (nI i)), some (.int (v67 q cc gc (-((Ar h 143) i)))), o4, o5], [.int (nI i), .ref 143], h, 198, sl) = some R := hh
  obtain ⟨n, hx3, hh⟩ := en_lu (t := i) (f := Ar h 143) (w := (Ar h 143) i) (nI_clamp (by omega)) hw.wt rfl (by decide) rfl (by decide) rfl (fun _ => rfl) hh
  have hh : pm_run PT n fr lo 68 (32, [some (.ref 142), some (.ref 12), some (.int (nI i)), some (.int (v67 q cc gc (-((Ar h 143) i)))), o4, o5], [.int ((Ar h 143) i)], h, 198, sl) = some R := hh
  obtain ⟨n, hh⟩ := en_zn (cc := .lt) (off := 16) (t := 48) (b := pm_cmp .lt ((Ar h 143) i) 0) rfl rfl rfl hh
  cases z4 : pm_cmp .lt ((Ar h 143) i) 0 with
  | true =>
    have hh := en_t z4 hh
    have hh : pm_run PT n fr lo 68 (48, [some (.ref 142), some (.ref 12), some (.int (nI i)), some (.int (v67 q cc gc (-((Ar h 143) i)))), o4, o5], [], h, 198, sl) = some R := hh
    obtain ⟨n, hh⟩ := rn_i rfl rfl rfl rfl hh
    have hh : pm_run PT n fr lo 68 (49, [some (.ref 142), some (.ref 12), some (.int (nI i)), some (.int (v67 q cc gc (-((Ar h 143) i)))), o4, o5], [.int (v67 q cc gc (-((Ar h 143) i)))], h, 198, sl) = some R := hh
    obtain ⟨n, hh⟩ := en_zn (cc := .lt) (off := 19) (t := 68) (b := pm_cmp .lt (v67 q cc gc (-((Ar h 143) i))) 0) rfl rfl rfl hh
    cases z5 : pm_cmp .lt (v67 q cc gc (-((Ar h 143) i))) 0 with
    | true =>
      have hh := en_t z5 hh
      have hh : pm_run PT n fr lo 68 (68, [some (.ref 142), some (.ref 12), some (.int (nI i)), some (.int (v67 q cc gc (-((Ar h 143) i)))), o4, o5], [], h, 198, sl) = some R := hh
      obtain ⟨n, hh⟩ := rn_i rfl rfl rfl rfl hh
      have hh : pm_run PT n fr lo 68 (69, [some (.ref 142), some (.ref 12), some (.int (nI i)), some (.int (v67 q cc gc (-((Ar h 143) i)))), o4, o5], [.ref 142], h, 198, sl) = some R := hh
      obtain ⟨n, hh⟩ := rn_gr hw.wt rfl rfl (by decide) rfl (by decide) (show _ = some (2, ((143 : Nat) : Int), 1) from rfl) rfl hh
      obtain ⟨n, hh⟩ := rn_i rfl rfl rfl rfl hh
      have hh : pm_run PT n fr lo 68 (73, [some (.ref 142), some (.ref 12), some (.int (nI i)), some (.int (v67 q cc gc (-((Ar h 143) i)))), o4, o5], [.int (nI i), .ref 143], h, 198, sl) = some R := hh
      obtain ⟨n, hx6, hh⟩ := en_lu (t := i) (f := Ar h 143) (w := (Ar h 143) i) (nI_clamp (by omega)) hw.wt rfl (by decide) rfl (by decide) rfl (fun _ => rfl) hh
      obtain ⟨n, hh⟩ := rn_i rfl rfl rfl rfl hh
      have hh : pm_run PT n fr lo 68 (76, [some (.ref 142), some (.ref 12), some (.int (nI i)), some (.int (v67 q cc gc (-((Ar h 143) i)))), o4, o5], [.int (Int32.ofInt (-126)), .int ((Ar h 143) i)], h, 198, sl) = some R := hh
      obtain ⟨n, hh⟩ := en_cn (cc := .ne) (off := 15) (t := 91) (b := pm_cmp .ne ((Ar h 143) i) (Int32.ofInt (-126))) rfl rfl rfl hh
      cases z7 : pm_cmp .ne ((Ar h 143) i) (Int32.ofInt (-126)) with
      | true =>
        have hh := en_t z7 hh
        have hh : pm_run PT n fr lo 68 (91, [some (.ref 142), some (.ref 12), some (.int (nI i)), some (.int (v67 q cc gc (-((Ar h 143) i)))), o4, o5], [], h, 198, sl) = some R := hh
        obtain ⟨n, hh⟩ := rn_i rfl rfl rfl rfl hh
        have hh : pm_run PT n fr lo 68 (92, [some (.ref 142), some (.ref 12), some (.int (nI i)), some (.int (v67 q cc gc (-((Ar h 143) i)))), o4, o5], [.ref 142], h, 198, sl) = some R := hh
        obtain ⟨n, fr1, lo1, r1, hh1, hh⟩ := rn_call (w := 0) (t := 70) rfl rfl hh
        obtain ⟨er8, hc9, hf10⟩ := v70a_ok hw hh1
        subst er8
        obtain ⟨n, hh⟩ := rn_i rfl rfl rfl rfl hh
        obtain ⟨n, hh⟩ := rn_i rfl rfl rfl rfl hh
        have hh : pm_run PT n fr lo 68 (98, [some (.ref 142), some (.ref 12), some (.int (nI i)), some (.int (v67 q cc gc (-((Ar h 143) i)))), some (.int ((v70a q cc gc h).1)), o5], [.ref 142], (v70a q cc gc h).2, 198, sl) = some R := hh
        obtain ⟨n, fr1, lo1, r1, hh1, hh⟩ := rn_call (w := 0) (t := 70) rfl rfl hh
        obtain ⟨er11, hc12, hf13⟩ := v70a_ok hc9 hh1
        subst er11
        obtain ⟨n, hh⟩ := rn_i rfl rfl rfl rfl hh
        obtain ⟨n, hh⟩ := rn_i rfl rfl rfl rfl hh
        obtain ⟨n, hh⟩ := rn_i rfl rfl rfl rfl hh
        have hh : pm_run PT n fr lo 68 (105, [some (.ref 142), some (.ref 12), some (.int (nI i)), some (.int (v67 q cc gc (-((Ar h 143) i)))), some (.int ((v70a q cc gc h).1)), some (.int ((v70a q cc gc ((v70a q cc gc h).2)).1))], [.ref 142, .ref 142], (v70a q cc gc ((v70a q cc gc h).2)).2, 198, sl) = some R := hh
        obtain ⟨n, hh⟩ := rn_gr hc12.wt rfl rfl (by decide) rfl (by decide) (show _ = some (2, ((143 : Nat) : Int), 1) from rfl) rfl hh
        obtain ⟨n, hh⟩ := rn_i rfl rfl rfl rfl hh
        have hh : pm_run PT n fr lo 68 (109, [some (.ref 142), some (.ref 12), some (.int (nI i)), some (.int (v67 q cc gc (-((Ar h 143) i)))), some (.int ((v70a q cc gc h).1)), some (.int ((v70a q cc gc ((v70a q cc gc h).2)).1))], [.int (nI i), .ref 143, .ref 142], (v70a q cc gc ((v70a q cc gc h).2)).2, 198, sl) = some R := hh
        obtain ⟨n, hx14, hh⟩ := en_lu (t := i) (f := Ar h 143) (w := (Ar h 143) i) (nI_clamp (by omega)) hc12.wt rfl (by decide) rfl (by decide) ((Ar_e (hf13.1 143 rfl)).trans ((Ar_e (hf10.1 143 rfl)).trans rfl)) (fun _ => rfl) hh
        obtain ⟨n, hh⟩ := rn_i rfl rfl rfl rfl hh
        obtain ⟨n, hh⟩ := rn_i rfl rfl rfl rfl hh
        obtain ⟨n, hh⟩ := rn_i rfl rfl rfl rfl hh
        have hh : pm_run PT n fr lo 68 (115, [some (.ref 142), some (.ref 12), some (.int (nI i)), some (.int (v67 q cc gc (-((Ar h 143) i)))), some (.int ((v70a q cc gc h).1)), some (.int ((v70a q cc gc ((v70a q cc gc h).2)).1))], [.int ((v70a q cc gc h).1), .int ((v70a q cc gc ((v70a q cc gc h).2)).1), .int (-((Ar h 143) i)), .ref 142], (v70a q cc gc ((v70a q cc gc h).2)).2, 198, sl) = some R := hh
        obtain ⟨n, fr1, lo1, r1, hh1, hh⟩ := rn_call (w := 2) (t := 71) rfl rfl hh
        have er15 := v71_ok (s := (-((Ar h 143) i))) (a := ((v70a q cc gc ((v70a q cc gc h).2)).1)) (b := ((v70a q cc gc h).1)) hc12 hh1
        subst er15
        have hh : pm_run PT n fr lo 68 (118, [some (.ref 142), some (.ref 12), some (.int (nI i)), some (.int (v67 q cc gc (-((Ar h 143) i)))), some (.int ((v70a q cc gc h).1)), some (.int ((v70a q cc gc ((v70a q cc gc h).2)).1))], [.int (v71 q cc gc (-((Ar h 143) i)) ((v70a q cc gc ((v70a q cc gc h).2)).1) ((v70a q cc gc h).1)), .ref 142], (v70a q cc gc ((v70a q cc gc h).2)).2, 198, sl) = some R := hh
        obtain ⟨n, fr1, lo1, r1, hh1, hh⟩ := rn_call (w := 0) (t := 69) rfl rfl hh
        obtain ⟨er16, hc17, hf18⟩ := v69a_ok (v := (v71 q cc gc (-((Ar h 143) i)) ((v70a q cc gc ((v70a q cc gc h).2)).1) ((v70a q cc gc h).1))) hc12 hh1
        subst er16
        have hh : pm_run PT n fr lo 68 (121, [some (.ref 142), some (.ref 12), some (.int (nI i)), some (.int (v67 q cc gc (-((Ar h 143) i)))), some (.int ((v70a q cc gc h).1)), some (.int ((v70a q cc gc ((v70a q cc gc h).2)).1))], [], v69a q cc gc ((v70a q cc gc ((v70a q cc gc h).2)).2) (v71 q cc gc (-((Ar h 143) i)) ((v70a q cc gc ((v70a q cc gc h).2)).1) ((v70a q cc gc h).1)), 198, sl) = some R := hh
        obtain ⟨n, hh⟩ := en_inc (x := i) (c := 1) (j := 2) rfl rfl (by decide) hh
        have hh : pm_run PT n fr lo 68 (124, [some (.ref 142), some (.ref 12), some (.int (nI (i + 1))), some (.int (v67 q cc gc (-((Ar h 143) i)))), some (.int ((v70a q cc gc h).1)), some (.int ((v70a q cc gc ((v70a q cc gc h).2)).1))], [], v69a q cc gc ((v70a q cc gc ((v70a q cc gc h).2)).2) (v71 q cc gc (-((Ar h 143) i)) ((v70a q cc gc ((v70a q cc gc h).2)).1) ((v70a q cc gc h).1)), 198, sl) = some R := hh
        obtain ⟨n, hh⟩ := rn_i rfl rfl rfl rfl hh
        have ed : v68a_7b q cc gc h z i = v69a q cc gc ((v70a q cc gc ((v70a q cc gc h).2)).2) (v71 q cc gc (-((Ar h 143) i)) ((v70a q cc gc ((v70a q cc gc h).2)).1) ((v70a q cc gc h).1)) := (ct z4).trans ((ct z5).trans ((ct z7).trans rfl))
        rw [ed]
        exact ⟨n, some (.int (v67 q cc gc (-((Ar h 143) i)))), some (.int ((v70a q cc gc h).1)), some (.int ((v70a q cc gc ((v70a q cc gc h).2)).1)), hc17, (fr_g rfl rfl hf18 (fr_g rfl rfl hf13 (fr_g rfl rfl hf10 fr_0))), ((hf18.2 142 1 (by decide +kernel) rfl).trans ((hf13.2 142 1 (by decide +kernel) rfl).trans ((hf10.2 142 1 (by decide +kernel) rfl).trans e1))), hh⟩
      | false =>
        have hh := en_f z7 hh
        have hh : pm_run PT n fr lo 68 (79, [some (.ref 142), some (.ref 12), some (.int (nI i)), some (.int (v67 q cc gc (-((Ar h 143) i)))), o4, o5], [], h, 198, sl) = some R := hh
        obtain ⟨n, hh⟩ := rn_i rfl rfl rfl rfl hh
        obtain ⟨n, hh⟩ := rn_i rfl rfl rfl rfl hh
        have hh : pm_run PT n fr lo 68 (81, [some (.ref 142), some (.ref 12), some (.int (nI i)), some (.int (v67 q cc gc (-((Ar h 143) i)))), o4, o5], [.ref 142, .ref 142], h, 198, sl) = some R := hh
        obtain ⟨n, fr1, lo1, r1, hh1, hh⟩ := rn_call (w := 0) (t := 70) rfl rfl hh
        obtain ⟨er19, hc20, hf21⟩ := v70a_ok hw hh1
        subst er19
        obtain ⟨n, hh⟩ := rn_i rfl rfl rfl rfl hh
        have hh : pm_run PT n fr lo 68 (85, [some (.ref 142), some (.ref 12), some (.int (nI i)), some (.int (v67 q cc gc (-((Ar h 143) i)))), o4, o5], [.int (-((v70a q cc gc h).1)), .ref 142], (v70a q cc gc h).2, 198, sl) = some R := hh
        obtain ⟨n, fr1, lo1, r1, hh1, hh⟩ := rn_call (w := 0) (t := 69) rfl rfl hh
        obtain ⟨er22, hc23, hf24⟩ := v69a_ok (v := (-((v70a q cc gc h).1))) hc20 hh1
        subst er22
        obtain ⟨n, hh⟩ := rn_i rfl rfl rfl rfl hh
        have hh : pm_run PT n fr lo 68 (121, [some (.ref 142), some (.ref 12), some (.int (nI i)), some (.int (v67 q cc gc (-((Ar h 143) i)))), o4, o5], [], v69a q cc gc ((v70a q cc gc h).2) (-((v70a q cc gc h).1)), 198, sl) = some R := hh
        obtain ⟨n, hh⟩ := en_inc (x := i) (c := 1) (j := 2) rfl rfl (by decide) hh
        have hh : pm_run PT n fr lo 68 (124, [some (.ref 142), some (.ref 12), some (.int (nI (i + 1))), some (.int (v67 q cc gc (-((Ar h 143) i)))), o4, o5], [], v69a q cc gc ((v70a q cc gc h).2) (-((v70a q cc gc h).1)), 198, sl) = some R := hh
        obtain ⟨n, hh⟩ := rn_i rfl rfl rfl rfl hh
        have ed : v68a_7b q cc gc h z i = v69a q cc gc ((v70a q cc gc h).2) (-((v70a q cc gc h).1)) := (ct z4).trans ((ct z5).trans ((cf z7).trans rfl))
        rw [ed]
        exact ⟨n, some (.int (v67 q cc gc (-((Ar h 143) i)))), o4, o5, hc23, (fr_g rfl rfl hf24 (fr_g rfl rfl hf21 fr_0)), ((hf24.2 142 1 (by decide +kernel) rfl).trans ((hf21.2 142 1 (by decide +kernel) rfl).trans e1)), hh⟩
    | false =>
      have hh := en_f z5 hh
      have hh : pm_run PT n fr lo 68 (52, [some (.ref 142), some (.ref 12), some (.int (nI i)), some (.int (v67 q cc gc (-((Ar h 143) i)))), o4, o5], [], h, 198, sl) = some R := hh
      obtain ⟨n, hh⟩ := rn_i rfl rfl rfl rfl hh
      obtain ⟨n, hh⟩ := rn_i rfl rfl rfl rfl hh
      have hh : pm_run PT n fr lo 68 (54, [some (.ref 142), some (.ref 12), some (.int (nI i)), some (.int (v67 q cc gc (-((Ar h 143) i)))), o4, o5], [.ref 12, .int (v67 q cc gc (-((Ar h 143) i)))], h, 198, sl) = some R := hh
      obtain ⟨n, hh⟩ := en_al hw.wt rfl (by decide) rfl (by decide) rfl hh
      have hh : pm_run PT n fr lo 68 (55, [some (.ref 142), some (.ref 12), some (.int (nI i)), some (.int (v67 q cc gc (-((Ar h 143) i)))), o4, o5], [.int (nI 7), .int (v67 q cc gc (-((Ar h 143) i)))], h, 198, sl) = some R := hh
      obtain ⟨n, hh⟩ := en_cn (cc := .ge) (off := 13) (t := 68) (b := pm_cmp .ge (v67 q cc gc (-((Ar h 143) i))) (nI 7)) rfl rfl rfl hh
      cases z25 : pm_cmp .ge (v67 q cc gc (-((Ar h 143) i))) (nI 7) with
      | true =>
        have hh := en_t z25 hh
        have hh : pm_run PT n fr lo 68 (68, [some (.ref 142), some (.ref 12), some (.int (nI i)), some (.int (v67 q cc gc (-((Ar h 143) i)))), o4, o5], [], h, 198, sl) = some R := hh
        obtain ⟨n, hh⟩ := rn_i rfl rfl rfl rfl hh
        have hh : pm_run PT n fr lo 68 (69, [some (.ref 142), some (.ref 12), some (.int (nI i)), some (.int (v67 q cc gc (-((Ar h 143) i)))), o4, o5], [.ref 142], h, 198, sl) = some R := hh
        obtain ⟨n, hh⟩ := rn_gr hw.wt rfl rfl (by decide) rfl (by decide) (show _ = some (2, ((143 : Nat) : Int), 1) from rfl) rfl hh
        obtain ⟨n, hh⟩ := rn_i rfl rfl rfl rfl hh
        have hh : pm_run PT n fr lo 68 (73, [some (.ref 142), some (.ref 12), some (.int (nI i)), some (.int (v67 q cc gc (-((Ar h 143) i)))), o4, o5], [.int (nI i), .ref 143], h, 198, sl) = some R := hh
        obtain ⟨n, hx26, hh⟩ := en_lu (t := i) (f := Ar h 143) (w := (Ar h 143) i) (nI_clamp (by omega)) hw.wt rfl (by decide) rfl (by decide) rfl (fun _ => rfl) hh
        obtain ⟨n, hh⟩ := rn_i rfl rfl rfl rfl hh
        have hh : pm_run PT n fr lo 68 (76, [some (.ref 142), some (.ref 12), some (.int (nI i)), some (.int (v67 q cc gc (-((Ar h 143) i)))), o4, o5], [.int (Int32.ofInt (-126)), .int ((Ar h 143) i)], h, 198, sl) = some R := hh
        obtain ⟨n, hh⟩ := en_cn (cc := .ne) (off := 15) (t := 91) (b := pm_cmp .ne ((Ar h 143) i) (Int32.ofInt (-126))) rfl rfl rfl hh
        cases z27 : pm_cmp .ne ((Ar h 143) i) (Int32.ofInt (-126)) with
        | true =>
          have hh := en_t z27 hh
          have hh : pm_run PT n fr lo 68 (91, [some (.ref 142), some (.ref 12), some (.int (nI i)), some (.int (v67 q cc gc (-((Ar h 143) i)))), o4, o5], [], h, 198, sl) = some R := hh
          obtain ⟨n, hh⟩ := rn_i rfl rfl rfl rfl hh
          have hh : pm_run PT n fr lo 68 (92, [some (.ref 142), some (.ref 12), some (.int (nI i)), some (.int (v67 q cc gc (-((Ar h 143) i)))), o4, o5], [.ref 142], h, 198, sl) = some R := hh
          obtain ⟨n, fr1, lo1, r1, hh1, hh⟩ := rn_call (w := 0) (t := 70) rfl rfl hh
          obtain ⟨er28, hc29, hf30⟩ := v70a_ok hw hh1
          subst er28
          obtain ⟨n, hh⟩ := rn_i rfl rfl rfl rfl hh
          obtain ⟨n, hh⟩ := rn_i rfl rfl rfl rfl hh
          have hh : pm_run PT n fr lo 68 (98, [some (.ref 142), some (.ref 12), some (.int (nI i)), some (.int (v67 q cc gc (-((Ar h 143) i)))), some (.int ((v70a q cc gc h).1)), o5], [.ref 142], (v70a q cc gc h).2, 198, sl) = some R := hh
          obtain ⟨n, fr1, lo1, r1, hh1, hh⟩ := rn_call (w := 0) (t := 70) rfl rfl hh
          obtain ⟨er31, hc32, hf33⟩ := v70a_ok hc29 hh1
          subst er31
          obtain ⟨n, hh⟩ := rn_i rfl rfl rfl rfl hh
          obtain ⟨n, hh⟩ := rn_i rfl rfl rfl rfl hh
          obtain ⟨n, hh⟩ := rn_i rfl rfl rfl rfl hh
          have hh : pm_run PT n fr lo 68 (105, [some (.ref 142), some (.ref 12), some (.int (nI i)), some (.int (v67 q cc gc (-((Ar h 143) i)))), some (.int ((v70a q cc gc h).1)), some (.int ((v70a q cc gc ((v70a q cc gc h).2)).1))], [.ref 142, .ref 142], (v70a q cc gc ((v70a q cc gc h).2)).2, 198, sl) = some R := hh
          obtain ⟨n, hh⟩ := rn_gr hc32.wt rfl rfl (by decide) rfl (by decide) (show _ = some (2, ((143 : Nat) : Int), 1) from rfl) rfl hh
          obtain ⟨n, hh⟩ := rn_i rfl rfl rfl rfl hh
          have hh : pm_run PT n fr lo 68 (109, [some (.ref 142), some (.ref 12), some (.int (nI i)), some (.int (v67 q cc gc (-((Ar h 143) i)))), some (.int ((v70a q cc gc h).1)), some (.int ((v70a q cc gc ((v70a q cc gc h).2)).1))], [.int (nI i), .ref 143, .ref 142], (v70a q cc gc ((v70a q cc gc h).2)).2, 198, sl) = some R := hh
          obtain ⟨n, hx34, hh⟩ := en_lu (t := i) (f := Ar h 143) (w := (Ar h 143) i) (nI_clamp (by omega)) hc32.wt rfl (by decide) rfl (by decide) ((Ar_e (hf33.1 143 rfl)).trans ((Ar_e (hf30.1 143 rfl)).trans rfl)) (fun _ => rfl) hh
          obtain ⟨n, hh⟩ := rn_i rfl rfl rfl rfl hh
          obtain ⟨n, hh⟩ := rn_i rfl rfl rfl rfl hh
          obtain ⟨n, hh⟩ := rn_i rfl rfl rfl rfl hh
          have hh : pm_run PT n fr lo 68 (115, [some (.ref 142), some (.ref 12), some (.int (nI i)), some (.int (v67 q cc gc (-((Ar h 143) i)))), some (.int ((v70a q cc gc h).1)), some (.int ((v70a q cc gc ((v70a q cc gc h).2)).1))], [.int ((v70a q cc gc h).1), .int ((v70a q cc gc ((v70a q cc gc h).2)).1), .int (-((Ar h 143) i)), .ref 142], (v70a q cc gc ((v70a q cc gc h).2)).2, 198, sl) = some R := hh
          obtain ⟨n, fr1, lo1, r1, hh1, hh⟩ := rn_call (w := 2) (t := 71) rfl rfl hh
          have er35 := v71_ok (s := (-((Ar h 143) i))) (a := ((v70a q cc gc ((v70a q cc gc h).2)).1)) (b := ((v70a q cc gc h).1)) hc32 hh1
          subst er35
          have hh : pm_run PT n fr lo 68 (118, [some (.ref 142), some (.ref 12), some (.int (nI i)), some (.int (v67 q cc gc (-((Ar h 143) i)))), some (.int ((v70a q cc gc h).1)), some (.int ((v70a q cc gc ((v70a q cc gc h).2)).1))], [.int (v71 q cc gc (-((Ar h 143) i)) ((v70a q cc gc ((v70a q cc gc h).2)).1) ((v70a q cc gc h).1)), .ref 142], (v70a q cc gc ((v70a q cc gc h).2)).2, 198, sl) = some R := hh
          obtain ⟨n, fr1, lo1, r1, hh1, hh⟩ := rn_call (w := 0) (t := 69) rfl rfl hh
          obtain ⟨er36, hc37, hf38⟩ := v69a_ok (v := (v71 q cc gc (-((Ar h 143) i)) ((v70a q cc gc ((v70a q cc gc h).2)).1) ((v70a q cc gc h).1))) hc32 hh1
          subst er36
          have hh : pm_run PT n fr lo 68 (121, [some (.ref 142), some (.ref 12), some (.int (nI i)), some (.int (v67 q cc gc (-((Ar h 143) i)))), some (.int ((v70a q cc gc h).1)), some (.int ((v70a q cc gc ((v70a q cc gc h).2)).1))], [], v69a q cc gc ((v70a q cc gc ((v70a q cc gc h).2)).2) (v71 q cc gc (-((Ar h 143) i)) ((v70a q cc gc ((v70a q cc gc h).2)).1) ((v70a q cc gc h).1)), 198, sl) = some R := hh
          obtain ⟨n, hh⟩ := en_inc (x := i) (c := 1) (j := 2) rfl rfl (by decide) hh
          have hh : pm_run PT n fr lo 68 (124, [some (.ref 142), some (.ref 12), some (.int (nI (i + 1))), some (.int (v67 q cc gc (-((Ar h 143) i)))), some (.int ((v70a q cc gc h).1)), some (.int ((v70a q cc gc ((v70a q cc gc h).2)).1))], [], v69a q cc gc ((v70a q cc gc ((v70a q cc gc h).2)).2) (v71 q cc gc (-((Ar h 143) i)) ((v70a q cc gc ((v70a q cc gc h).2)).1) ((v70a q cc gc h).1)), 198, sl) = some R := hh
          obtain ⟨n, hh⟩ := rn_i rfl rfl rfl rfl hh
          have ed : v68a_7b q cc gc h z i = v69a q cc gc ((v70a q cc gc ((v70a q cc gc h).2)).2) (v71 q cc gc (-((Ar h 143) i)) ((v70a q cc gc ((v70a q cc gc h).2)).1) ((v70a q cc gc h).1)) := (ct z4).trans ((cf z5).trans ((ct z25).trans ((ct z27).trans rfl)))
          rw [ed]
          exact ⟨n, some (.int (v67 q cc gc (-((Ar h 143) i)))), some (.int ((v70a q cc gc h).1)), some (.int ((v70a q cc gc ((v70a q cc gc h).2)).1)), hc37, (fr_g rfl rfl hf38 (fr_g rfl rfl hf33 (fr_g rfl rfl hf30 fr_0))), ((hf38.2 142 1 (by decide +kernel) rfl).trans ((hf33.2 142 1 (by decide +kernel) rfl).trans ((hf30.2 142 1 (by decide +kernel) rfl).trans e1))), hh⟩
        | false =>
          have hh := en_f z27 hh
          have hh : pm_run PT n fr lo 68 (79, [some (.ref 142), some (.ref 12), some (.int (nI i)), some (.int (v67 q cc gc (-((Ar h 143) i)))), o4, o5], [], h, 198, sl) = some R := hh
          obtain ⟨n, hh⟩ := rn_i rfl rfl rfl rfl hh
          obtain ⟨n, hh⟩ := rn_i rfl rfl rfl rfl hh
          have hh : pm_run PT n fr lo 68 (81, [some (.ref 142), some (.ref 12), some (.int (nI i)), some (.int (v67 q cc gc (-((Ar h 143) i)))), o4, o5], [.ref 142, .ref 142], h, 198, sl) = some R := hh
          obtain ⟨n, fr1, lo1, r1, hh1, hh⟩ := rn_call (w := 0) (t := 70) rfl rfl hh
          obtain ⟨er39, hc40, hf41⟩ := v70a_ok hw hh1
          subst er39
          obtain ⟨n, hh⟩ := rn_i rfl rfl rfl rfl hh
          have hh : pm_run PT n fr lo 68 (85, [some (.ref 142), some (.ref 12), some (.int (nI i)), some (.int (v67 q cc gc (-((Ar h 143) i)))), o4, o5], [.int (-((v70a q cc gc h).1)), .ref 142], (v70a q cc gc h).2, 198, sl) = some R := hh
          obtain ⟨n, fr1, lo1, r1, hh1, hh⟩ := rn_call (w := 0) (t := 69) rfl rfl hh
          obtain ⟨er42, hc43, hf44⟩ := v69a_ok (v := (-((v70a q cc gc h).1))) hc40 hh1
          subst er42
          obtain ⟨n, hh⟩ := rn_i rfl rfl rfl rfl hh
          have hh : pm_run PT n fr lo 68 (121, [some (.ref 142), some (.ref 12), some (.int (nI i)), some (.int (v67 q cc gc (-((Ar h 143) i)))), o4, o5], [], v69a q cc gc ((v70a q cc gc h).2) (-((v70a q cc gc h).1)), 198, sl) = some R := hh
          obtain ⟨n, hh⟩ := en_inc (x := i) (c := 1) (j := 2) rfl rfl (by decide) hh
          have hh : pm_run PT n fr lo 68 (124, [some (.ref 142), some (.ref 12), some (.int (nI (i + 1))), some (.int (v67 q cc gc (-((Ar h 143) i)))), o4, o5], [], v69a q cc gc ((v70a q cc gc h).2) (-((v70a q cc gc h).1)), 198, sl) = some R := hh
          obtain ⟨n, hh⟩ := rn_i rfl rfl rfl rfl hh
          have ed : v68a_7b q cc gc h z i = v69a q cc gc ((v70a q cc gc h).2) (-((v70a q cc gc h).1)) := (ct z4).trans ((cf z5).trans ((ct z25).trans ((cf z27).trans rfl)))
          rw [ed]
          exact ⟨n, some (.int (v67 q cc gc (-((Ar h 143) i)))), o4, o5, hc43, (fr_g rfl rfl hf44 (fr_g rfl rfl hf41 fr_0)), ((hf44.2 142 1 (by decide +kernel) rfl).trans ((hf41.2 142 1 (by decide +kernel) rfl).trans e1)), hh⟩
      | false =>
        have hh := en_f z25 hh
        have hh : pm_run PT n fr lo 68 (58, [some (.ref 142), some (.ref 12), some (.int (nI i)), some (.int (v67 q cc gc (-((Ar h 143) i)))), o4, o5], [], h, 198, sl) = some R := hh
        obtain ⟨n, hh⟩ := rn_i rfl rfl rfl rfl hh
        obtain ⟨n, hh⟩ := rn_i rfl rfl rfl rfl hh
        obtain ⟨n, hh⟩ := rn_i rfl rfl rfl rfl hh
        have hh : pm_run PT n fr lo 68 (61, [some (.ref 142), some (.ref 12), some (.int (nI i)), some (.int (v67 q cc gc (-((Ar h 143) i)))), o4, o5], [.int (v67 q cc gc (-((Ar h 143) i))), .ref 12, .ref 142], h, 198, sl) = some R := hh
        obtain ⟨n, hx45, hh⟩ := en_lu (t := (v67 q cc gc (-((Ar h 143) i))).toNatClampNeg) (f := Ar h 12) (w := (Ar h 12) ((v67 q cc gc (-((Ar h 143) i))).toNatClampNeg)) rfl hw.wt rfl (by decide) rfl (by decide) rfl (fun _ => rfl) hh
        have hh : pm_run PT n fr lo 68 (62, [some (.ref 142), some (.ref 12), some (.int (nI i)), some (.int (v67 q cc gc (-((Ar h 143) i)))), o4, o5], [.int ((Ar h 12) ((v67 q cc gc (-((Ar h 143) i))).toNatClampNeg)), .ref 142], h, 198, sl) = some R := hh
        obtain ⟨n, fr1, lo1, r1, hh1, hh⟩ := rn_call (w := 0) (t := 69) rfl rfl hh
        obtain ⟨er46, hc47, hf48⟩ := v69a_ok (v := ((Ar h 12) ((v67 q cc gc (-((Ar h 143) i))).toNatClampNeg))) hw hh1
        subst er46
        obtain ⟨n, hh⟩ := rn_i rfl rfl rfl rfl hh
        have hh : pm_run PT n fr lo 68 (121, [some (.ref 142), some (.ref 12), some (.int (nI i)), some (.int (v67 q cc gc (-((Ar h 143) i)))), o4, o5], [], v69a q cc gc h ((Ar h 12) ((v67 q cc gc (-((Ar h 143) i))).toNatClampNeg)), 198, sl) = some R := hh
        obtain ⟨n, hh⟩ := en_inc (x := i) (c := 1) (j := 2) rfl rfl (by decide) hh
        have hh : pm_run PT n fr lo 68 (124, [some (.ref 142), some (.ref 12), some (.int (nI (i + 1))), some (.int (v67 q cc gc (-((Ar h 143) i)))), o4, o5], [], v69a q cc gc h ((Ar h 12) ((v67 q cc gc (-((Ar h 143) i))).toNatClampNeg)), 198, sl) = some R := hh
        obtain ⟨n, hh⟩ := rn_i rfl rfl rfl rfl hh
        have ed : v68a_7b q cc gc h z i = v69a q cc gc h ((Ar h 12) ((v67 q cc gc (-((Ar h 143) i))).toNatClampNeg)) := (ct z4).trans ((cf z5).trans ((cf z25).trans rfl))
        rw [ed]
        exact ⟨n, some (.int (v67 q cc gc (-((Ar h 143) i)))), o4, o5, hc47, (fr_g rfl rfl hf48 fr_0), ((hf48.2 142 1 (by decide +kernel) rfl).trans e1), hh⟩
  | false =>
    have hh := en_f z4 hh
    have hh : pm_run PT n fr lo 68 (35, [some (.ref 142), some (.ref 12), some (.int (nI i)), some (.int (v67 q cc gc (-((Ar h 143) i)))), o4, o5], [], h, 198, sl) = some R := hh
    obtain ⟨n, hh⟩ := rn_i rfl rfl rfl rfl hh
    obtain ⟨n, hh⟩ := rn_i rfl rfl rfl rfl hh
    have hh : pm_run PT n fr lo 68 (37, [some (.ref 142), some (.ref 12), some (.int (nI i)), some (.int (v67 q cc gc (-((Ar h 143) i)))), o4, o5], [.ref 142, .ref 142], h, 198, sl) = some R := hh
    obtain ⟨n, hh⟩ := rn_gr hw.wt rfl rfl (by decide) rfl (by decide) (show _ = some (2, ((143 : Nat) : Int), 1) from rfl) rfl hh
    obtain ⟨n, hh⟩ := rn_i rfl rfl rfl rfl hh
    have hh : pm_run PT n fr lo 68 (41, [some (.ref 142), some (.ref 12), some (.int (nI i)), some (.int (v67 q cc gc (-((Ar h 143) i)))), o4, o5], [.int (nI i), .ref 143, .ref 142], h, 198, sl) = some R := hh
    obtain ⟨n, hx49, hh⟩ := en_lu (t := i) (f := Ar h 143) (w := (Ar h 143) i) (nI_clamp (by omega)) hw.wt rfl (by decide) rfl (by decide) rfl (fun _ => rfl) hh
    have hh : pm_run PT n fr lo 68 (42, [some (.ref 142), some (.ref 12), some (.int (nI i)), some (.int (v67 q cc gc (-((Ar h 143) i)))), o4, o5], [.int ((Ar h 143) i), .ref 142], h, 198, sl) = some R := hh
    obtain ⟨n, fr1, lo1, r1, hh1, hh⟩ := rn_call (w := 0) (t := 69) rfl rfl hh
    obtain ⟨er50, hc51, hf52⟩ := v69a_ok (v := ((Ar h 143) i)) hw hh1
    subst er50
    obtain ⟨n, hh⟩ := rn_i rfl rfl rfl rfl hh
    have hh : pm_run PT n fr lo 68 (121, [some (.ref 142), some (.ref 12), some (.int (nI i)), some (.int (v67 q cc gc (-((Ar h 143) i)))), o4, o5], [], v69a q cc gc h ((Ar h 143) i), 198, sl) = some R := hh
    obtain ⟨n, hh⟩ := en_inc (x := i) (c := 1) (j := 2) rfl rfl (by decide) hh
    have hh : pm_run PT n fr lo 68 (124, [some (.ref 142), some (.ref 12), some (.int (nI (i + 1))), some (.int (v67 q cc gc (-((Ar h 143) i)))), o4, o5], [], v69a q cc gc h ((Ar h 143) i), 198, sl) = some R := hh
    obtain ⟨n, hh⟩ := rn_i rfl rfl rfl rfl hh
    have ed : v68a_7b q cc gc h z i = v69a q cc gc h ((Ar h 143) i) := (cf z4).trans rfl
    rw [ed]
    exact ⟨n, some (.int (v67 q cc gc (-((Ar h 143) i)))), o4, o5, hc51, (fr_g rfl rfl hf52 fr_0), ((hf52.2 142 1 (by decide +kernel) rfl).trans e1), hh⟩
theorem v68a_7_ok {fr lo sl cc gc : Nat} {q : QT} {R : pm_Rs} {z : Nat} : ∀ {j i : Nat} {o3 : Option Value} {o4 : Option Value} {o5 : Option Value} {h : pm_H} {n : Nat}, z - i = j → i + j < 1000000 → HC q cc gc h → z ≤ 40 → Fi h 142 1 = nI z → pm_run PT n fr lo 68 (7, [some (.ref 142), some (.ref 12), some (.int (nI i)), o3, o4, o5], [], h, 198, sl) = some R → ∃ m wc w3 w4 w5, HC q cc gc ((v68a_7 q cc gc z j i h)) ∧ frm [142, 144] [(142, 3)] h ((v68a_7 q cc gc z j i h)) ∧ Fi ((v68a_7 q cc gc z j i h)) 142 1 = nI z ∧ pm_run PT m fr lo 68 (127, [some (.ref 142), some (.ref 12), wc, w3, w4, w5], [], (v68a_7 q cc gc z j i h), 198, sl) = some R := by
  intro j
  induction j with
  | zero =>
    intro i o3 o4 o5 h n e eI hw hz e1 hh
    obtain ⟨n, hh⟩ := v68a_7_e hw hz e1 (by omega) (by omega) hh
    exact ⟨n, _, o3, o4, o5, hw, fr_0, e1, hh⟩
  | succ j ih =>
    intro i o3 o4 o5 h n e eI hw hz e1 hh
    obtain ⟨n, w3, w4, w5, hc, hf, e1', hh⟩ := v68a_7_s hw hz e1 (by omega) (by omega) hh
    obtain ⟨n, wc, v3, v4, v5, hc2, hf2, e1'', hh⟩ := ih (by omega) (by omega) hc hz e1' hh
    exact ⟨n, wc, v3, v4, v5, hc2, fr_t hf2 hf, e1'', hh⟩
theorem v68a_7_fb {cc gc : Nat} {q : QT} {h : pm_H} {z : Nat} {i : Nat} (hw : HC q cc gc h) (hz : z ≤ 40) : HC q cc gc ((v68a_7b q cc gc h z i)) ∧ frm [142, 144] [(142, 3)] h ((v68a_7b q cc gc h z i)) := by
  unfold v68a_7b
  refine cd_s (P := fun (p : pm_H) => HC q cc gc ((p)) ∧ frm [142, 144] [(142, 3)] h ((p))) (b := pm_cmp .lt ((Ar h 143) i) 0) (fun _ => ?_) (fun _ => ?_)
  · refine cd_s (P := fun (p : pm_H) => HC q cc gc ((p)) ∧ frm [142, 144] [(142, 3)] h ((p))) (b := pm_cmp .lt (v67 q cc gc (-((Ar h 143) i))) 0) (fun _ => ?_) (fun _ => ?_)
    · refine cd_s (P := fun (p : pm_H) => HC q cc gc ((p)) ∧ frm [142, 144] [(142, 3)] h ((p))) (b := pm_cmp .ne ((Ar h 143) i) (Int32.ofInt (-126))) (fun _ => ?_) (fun _ => ?_)
      · show HC q cc gc (v69a q cc gc ((v70a q cc gc ((v70a q cc gc h).2)).2) (v71 q cc gc (-((Ar h 143) i)) ((v70a q cc gc ((v70a q cc gc h).2)).1) ((v70a q cc gc h).1))) ∧ frm [142, 144] [(142, 3)] h (v69a q cc gc ((v70a q cc gc ((v70a q cc gc h).2)).2) (v71 q cc gc (-((Ar h 143) i)) ((v70a q cc gc ((v70a q cc gc h).2)).1) ((v70a q cc gc h).1)))
        exact ⟨(v69a_fr (v := (v71 q cc gc (-((Ar h 143) i)) ((v70a q cc gc ((v70a q cc gc h).2)).1) ((v70a q cc gc h).1))) (v70a_fr (v70a_fr hw).1).1).1, (fr_g rfl rfl (v69a_fr (v := (v71 q cc gc (-((Ar h 143) i)) ((v70a q cc gc ((v70a q cc gc h).2)).1) ((v70a q cc gc h).1))) (v70a_fr (v70a_fr hw).1).1).2 (fr_g rfl rfl (v70a_fr (v70a_fr hw).1).2 (fr_g rfl rfl (v70a_fr hw).2 fr_0)))⟩
      · show HC q cc gc (v69a q cc gc ((v70a q cc gc h).2) (-((v70a q cc gc h).1))) ∧ frm [142, 144] [(142, 3)] h (v69a q cc gc ((v70a q cc gc h).2) (-((v70a q cc gc h).1)))
        exact ⟨(v69a_fr (v := (-((v70a q cc gc h).1))) (v70a_fr hw).1).1, (fr_g rfl rfl (v69a_fr (v := (-((v70a q cc gc h).1))) (v70a_fr hw).1).2 (fr_g rfl rfl (v70a_fr hw).2 fr_0))⟩
    · refine cd_s (P := fun (p : pm_H) => HC q cc gc ((p)) ∧ frm [142, 144] [(142, 3)] h ((p))) (b := pm_cmp .ge (v67 q cc gc (-((Ar h 143) i))) (nI 7)) (fun _ => ?_) (fun _ => ?_)
      · refine cd_s (P := fun (p : pm_H) => HC q cc gc ((p)) ∧ frm [142, 144] [(142, 3)] h ((p))) (b := pm_cmp .ne ((Ar h 143) i) (Int32.ofInt (-126))) (fun _ => ?_) (fun _ => ?_)
        · show HC q cc gc (v69a q cc gc ((v70a q cc gc ((v70a q cc gc h).2)).2) (v71 q cc gc (-((Ar h 143) i)) ((v70a q cc gc ((v70a q cc gc h).2)).1) ((v70a q cc gc h).1))) ∧ frm [142, 144] [(142, 3)] h (v69a q cc gc ((v70a q cc gc ((v70a q cc gc h).2)).2) (v71 q cc gc (-((Ar h 143) i)) ((v70a q cc gc ((v70a q cc gc h).2)).1) ((v70a q cc gc h).1)))
          exact ⟨(v69a_fr (v := (v71 q cc gc (-((Ar h 143) i)) ((v70a q cc gc ((v70a q cc gc h).2)).1) ((v70a q cc gc h).1))) (v70a_fr (v70a_fr hw).1).1).1, (fr_g rfl rfl (v69a_fr (v := (v71 q cc gc (-((Ar h 143) i)) ((v70a q cc gc ((v70a q cc gc h).2)).1) ((v70a q cc gc h).1))) (v70a_fr (v70a_fr hw).1).1).2 (fr_g rfl rfl (v70a_fr (v70a_fr hw).1).2 (fr_g rfl rfl (v70a_fr hw).2 fr_0)))⟩
        · show HC q cc gc (v69a q cc gc ((v70a q cc gc h).2) (-((v70a q cc gc h).1))) ∧ frm [142, 144] [(142, 3)] h (v69a q cc gc ((v70a q cc gc h).2) (-((v70a q cc gc h).1)))
          exact ⟨(v69a_fr (v := (-((v70a q cc gc h).1))) (v70a_fr hw).1).1, (fr_g rfl rfl (v69a_fr (v := (-((v70a q cc gc h).1))) (v70a_fr hw).1).2 (fr_g rfl rfl (v70a_fr hw).2 fr_0))⟩
      · show HC q cc gc (v69a q cc gc h ((Ar h 12) ((v67 q cc gc (-((Ar h 143) i))).toNatClampNeg))) ∧ frm [142, 144] [(142, 3)] h (v69a q cc gc h ((Ar h 12) ((v67 q cc gc (-((Ar h 143) i))).toNatClampNeg)))
        exact ⟨(v69a_fr (v := ((Ar h 12) ((v67 q cc gc (-((Ar h 143) i))).toNatClampNeg))) hw).1, (fr_g rfl rfl (v69a_fr (v := ((Ar h 12) ((v67 q cc gc (-((Ar h 143) i))).toNatClampNeg))) hw).2 fr_0)⟩
  · show HC q cc gc (v69a q cc gc h ((Ar h 143) i)) ∧ frm [142, 144] [(142, 3)] h (v69a q cc gc h ((Ar h 143) i))
    exact ⟨(v69a_fr (v := ((Ar h 143) i)) hw).1, (fr_g rfl rfl (v69a_fr (v := ((Ar h 143) i)) hw).2 fr_0)⟩
theorem v68a_7_fr {cc gc : Nat} {q : QT} {z : Nat} (hz : z ≤ 40) : ∀ {j i : Nat} {h : pm_H}, HC q cc gc h → HC q cc gc ((v68a_7 q cc gc z j i h)) ∧ frm [142, 144] [(142, 3)] h ((v68a_7 q cc gc z j i h)) := by
  intro j
  induction j with
  | zero =>
    intro i h hw
    exact ⟨hw, fr_0⟩
  | succ j ih =>
    intro i h hw
    obtain ⟨a1, a2⟩ := v68a_7_fb (i := i) (z := z) hw hz
    obtain ⟨b1, b2⟩ := ih (i := i + 1) a1
    exact ⟨b1, fr_t b2 a2⟩
def v68a (q : QT) (cc gc : Nat) (h : pm_H) (z : Nat) : Int32 × pm_H := ((v70a q cc gc (v68a_7 q cc gc z z 0 (fset h 142 3 (.int (nI 0))))).1, (v70a q cc gc (v68a_7 q cc gc z z 0 (fset h 142 3 (.int (nI 0))))).2)
theorem v68a_ok {n fr lo sl cc gc : Nat} {q : QT} {h : pm_H} {R : pm_Rs} {z : Nat} (hw : HC q cc gc h) (hz : z ≤ 40) (e1 : Fi h 142 1 = nI z) (hh : pm_run PT n fr lo 68 (0, pm_l0 [.ref 142, .ref 12] 6, [], h, 198, sl) = some R) : R = (some (.int ((v68a q cc gc h z).1)), (v68a q cc gc h z).2, 198, sl) ∧ HC q cc gc ((v68a q cc gc h z).2) ∧ frm [142, 144] [(142, 3)] h ((v68a q cc gc h z).2) := by
  have hcc := hw.cb
  have hgc := hw.gb
  have hzr := hw.zr
  obtain ⟨n, hh⟩ := rn_i rfl rfl rfl rfl hh
  obtain ⟨n, hh⟩ := rn_i rfl rfl rfl rfl hh
  have hh : pm_run PT n fr lo 68 (2, [some (.ref 142), some (.ref 12), none, none, none, none], [.int (nI 0), .ref 142], h, 198, sl) = some R := hh
  obtain ⟨n, hh⟩ := rn_pi hw.wt rfl rfl (by decide) rfl (by decide) rfl hh
  obtain ⟨n, hh⟩ := rn_i rfl rfl rfl rfl hh
  obtain ⟨n, hh⟩ := rn_i rfl rfl rfl rfl hh
  have hh : pm_run PT n fr lo 68 (7, [some (.ref 142), some (.ref 12), some (.int (nI 0)), none, none, none], [], fset h 142 3 (.int (nI 0)), 198, sl) = some R := hh
  obtain ⟨n, u4, u1, u2, u3, hc5, hf6, _, hh⟩ := v68a_7_ok  (i := 0) (o3 := none) (o4 := none) (o5 := none) (j := z) (by omega) (by omega) (hc_f rfl rfl (by decide) rfl hw) hz ((Fi_n (Or.inr (by decide))).trans e1) hh
  have hh : pm_run PT n fr lo 68 (127, [some (.ref 142), some (.ref 12), u4, u1, u2, u3], [], (v68a_7 q cc gc z z 0 (fset h 142 3 (.int (nI 0)))), 198, sl) = some R := hh
  obtain ⟨n, hh⟩ := rn_i rfl rfl rfl rfl hh
  have hh : pm_run PT n fr lo 68 (128, [some (.ref 142), some (.ref 12), u4, u1, u2, u3], [.ref 142], (v68a_7 q cc gc z z 0 (fset h 142 3 (.int (nI 0)))), 198, sl) = some R := hh
  obtain ⟨n, fr1, lo1, r1, hh1, hh⟩ := rn_call (w := 0) (t := 70) rfl rfl hh
  obtain ⟨er7, hc8, hf9⟩ := v70a_ok hc5 hh1
  subst er7
  have hh : pm_run PT n fr lo 68 (131, [some (.ref 142), some (.ref 12), u4, u1, u2, u3], [.int ((v70a q cc gc (v68a_7 q cc gc z z 0 (fset h 142 3 (.int (nI 0))))).1)], (v70a q cc gc (v68a_7 q cc gc z z 0 (fset h 142 3 (.int (nI 0))))).2, 198, sl) = some R := hh
  have er10 : R = (some (.int ((v70a q cc gc (v68a_7 q cc gc z z 0 (fset h 142 3 (.int (nI 0))))).1)), (v70a q cc gc (v68a_7 q cc gc z z 0 (fset h 142 3 (.int (nI 0))))).2, 198, sl) := (rn_ret rfl (Or.inl rfl) hh).2
  have ed : v68a q cc gc h z = ((v70a q cc gc (v68a_7 q cc gc z z 0 (fset h 142 3 (.int (nI 0))))).1, (v70a q cc gc (v68a_7 q cc gc z z 0 (fset h 142 3 (.int (nI 0))))).2) := rfl
  refine ⟨?_, ?_, ?_⟩ <;> rw [ed]
  · exact er10
  · exact hc8
  · exact (fr_g rfl rfl hf9 (fr_g rfl rfl hf6 (fr_f rfl rfl fr_0)))
theorem v68a_fr {cc gc : Nat} {q : QT} {h : pm_H} {z : Nat} (hw : HC q cc gc h) (hz : z ≤ 40) : HC q cc gc ((v68a q cc gc h z).2) ∧ frm [142, 144] [(142, 3)] h ((v68a q cc gc h z).2) := by
  unfold v68a
  show HC q cc gc ((v70a q cc gc (v68a_7 q cc gc z z 0 (fset h 142 3 (.int (nI 0))))).2) ∧ frm [142, 144] [(142, 3)] h ((v70a q cc gc (v68a_7 q cc gc z z 0 (fset h 142 3 (.int (nI 0))))).2)
  exact ⟨(v70a_fr (v68a_7_fr (z := z) (j := z) (i := 0) hz (hc_f rfl rfl (by decide) rfl hw)).1).1, (fr_g rfl rfl (v70a_fr (v68a_7_fr (z := z) (j := z) (i := 0) hz (hc_f rfl rfl (by decide) rfl hw)).1).2 (fr_g rfl rfl (v68a_7_fr (z := z) (j := z) (i := 0) hz (hc_f rfl rfl (by decide) rfl hw)).2 (fr_f rfl rfl fr_0)))⟩
def v69b (q : QT) (cc gc : Nat) (h : pm_H) (v : Int32) : pm_H := cond (pm_cmp .ge (Fi h 145 3) (nI 40)) h (fset (aset h 147 40 (upd (Ar h 147) ((Fi h 145 3).toNatClampNeg) v)) 145 3 (.int ((Fi h 145 3) + (nI 1))))
theorem v69b_ok {n fr lo sl cc gc : Nat} {q : QT} {h : pm_H} {R : pm_Rs} {v : Int32} (hw : HC q cc gc h) (hh : pm_run PT n fr lo 69 (0, pm_l0 [.ref 145, .int v] 2, [], h, 198, sl) = some R) : R = (none, v69b q cc gc h v, 198, sl) ∧ HC q cc gc (v69b q cc gc h v) ∧ frm [145, 147] [(145, 3)] h (v69b q cc gc h v) := by
  have hcc := hw.cb
  have hgc := hw.gb
  have hzr := hw.zr
  obtain ⟨n, hh⟩ := rn_i rfl rfl rfl rfl hh
  have hh : pm_run PT n fr lo 69 (1, [some (.ref 145), some (.int v)], [.ref 145], h, 198, sl) = some R := hh
  obtain ⟨n, hh⟩ := rn_gi (x := Fi h 145 3) hw.wt rfl rfl (by decide) rfl (by decide) rfl rfl hh
  obtain ⟨n, hh⟩ := rn_i rfl rfl rfl rfl hh
  have hh : pm_run PT n fr lo 69 (6, [some (.ref 145), some (.int v)], [.int (nI 40), .int (Fi h 145 3)], h, 198, sl) = some R := hh
  obtain ⟨n, hh⟩ := en_cn (cc := .ge) (off := 23) (t := 29) (b := pm_cmp .ge (Fi h 145 3) (nI 40)) rfl rfl rfl hh
  cases z1 : pm_cmp .ge (Fi h 145 3) (nI 40) with
  | true =>
    have hh := en_t z1 hh
    have hh : pm_run PT n fr lo 69 (29, [some (.ref 145), some (.int v)], [], h, 198, sl) = some R := hh
    have er2 : R = (none, h, 198, sl) := rn_vret rfl rfl hh
    have ed : v69b q cc gc h v = h := (ct z1).trans rfl
    refine ⟨?_, ?_, ?_⟩ <;> rw [ed]
    · exact er2
    · exact hw
    · exact fr_0
  | false =>
    have hh := en_f z1 hh
    have hh : pm_run PT n fr lo 69 (9, [some (.ref 145), some (.int v)], [], h, 198, sl) = some R := hh
    obtain ⟨n, hh⟩ := rn_i rfl rfl rfl rfl hh
    have hh : pm_run PT n fr lo 69 (10, [some (.ref 145), some (.int v)], [.ref 145], h, 198, sl) = some R := hh
    obtain ⟨n, hh⟩ := rn_gr hw.wt rfl rfl (by decide) rfl (by decide) (show _ = some (2, ((147 : Nat) : Int), 1) from rfl) rfl hh
    obtain ⟨n, hh⟩ := rn_i rfl rfl rfl rfl hh
    have hh : pm_run PT n fr lo 69 (14, [some (.ref 145), some (.int v)], [.ref 145, .ref 147], h, 198, sl) = some R := hh
    obtain ⟨n, hh⟩ := rn_gi (x := Fi h 145 3) hw.wt rfl rfl (by decide) rfl (by decide) rfl rfl hh
    obtain ⟨n, hh⟩ := rn_i rfl rfl rfl rfl hh
    have hh : pm_run PT n fr lo 69 (18, [some (.ref 145), some (.int v)], [.int v, .int (Fi h 145 3), .ref 147], h, 198, sl) = some R := hh
    obtain ⟨n, hx3, hh⟩ := en_st (t := (Fi h 145 3).toNatClampNeg) (f := Ar h 147) rfl hw.wt rfl (by decide) rfl (by decide) rfl hh
    obtain ⟨n, hh⟩ := rn_i rfl rfl rfl rfl hh
    obtain ⟨n, hh⟩ := rn_i rfl rfl rfl rfl hh
    have hh : pm_run PT n fr lo 69 (21, [some (.ref 145), some (.int v)], [.ref 145, .ref 145], aset h 147 40 (upd (Ar h 147) ((Fi h 145 3).toNatClampNeg) v), 198, sl) = some R := hh
    obtain ⟨n, hh⟩ := rn_gi (x := Fi h 145 3) (hc_a rfl rfl hw).wt rfl rfl (by decide) rfl (by decide) rfl ((Fi_a (by decide)).trans rfl) hh
    obtain ⟨n, hh⟩ := rn_i rfl rfl rfl rfl hh
    obtain ⟨n, hh⟩ := rn_i rfl rfl rfl rfl hh
    have hh : pm_run PT n fr lo 69 (26, [some (.ref 145), some (.int v)], [.int ((Fi h 145 3) + (nI 1)), .ref 145], aset h 147 40 (upd (Ar h 147) ((Fi h 145 3).toNatClampNeg) v), 198, sl) = some R := hh
    obtain ⟨n, hh⟩ := rn_pi (hc_a rfl rfl hw).wt rfl rfl (by decide) rfl (by decide) rfl hh
    have er4 : R = (none, fset (aset h 147 40 (upd (Ar h 147) ((Fi h 145 3).toNatClampNeg) v)) 145 3 (.int ((Fi h 145 3) + (nI 1))), 198, sl) := rn_vret rfl rfl hh
    have ed : v69b q cc gc h v = fset (aset h 147 40 (upd (Ar h 147) ((Fi h 145 3).toNatClampNeg) v)) 145 3 (.int ((Fi h 145 3) + (nI 1))) := (cf z1).trans rfl
    refine ⟨?_, ?_, ?_⟩ <;> rw [ed]
    · exact er4
    · exact (hc_f rfl rfl (by decide) rfl (hc_a rfl rfl hw))
    · exact (fr_f rfl rfl (fr_a rfl rfl fr_0))
theorem v69b_fr {cc gc : Nat} {q : QT} {h : pm_H} {v : Int32} (hw : HC q cc gc h) : HC q cc gc (v69b q cc gc h v) ∧ frm [145, 147] [(145, 3)] h (v69b q cc gc h v) := by
  unfold v69b
  refine cd_s (P := fun (p : pm_H) => HC q cc gc (p) ∧ frm [145, 147] [(145, 3)] h (p)) (b := pm_cmp .ge (Fi h 145 3) (nI 40)) (fun _ => ?_) (fun _ => ?_)
  · show HC q cc gc (h) ∧ frm [145, 147] [(145, 3)] h (h)
    exact ⟨hw, fr_0⟩
  · show HC q cc gc (fset (aset h 147 40 (upd (Ar h 147) ((Fi h 145 3).toNatClampNeg) v)) 145 3 (.int ((Fi h 145 3) + (nI 1)))) ∧ frm [145, 147] [(145, 3)] h (fset (aset h 147 40 (upd (Ar h 147) ((Fi h 145 3).toNatClampNeg) v)) 145 3 (.int ((Fi h 145 3) + (nI 1))))
    exact ⟨(hc_f rfl rfl (by decide) rfl (hc_a rfl rfl hw)), (fr_f rfl rfl (fr_a rfl rfl fr_0))⟩
def v70b (q : QT) (cc gc : Nat) (h : pm_H) : Int32 × pm_H := cond (pm_cmp .gt (Fi h 145 3) 0) ((Ar h 147) (((Fi h 145 3) - (nI 1)).toNatClampNeg), fset h 145 3 (.int ((Fi h 145 3) - (nI 1)))) (nI 0, h)
theorem v70b_ok {n fr lo sl cc gc : Nat} {q : QT} {h : pm_H} {R : pm_Rs} (hw : HC q cc gc h) (hh : pm_run PT n fr lo 70 (0, pm_l0 [.ref 145] 1, [], h, 198, sl) = some R) : R = (some (.int ((v70b q cc gc h).1)), (v70b q cc gc h).2, 198, sl) ∧ HC q cc gc ((v70b q cc gc h).2) ∧ frm [145] [(145, 3)] h ((v70b q cc gc h).2) := by
  have hcc := hw.cb
  have hgc := hw.gb
  have hzr := hw.zr
  obtain ⟨n, hh⟩ := rn_i rfl rfl rfl rfl hh
  have hh : pm_run PT n fr lo 70 (1, [some (.ref 145)], [.ref 145], h, 198, sl) = some R := hh
  obtain ⟨n, hh⟩ := rn_gi (x := Fi h 145 3) hw.wt rfl rfl (by decide) rfl (by decide) rfl rfl hh
  have hh : pm_run PT n fr lo 70 (4, [some (.ref 145)], [.int (Fi h 145 3)], h, 198, sl) = some R := hh
  obtain ⟨n, hh⟩ := en_zn (cc := .gt) (off := 5) (t := 9) (b := pm_cmp .gt (Fi h 145 3) 0) rfl rfl rfl hh
  cases z1 : pm_cmp .gt (Fi h 145 3) 0 with
  | true =>
    have hh := en_t z1 hh
    have hh : pm_run PT n fr lo 70 (9, [some (.ref 145)], [], h, 198, sl) = some R := hh
    obtain ⟨n, hh⟩ := rn_i rfl rfl rfl rfl hh
    obtain ⟨n, hh⟩ := rn_i rfl rfl rfl rfl hh
    have hh : pm_run PT n fr lo 70 (11, [some (.ref 145)], [.ref 145, .ref 145], h, 198, sl) = some R := hh
    obtain ⟨n, hh⟩ := rn_gi (x := Fi h 145 3) hw.wt rfl rfl (by decide) rfl (by decide) rfl rfl hh
    obtain ⟨n, hh⟩ := rn_i rfl rfl rfl rfl hh
    obtain ⟨n, hh⟩ := rn_i rfl rfl rfl rfl hh
    have hh : pm_run PT n fr lo 70 (16, [some (.ref 145)], [.int ((Fi h 145 3) - (nI 1)), .ref 145], h, 198, sl) = some R := hh
    obtain ⟨n, hh⟩ := rn_pi hw.wt rfl rfl (by decide) rfl (by decide) rfl hh
    obtain ⟨n, hh⟩ := rn_i rfl rfl rfl rfl hh
    have hh : pm_run PT n fr lo 70 (20, [some (.ref 145)], [.ref 145], fset h 145 3 (.int ((Fi h 145 3) - (nI 1))), 198, sl) = some R := hh
    obtain ⟨n, hh⟩ := rn_gr (hc_f rfl rfl (by decide) rfl hw).wt rfl rfl (by decide) rfl (by decide) (show _ = some (2, ((147 : Nat) : Int), 1) from rfl) rfl hh
    obtain ⟨n, hh⟩ := rn_i rfl rfl rfl rfl hh
    have hh : pm_run PT n fr lo 70 (24, [some (.ref 145)], [.ref 145, .ref 147], fset h 145 3 (.int ((Fi h 145 3) - (nI 1))), 198, sl) = some R := hh
    obtain ⟨n, hh⟩ := rn_gi (x := (Fi h 145 3) - (nI 1)) (hc_f rfl rfl (by decide) rfl hw).wt rfl rfl (by decide) rfl (by decide) rfl (Fi_s hw.wt (by decide) rfl (by decide) rfl) hh
    have hh : pm_run PT n fr lo 70 (27, [some (.ref 145)], [.int ((Fi h 145 3) - (nI 1)), .ref 147], fset h 145 3 (.int ((Fi h 145 3) - (nI 1))), 198, sl) = some R := hh
    obtain ⟨n, hx2, hh⟩ := en_lu (t := ((Fi h 145 3) - (nI 1)).toNatClampNeg) (f := Ar h 147) (w := (Ar h 147) (((Fi h 145 3) - (nI 1)).toNatClampNeg)) rfl (hc_f rfl rfl (by decide) rfl hw).wt rfl (by decide) rfl (by decide) (Ar_f.trans rfl) (fun _ => rfl) hh
    have hh : pm_run PT n fr lo 70 (28, [some (.ref 145)], [.int ((Ar h 147) (((Fi h 145 3) - (nI 1)).toNatClampNeg))], fset h 145 3 (.int ((Fi h 145 3) - (nI 1))), 198, sl) = some R := hh
    have er3 : R = (some (.int ((Ar h 147) (((Fi h 145 3) - (nI 1)).toNatClampNeg))), fset h 145 3 (.int ((Fi h 145 3) - (nI 1))), 198, sl) := (rn_ret rfl (Or.inl rfl) hh).2
    have ed : v70b q cc gc h = ((Ar h 147) (((Fi h 145 3) - (nI 1)).toNatClampNeg), fset h 145 3 (.int ((Fi h 145 3) - (nI 1)))) := (ct z1).trans rfl
    refine ⟨?_, ?_, ?_⟩ <;> rw [ed]
    · exact er3
    · exact (hc_f rfl rfl (by decide) rfl hw)
    · exact (fr_f rfl rfl fr_0)
  | false =>
    have hh := en_f z1 hh
    have hh : pm_run PT n fr lo 70 (7, [some (.ref 145)], [], h, 198, sl) = some R := hh
    obtain ⟨n, hh⟩ := rn_i rfl rfl rfl rfl hh
    have hh : pm_run PT n fr lo 70 (8, [some (.ref 145)], [.int (nI 0)], h, 198, sl) = some R := hh
    have er4 : R = (some (.int (nI 0)), h, 198, sl) := (rn_ret rfl (Or.inl rfl) hh).2
    have ed : v70b q cc gc h = (nI 0, h) := (cf z1).trans rfl
    refine ⟨?_, ?_, ?_⟩ <;> rw [ed]
    · exact er4
    · exact hw
    · exact fr_0
theorem v70b_fr {cc gc : Nat} {q : QT} {h : pm_H} (hw : HC q cc gc h) : HC q cc gc ((v70b q cc gc h).2) ∧ frm [145] [(145, 3)] h ((v70b q cc gc h).2) := by
  unfold v70b
  refine cd_s (P := fun (p : Int32 × pm_H) => HC q cc gc ((p).2) ∧ frm [145] [(145, 3)] h ((p).2)) (b := pm_cmp .gt (Fi h 145 3) 0) (fun _ => ?_) (fun _ => ?_)
  · show HC q cc gc (fset h 145 3 (.int ((Fi h 145 3) - (nI 1)))) ∧ frm [145] [(145, 3)] h (fset h 145 3 (.int ((Fi h 145 3) - (nI 1))))
    exact ⟨(hc_f rfl rfl (by decide) rfl hw), (fr_f rfl rfl fr_0)⟩
  · show HC q cc gc (h) ∧ frm [145] [(145, 3)] h (h)
    exact ⟨hw, fr_0⟩
def v68b_7b (q : QT) (cc gc : Nat) (h : pm_H) (z : Nat) (i : Nat) : pm_H := cond (pm_cmp .lt ((Ar h 146) i) 0) (cond (pm_cmp .lt (v67 q cc gc (-((Ar h 146) i))) 0) (cond (pm_cmp .ne ((Ar h 146) i) (Int32.ofInt (-126))) (v69b q cc gc ((v70b q cc gc ((v70b q cc gc h).2)).2) (v71 q cc gc (-((Ar h 146) i)) ((v70b q cc gc ((v70b q cc gc h).2)).1) ((v70b q cc gc h).1))) (v69b q cc gc ((v70b q cc gc h).2) (-((v70b q cc gc h).1)))) (cond (pm_cmp .ge (v67 q cc gc (-((Ar h 146) i))) (nI 7)) (cond (pm_cmp .ne ((Ar h 146) i) (Int32.ofInt (-126))) (v69b q cc gc ((v70b q cc gc ((v70b q cc gc h).2)).2) (v71 q cc gc (-((Ar h 146) i)) ((v70b q cc gc ((v70b q cc gc h).2)).1) ((v70b q cc gc h).1))) (v69b q cc gc ((v70b q cc gc h).2) (-((v70b q cc gc h).1)))) (v69b q cc gc h ((Ar h 12) ((v67 q cc gc (-((Ar h 146) i))).toNatClampNeg))))) (v69b q cc gc h ((Ar h 146) i))
def v68b_7 (q : QT) (cc gc : Nat) (z : Nat) (j i : Nat) (a : pm_H) : pm_H := lp (fun i a => v68b_7b q cc gc a z i) j i a
theorem v68b_7_e {n fr lo sl cc gc : Nat} {q : QT} {h : pm_H} {R : pm_Rs} {z : Nat} {i : Nat} {o3 : Option Value} {o4 : Option Value} {o5 : Option Value} (hw : HC q cc gc h) (hz : z ≤ 40) (e1 : Fi h 145 1 = nI z) (hi : z ≤ i) (hI : i < 1000000) (hh : pm_run PT n fr lo 68 (7, [some (.ref 145), some (.ref 12), some (.int (nI i)), o3, o4, o5], [], h, 198, sl) = some R) : ∃ m, pm_run PT m fr lo 68 (127, [some (.ref 145), some (.ref 12), some (.int (nI i)), o3, o4, o5], [], h, 198, sl) = some R := by
  have hcc := hw.cb
  have hgc := hw.gb
  have hzr := hw.zr
  obtain ⟨n, hh⟩ := rn_i rfl rfl rfl rfl hh
  obtain ⟨n, hh⟩ := rn_i rfl rfl rfl rfl hh
  have hh : pm_run PT n fr lo 68 (9, [some (.ref 145), some (.ref 12), some (.int (nI i)), o3, o4, o5], [.ref 145, .int (nI i)], h, 198, sl) = some R := hh
  obtain ⟨n, hh⟩ := rn_gi (x := nI z) hw.wt rfl rfl (by decide) rfl (by decide) rfl e1 hh
  have hh : pm_run PT n fr lo 68 (12, [some (.ref 145), some (.ref 12), some (.int (nI i)), o3, o4, o5], [.int (nI z), .int (nI i)], h, 198, sl) = some R := hh
  obtain ⟨n, hh⟩ := en_cn (cc := .ge) (off := 115) (t := 127) (b := decide (z ≤ i)) (hI_ge (by omega) (by omega)) rfl rfl hh
  have hh := en_t (show decide (z ≤ i) = true from decide_eq_true (by omega)) hh
  have hh : pm_run PT n fr lo 68 (127, [some (.ref 145), some (.ref 12), some (.int (nI i)), o3, o4, o5], [], h, 198, sl) = some R := hh
  exact ⟨n, hh⟩
theorem v68b_7_s {n fr lo sl cc gc : Nat} {q : QT} {h : pm_H} {R : pm_Rs} {z : Nat} {i : Nat} {o3 : Option Value} {o4 : Option Value} {o5 : Option Value} (hw : HC q cc gc h) (hz : z ≤ 40) (e1 : Fi h 145 1 = nI z) (hi : i < z) (hI : i < 1000000) (hh : pm_run PT n fr lo 68 (7, [some (.ref 145), some (.ref 12), some (.int (nI i)), o3, o4, o5], [], h, 198, sl) = some R) : ∃ m w3 w4 w5, HC q cc gc ((v68b_7b q cc gc h z i)) ∧ frm [145, 147] [(145, 3)] h ((v68b_7b q cc gc h z i)) ∧ Fi ((v68b_7b q cc gc h z i)) 145 1 = nI z ∧ pm_run PT m fr lo 68 (7, [some (.ref 145), some (.ref 12), some (.int (nI (i + 1))), w3, w4, w5], [], (v68b_7b q cc gc h z i), 198, sl) = some R := by
  have hcc := hw.cb
  have hgc := hw.gb
  have hzr := hw.zr
  obtain ⟨n, hh⟩ := rn_i rfl rfl rfl rfl hh
  obtain ⟨n, hh⟩ := rn_i rfl rfl rfl rfl hh
  have hh : pm_run PT n fr lo 68 (9, [some (.ref 145), some (.ref 12), some (.int (nI i)), o3, o4, o5], [.ref 145, .int (nI i)], h, 198, sl) = some R := hh
  obtain ⟨n, hh⟩ := rn_gi (x := nI z) hw.wt rfl rfl (by decide) rfl (by decide) rfl e1 hh
  have hh : pm_run PT n fr lo 68 (12, [some (.ref 145), some (.ref 12), some (.int (nI i)), o3, o4, o5], [.int (nI z), .int (nI i)], h, 198, sl) = some R := hh
  obtain ⟨n, hh⟩ := en_cn (cc := .ge) (off := 115) (t := 127) (b := decide (z ≤ i)) (hI_ge (by omega) (by omega)) rfl rfl hh
  have hh := en_f (show decide (z ≤ i) = false from decide_eq_false (by omega)) hh
  have hh : pm_run PT n fr lo 68 (15, [some (.ref 145), some (.ref 12), some (.int (nI i)), o3, o4, o5], [], h, 198, sl) = some R := hh
  obtain ⟨n, hh⟩ := rn_i rfl rfl rfl rfl hh
  have hh : pm_run PT n fr lo 68 (16, [some (.ref 145), some (.ref 12), some (.int (nI i)), o3, o4, o5], [.ref 145], h, 198, sl) = some R := hh
  obtain ⟨n, hh⟩ := rn_gr hw.wt rfl rfl (by decide) rfl (by decide) (show _ = some (2, ((146 : Nat) : Int), 1) from rfl) rfl hh
  obtain ⟨n, hh⟩ := rn_i rfl rfl rfl rfl hh
  have hh : pm_run PT n fr lo 68 (20, [some (.ref 145), some (.ref 12), some (.int (nI i)), o3, o4, o5], [.int (nI i), .ref 146], h, 198, sl) = some R := hh
  obtain ⟨n, hx1, hh⟩ := en_lu (t := i) (f := Ar h 146) (w := (Ar h 146) i) (nI_clamp (by omega)) hw.wt rfl (by decide) rfl (by decide) rfl (fun _ => rfl) hh
  obtain ⟨n, hh⟩ := rn_i rfl rfl rfl rfl hh
  have hh : pm_run PT n fr lo 68 (22, [some (.ref 145), some (.ref 12), some (.int (nI i)), o3, o4, o5], [.int (-((Ar h 146) i))], h, 198, sl) = some R := hh
  obtain ⟨n, fr1, lo1, r1, hh1, hh⟩ := rn_call (w := 2) (t := 67) rfl rfl hh
  have er2 := v67_ok (x := (-((Ar h 146) i))) hw hh1
  subst er2
  obtain ⟨n, hh⟩ := rn_i rfl rfl rfl rfl hh
  obtain ⟨n, hh⟩ := rn_i rfl rfl rfl rfl hh
  have hh : pm_run PT n fr lo 68 (27, [some (.ref 145), some (.ref 12), some (.int (nI i)), some (.int (v67 q cc gc (-((Ar h 146) i)))), o4, o5], [.ref 145], h, 198, sl) = some R := hh
  obtain ⟨n, hh⟩ := rn_gr hw.wt rfl rfl (by decide) rfl (by decide) (show _ = some (2, ((146 : Nat) : Int), 1) from rfl) rfl hh
  obtain ⟨n, hh⟩ := rn_i rfl rfl rfl rfl hh
  have hh : pm_run PT n fr lo 68 (31, [some (.ref 145), some (.ref 12), some (.int (nI i)), some (.int (v67 q cc gc (-((Ar h 146) i)))), o4, o5], [.int (nI i), .ref 146], h, 198, sl) = some R := hh
  obtain ⟨n, hx3, hh⟩ := en_lu (t := i) (f := Ar h 146) (w := (Ar h 146) i) (nI_clamp (by omega)) hw.wt rfl (by decide) rfl (by decide) rfl (fun _ => rfl) hh
  have hh : pm_run PT n fr lo 68 (32, [some (.ref 145), some (.ref 12), some (.int (nI i)), some (.int (v67 q cc gc (-((Ar h 146) i)))), o4, o5], [.int ((Ar h 146) i)], h, 198, sl) = some R := hh
  obtain ⟨n, hh⟩ := en_zn (cc := .lt) (off := 16) (t := 48) (b := pm_cmp .lt ((Ar h 146) i) 0) rfl rfl rfl hh
  cases z4 : pm_cmp .lt ((Ar h 146) i) 0 with
  | true =>
    have hh := en_t z4 hh
    have hh : pm_run PT n fr lo 68 (48, [some (.ref 145), some (.ref 12), some (.int (nI i)), some (.int (v67 q cc gc (-((Ar h 146) i)))), o4, o5], [], h, 198, sl) = some R := hh
    obtain ⟨n, hh⟩ := rn_i rfl rfl rfl rfl hh
    have hh : pm_run PT n fr lo 68 (49, [some (.ref 145), some (.ref 12), some (.int (nI i)), some (.int (v67 q cc gc (-((Ar h 146) i)))), o4, o5], [.int (v67 q cc gc (-((Ar h 146) i)))], h, 198, sl) = some R := hh
    obtain ⟨n, hh⟩ := en_zn (cc := .lt) (off := 19) (t := 68) (b := pm_cmp .lt (v67 q cc gc (-((Ar h 146) i))) 0) rfl rfl rfl hh
    cases z5 : pm_cmp .lt (v67 q cc gc (-((Ar h 146) i))) 0 with
    | true =>
      have hh := en_t z5 hh
      have hh : pm_run PT n fr lo 68 (68, [some (.ref 145), some (.ref 12), some (.int (nI i)), some (.int (v67 q cc gc (-((Ar h 146) i)))), o4, o5], [], h, 198, sl) = some R := hh
      obtain ⟨n, hh⟩ := rn_i rfl rfl rfl rfl hh
      have hh : pm_run PT n fr lo 68 (69, [some (.ref 145), some (.ref 12), some (.int (nI i)), some (.int (v67 q cc gc (-((Ar h 146) i)))), o4, o5], [.ref 145], h, 198, sl) = some R := hh
      obtain ⟨n, hh⟩ := rn_gr hw.wt rfl rfl (by decide) rfl (by decide) (show _ = some (2, ((146 : Nat) : Int), 1) from rfl) rfl hh
      obtain ⟨n, hh⟩ := rn_i rfl rfl rfl rfl hh
      have hh : pm_run PT n fr lo 68 (73, [some (.ref 145), some (.ref 12), some (.int (nI i)), some (.int (v67 q cc gc (-((Ar h 146) i)))), o4, o5], [.int (nI i), .ref 146], h, 198, sl) = some R := hh
      obtain ⟨n, hx6, hh⟩ := en_lu (t := i) (f := Ar h 146) (w := (Ar h 146) i) (nI_clamp (by omega)) hw.wt rfl (by decide) rfl (by decide) rfl (fun _ => rfl) hh
      obtain ⟨n, hh⟩ := rn_i rfl rfl rfl rfl hh
      have hh : pm_run PT n fr lo 68 (76, [some (.ref 145), some (.ref 12), some (.int (nI i)), some (.int (v67 q cc gc (-((Ar h 146) i)))), o4, o5], [.int (Int32.ofInt (-126)), .int ((Ar h 146) i)], h, 198, sl) = some R := hh
      obtain ⟨n, hh⟩ := en_cn (cc := .ne) (off := 15) (t := 91) (b := pm_cmp .ne ((Ar h 146) i) (Int32.ofInt (-126))) rfl rfl rfl hh
      cases z7 : pm_cmp .ne ((Ar h 146) i) (Int32.ofInt (-126)) with
      | true =>
        have hh := en_t z7 hh
        have hh : pm_run PT n fr lo 68 (91, [some (.ref 145), some (.ref 12), some (.int (nI i)), some (.int (v67 q cc gc (-((Ar h 146) i)))), o4, o5], [], h, 198, sl) = some R := hh
        obtain ⟨n, hh⟩ := rn_i rfl rfl rfl rfl hh
        have hh : pm_run PT n fr lo 68 (92, [some (.ref 145), some (.ref 12), some (.int (nI i)), some (.int (v67 q cc gc (-((Ar h 146) i)))), o4, o5], [.ref 145], h, 198, sl) = some R := hh
        obtain ⟨n, fr1, lo1, r1, hh1, hh⟩ := rn_call (w := 0) (t := 70) rfl rfl hh
        obtain ⟨er8, hc9, hf10⟩ := v70b_ok hw hh1
        subst er8
        obtain ⟨n, hh⟩ := rn_i rfl rfl rfl rfl hh
        obtain ⟨n, hh⟩ := rn_i rfl rfl rfl rfl hh
        have hh : pm_run PT n fr lo 68 (98, [some (.ref 145), some (.ref 12), some (.int (nI i)), some (.int (v67 q cc gc (-((Ar h 146) i)))), some (.int ((v70b q cc gc h).1)), o5], [.ref 145], (v70b q cc gc h).2, 198, sl) = some R := hh
        obtain ⟨n, fr1, lo1, r1, hh1, hh⟩ := rn_call (w := 0) (t := 70) rfl rfl hh
        obtain ⟨er11, hc12, hf13⟩ := v70b_ok hc9 hh1
        subst er11
        obtain ⟨n, hh⟩ := rn_i rfl rfl rfl rfl hh
        obtain ⟨n, hh⟩ := rn_i rfl rfl rfl rfl hh
        obtain ⟨n, hh⟩ := rn_i rfl rfl rfl rfl hh
        have hh : pm_run PT n fr lo 68 (105, [some (.ref 145), some (.ref 12), some (.int (nI i)), some (.int (v67 q cc gc (-((Ar h 146) i)))), some (.int ((v70b q cc gc h).1)), some (.int ((v70b q cc gc ((v70b q cc gc h).2)).1))], [.ref 145, .ref 145], (v70b q cc gc ((v70b q cc gc h).2)).2, 198, sl) = some R := hh
        obtain ⟨n, hh⟩ := rn_gr hc12.wt rfl rfl (by decide) rfl (by decide) (show _ = some (2, ((146 : Nat) : Int), 1) from rfl) rfl hh
        obtain ⟨n, hh⟩ := rn_i rfl rfl rfl rfl hh
        have hh : pm_run PT n fr lo 68 (109, [some (.ref 145), some (.ref 12), some (.int (nI i)), some (.int (v67 q cc gc (-((Ar h 146) i)))), some (.int ((v70b q cc gc h).1)), some (.int ((v70b q cc gc ((v70b q cc gc h).2)).1))], [.int (nI i), .ref 146, .ref 145], (v70b q cc gc ((v70b q cc gc h).2)).2, 198, sl) = some R := hh
        obtain ⟨n, hx14, hh⟩ := en_lu (t := i) (f := Ar h 146) (w := (Ar h 146) i) (nI_clamp (by omega)) hc12.wt rfl (by decide) rfl (by decide) ((Ar_e (hf13.1 146 rfl)).trans ((Ar_e (hf10.1 146 rfl)).trans rfl)) (fun _ => rfl) hh
        obtain ⟨n, hh⟩ := rn_i rfl rfl rfl rfl hh
        obtain ⟨n, hh⟩ := rn_i rfl rfl rfl rfl hh
        obtain ⟨n, hh⟩ := rn_i rfl rfl rfl rfl hh
        have hh : pm_run PT n fr lo 68 (115, [some (.ref 145), some (.ref 12), some (.int (nI i)), some (.int (v67 q cc gc (-((Ar h 146) i)))), some (.int ((v70b q cc gc h).1)), some (.int ((v70b q cc gc ((v70b q cc gc h).2)).1))], [.int ((v70b q cc gc h).1), .int ((v70b q cc gc ((v70b q cc gc h).2)).1), .int (-((Ar h 146) i)), .ref 145], (v70b q cc gc ((v70b q cc gc h).2)).2, 198, sl) = some R := hh
        obtain ⟨n, fr1, lo1, r1, hh1, hh⟩ := rn_call (w := 2) (t := 71) rfl rfl hh
        have er15 := v71_ok (s := (-((Ar h 146) i))) (a := ((v70b q cc gc ((v70b q cc gc h).2)).1)) (b := ((v70b q cc gc h).1)) hc12 hh1
        subst er15
        have hh : pm_run PT n fr lo 68 (118, [some (.ref 145), some (.ref 12), some (.int (nI i)), some (.int (v67 q cc gc (-((Ar h 146) i)))), some (.int ((v70b q cc gc h).1)), some (.int ((v70b q cc gc ((v70b q cc gc h).2)).1))], [.int (v71 q cc gc (-((Ar h 146) i)) ((v70b q cc gc ((v70b q cc gc h).2)).1) ((v70b q cc gc h).1)), .ref 145], (v70b q cc gc ((v70b q cc gc h).2)).2, 198, sl) = some R := hh
        obtain ⟨n, fr1, lo1, r1, hh1, hh⟩ := rn_call (w := 0) (t := 69) rfl rfl hh
        obtain ⟨er16, hc17, hf18⟩ := v69b_ok (v := (v71 q cc gc (-((Ar h 146) i)) ((v70b q cc gc ((v70b q cc gc h).2)).1) ((v70b q cc gc h).1))) hc12 hh1
        subst er16
        have hh : pm_run PT n fr lo 68 (121, [some (.ref 145), some (.ref 12), some (.int (nI i)), some (.int (v67 q cc gc (-((Ar h 146) i)))), some (.int ((v70b q cc gc h).1)), some (.int ((v70b q cc gc ((v70b q cc gc h).2)).1))], [], v69b q cc gc ((v70b q cc gc ((v70b q cc gc h).2)).2) (v71 q cc gc (-((Ar h 146) i)) ((v70b q cc gc ((v70b q cc gc h).2)).1) ((v70b q cc gc h).1)), 198, sl) = some R := hh
        obtain ⟨n, hh⟩ := en_inc (x := i) (c := 1) (j := 2) rfl rfl (by decide) hh
        have hh : pm_run PT n fr lo 68 (124, [some (.ref 145), some (.ref 12), some (.int (nI (i + 1))), some (.int (v67 q cc gc (-((Ar h 146) i)))), some (.int ((v70b q cc gc h).1)), some (.int ((v70b q cc gc ((v70b q cc gc h).2)).1))], [], v69b q cc gc ((v70b q cc gc ((v70b q cc gc h).2)).2) (v71 q cc gc (-((Ar h 146) i)) ((v70b q cc gc ((v70b q cc gc h).2)).1) ((v70b q cc gc h).1)), 198, sl) = some R := hh
        obtain ⟨n, hh⟩ := rn_i rfl rfl rfl rfl hh
        have ed : v68b_7b q cc gc h z i = v69b q cc gc ((v70b q cc gc ((v70b q cc gc h).2)).2) (v71 q cc gc (-((Ar h 146) i)) ((v70b q cc gc ((v70b q cc gc h).2)).1) ((v70b q cc gc h).1)) := (ct z4).trans ((ct z5).trans ((ct z7).trans rfl))
        rw [ed]
        exact ⟨n, some (.int (v67 q cc gc (-((Ar h 146) i)))), some (.int ((v70b q cc gc h).1)), some (.int ((v70b q cc gc ((v70b q cc gc h).2)).1)), hc17, (fr_g rfl rfl hf18 (fr_g rfl rfl hf13 (fr_g rfl rfl hf10 fr_0))), ((hf18.2 145 1 (by decide +kernel) rfl).trans ((hf13.2 145 1 (by decide +kernel) rfl).trans ((hf10.2 145 1 (by decide +kernel) rfl).trans e1))), hh⟩
      | false =>
        have hh := en_f z7 hh
        have hh : pm_run PT n fr lo 68 (79, [some (.ref 145), some (.ref 12), some (.int (nI i)), some (.int (v67 q cc gc (-((Ar h 146) i)))), o4, o5], [], h, 198, sl) = some R := hh
        obtain ⟨n, hh⟩ := rn_i rfl rfl rfl rfl hh
        obtain ⟨n, hh⟩ := rn_i rfl rfl rfl rfl hh
        have hh : pm_run PT n fr lo 68 (81, [some (.ref 145), some (.ref 12), some (.int (nI i)), some (.int (v67 q cc gc (-((Ar h 146) i)))), o4, o5], [.ref 145, .ref 145], h, 198, sl) = some R := hh
        obtain ⟨n, fr1, lo1, r1, hh1, hh⟩ := rn_call (w := 0) (t := 70) rfl rfl hh
        obtain ⟨er19, hc20, hf21⟩ := v70b_ok hw hh1
        subst er19
        obtain ⟨n, hh⟩ := rn_i rfl rfl rfl rfl hh
        have hh : pm_run PT n fr lo 68 (85, [some (.ref 145), some (.ref 12), some (.int (nI i)), some (.int (v67 q cc gc (-((Ar h 146) i)))), o4, o5], [.int (-((v70b q cc gc h).1)), .ref 145], (v70b q cc gc h).2, 198, sl) = some R := hh
        obtain ⟨n, fr1, lo1, r1, hh1, hh⟩ := rn_call (w := 0) (t := 69) rfl rfl hh
        obtain ⟨er22, hc23, hf24⟩ := v69b_ok (v := (-((v70b q cc gc h).1))) hc20 hh1
        subst er22
        obtain ⟨n, hh⟩ := rn_i rfl rfl rfl rfl hh
        have hh : pm_run PT n fr lo 68 (121, [some (.ref 145), some (.ref 12), some (.int (nI i)), some (.int (v67 q cc gc (-((Ar h 146) i)))), o4, o5], [], v69b q cc gc ((v70b q cc gc h).2) (-((v70b q cc gc h).1)), 198, sl) = some R := hh
        obtain ⟨n, hh⟩ := en_inc (x := i) (c := 1) (j := 2) rfl rfl (by decide) hh
        have hh : pm_run PT n fr lo 68 (124, [some (.ref 145), some (.ref 12), some (.int (nI (i + 1))), some (.int (v67 q cc gc (-((Ar h 146) i)))), o4, o5], [], v69b q cc gc ((v70b q cc gc h).2) (-((v70b q cc gc h).1)), 198, sl) = some R := hh
        obtain ⟨n, hh⟩ := rn_i rfl rfl rfl rfl hh
        have ed : v68b_7b q cc gc h z i = v69b q cc gc ((v70b q cc gc h).2) (-((v70b q cc gc h).1)) := (ct z4).trans ((ct z5).trans ((cf z7).trans rfl))
        rw [ed]
        exact ⟨n, some (.int (v67 q cc gc (-((Ar h 146) i)))), o4, o5, hc23, (fr_g rfl rfl hf24 (fr_g rfl rfl hf21 fr_0)), ((hf24.2 145 1 (by decide +kernel) rfl).trans ((hf21.2 145 1 (by decide +kernel) rfl).trans e1)), hh⟩
    | false =>
      have hh := en_f z5 hh
      have hh : pm_run PT n fr lo 68 (52, [some (.ref 145), some (.ref 12), some (.int (nI i)), some (.int (v67 q cc gc (-((Ar h 146) i)))), o4, o5], [], h, 198, sl) = some R := hh
      obtain ⟨n, hh⟩ := rn_i rfl rfl rfl rfl hh
      obtain ⟨n, hh⟩ := rn_i rfl rfl rfl rfl hh
      have hh : pm_run PT n fr lo 68 (54, [some (.ref 145), some (.ref 12), some (.int (nI i)), some (.int (v67 q cc gc (-((Ar h 146) i)))), o4, o5], [.ref 12, .int (v67 q cc gc (-((Ar h 146) i)))], h, 198, sl) = some R := hh
      obtain ⟨n, hh⟩ := en_al hw.wt rfl (by decide) rfl (by decide) rfl hh
      have hh : pm_run PT n fr lo 68 (55, [some (.ref 145), some (.ref 12), some (.int (nI i)), some (.int (v67 q cc gc (-((Ar h 146) i)))), o4, o5], [.int (nI 7), .int (v67 q cc gc (-((Ar h 146) i)))], h, 198, sl) = some R := hh
      obtain ⟨n, hh⟩ := en_cn (cc := .ge) (off := 13) (t := 68) (b := pm_cmp .ge (v67 q cc gc (-((Ar h 146) i))) (nI 7)) rfl rfl rfl hh
      cases z25 : pm_cmp .ge (v67 q cc gc (-((Ar h 146) i))) (nI 7) with
      | true =>
        have hh := en_t z25 hh
        have hh : pm_run PT n fr lo 68 (68, [some (.ref 145), some (.ref 12), some (.int (nI i)), some (.int (v67 q cc gc (-((Ar h 146) i)))), o4, o5], [], h, 198, sl) = some R := hh
        obtain ⟨n, hh⟩ := rn_i rfl rfl rfl rfl hh
        have hh : pm_run PT n fr lo 68 (69, [some (.ref 145), some (.ref 12), some (.int (nI i)), some (.int (v67 q cc gc (-((Ar h 146) i)))), o4, o5], [.ref 145], h, 198, sl) = some R := hh
        obtain ⟨n, hh⟩ := rn_gr hw.wt rfl rfl (by decide) rfl (by decide) (show _ = some (2, ((146 : Nat) : Int), 1) from rfl) rfl hh
        obtain ⟨n, hh⟩ := rn_i rfl rfl rfl rfl hh
        have hh : pm_run PT n fr lo 68 (73, [some (.ref 145), some (.ref 12), some (.int (nI i)), some (.int (v67 q cc gc (-((Ar h 146) i)))), o4, o5], [.int (nI i), .ref 146], h, 198, sl) = some R := hh
        obtain ⟨n, hx26, hh⟩ := en_lu (t := i) (f := Ar h 146) (w := (Ar h 146) i) (nI_clamp (by omega)) hw.wt rfl (by decide) rfl (by decide) rfl (fun _ => rfl) hh
        obtain ⟨n, hh⟩ := rn_i rfl rfl rfl rfl hh
        have hh : pm_run PT n fr lo 68 (76, [some (.ref 145), some (.ref 12), some (.int (nI i)), some (.int (v67 q cc gc (-((Ar h 146) i)))), o4, o5], [.int (Int32.ofInt (-126)), .int ((Ar h 146) i)], h, 198, sl) = some R := hh
        obtain ⟨n, hh⟩ := en_cn (cc := .ne) (off := 15) (t := 91) (b := pm_cmp .ne ((Ar h 146) i) (Int32.ofInt (-126))) rfl rfl rfl hh
        cases z27 : pm_cmp .ne ((Ar h 146) i) (Int32.ofInt (-126)) with
        | true =>
          have hh := en_t z27 hh
          have hh : pm_run PT n fr lo 68 (91, [some (.ref 145), some (.ref 12), some (.int (nI i)), some (.int (v67 q cc gc (-((Ar h 146) i)))), o4, o5], [], h, 198, sl) = some R := hh
          obtain ⟨n, hh⟩ := rn_i rfl rfl rfl rfl hh
          have hh : pm_run PT n fr lo 68 (92, [some (.ref 145), some (.ref 12), some (.int (nI i)), some (.int (v67 q cc gc (-((Ar h 146) i)))), o4, o5], [.ref 145], h, 198, sl) = some R := hh
          obtain ⟨n, fr1, lo1, r1, hh1, hh⟩ := rn_call (w := 0) (t := 70) rfl rfl hh
          obtain ⟨er28, hc29, hf30⟩ := v70b_ok hw hh1
          subst er28
          obtain ⟨n, hh⟩ := rn_i rfl rfl rfl rfl hh
          obtain ⟨n, hh⟩ := rn_i rfl rfl rfl rfl hh
          have hh : pm_run PT n fr lo 68 (98, [some (.ref 145), some (.ref 12), some (.int (nI i)), some (.int (v67 q cc gc (-((Ar h 146) i)))), some (.int ((v70b q cc gc h).1)), o5], [.ref 145], (v70b q cc gc h).2, 198, sl) = some R := hh
          obtain ⟨n, fr1, lo1, r1, hh1, hh⟩ := rn_call (w := 0) (t := 70) rfl rfl hh
          obtain ⟨er31, hc32, hf33⟩ := v70b_ok hc29 hh1
          subst er31
          obtain ⟨n, hh⟩ := rn_i rfl rfl rfl rfl hh
          obtain ⟨n, hh⟩ := rn_i rfl rfl rfl rfl hh
          obtain ⟨n, hh⟩ := rn_i rfl rfl rfl rfl hh
          have hh : pm_run PT n fr lo 68 (105, [some (.ref 145), some (.ref 12), some (.int (nI i)), some (.int (v67 q cc gc (-((Ar h 146) i)))), some (.int ((v70b q cc gc h).1)), some (.int ((v70b q cc gc ((v70b q cc gc h).2)).1))], [.ref 145, .ref 145], (v70b q cc gc ((v70b q cc gc h).2)).2, 198, sl) = some R := hh
          obtain ⟨n, hh⟩ := rn_gr hc32.wt rfl rfl (by decide) rfl (by decide) (show _ = some (2, ((146 : Nat) : Int), 1) from rfl) rfl hh
          obtain ⟨n, hh⟩ := rn_i rfl rfl rfl rfl hh
          have hh : pm_run PT n fr lo 68 (109, [some (.ref 145), some (.ref 12), some (.int (nI i)), some (.int (v67 q cc gc (-((Ar h 146) i)))), some (.int ((v70b q cc gc h).1)), some (.int ((v70b q cc gc ((v70b q cc gc h).2)).1))], [.int (nI i), .ref 146, .ref 145], (v70b q cc gc ((v70b q cc gc h).2)).2, 198, sl) = some R := hh
          obtain ⟨n, hx34, hh⟩ := en_lu (t := i) (f := Ar h 146) (w := (Ar h 146) i) (nI_clamp (by omega)) hc32.wt rfl (by decide) rfl (by decide) ((Ar_e (hf33.1 146 rfl)).trans ((Ar_e (hf30.1 146 rfl)).trans rfl)) (fun _ => rfl) hh
          obtain ⟨n, hh⟩ := rn_i rfl rfl rfl rfl hh
          obtain ⟨n, hh⟩ := rn_i rfl rfl rfl rfl hh
          obtain ⟨n, hh⟩ := rn_i rfl rfl rfl rfl hh
          have hh : pm_run PT n fr lo 68 (115, [some (.ref 145), some (.ref 12), some (.int (nI i)), some (.int (v67 q cc gc (-((Ar h 146) i)))), some (.int ((v70b q cc gc h).1)), some (.int ((v70b q cc gc ((v70b q cc gc h).2)).1))], [.int ((v70b q cc gc h).1), .int ((v70b q cc gc ((v70b q cc gc h).2)).1), .int (-((Ar h 146) i)), .ref 145], (v70b q cc gc ((v70b q cc gc h).2)).2, 198, sl) = some R := hh
          obtain ⟨n, fr1, lo1, r1, hh1, hh⟩ := rn_call (w := 2) (t := 71) rfl rfl hh
          have er35 := v71_ok (s := (-((Ar h 146) i))) (a := ((v70b q cc gc ((v70b q cc gc h).2)).1)) (b := ((v70b q cc gc h).1)) hc32 hh1
          subst er35
          have hh : pm_run PT n fr lo 68 (118, [some (.ref 145), some (.ref 12), some (.int (nI i)), some (.int (v67 q cc gc (-((Ar h 146) i)))), some (.int ((v70b q cc gc h).1)), some (.int ((v70b q cc gc ((v70b q cc gc h).2)).1))], [.int (v71 q cc gc (-((Ar h 146) i)) ((v70b q cc gc ((v70b q cc gc h).2)).1) ((v70b q cc gc h).1)), .ref 145], (v70b q cc gc ((v70b q cc gc h).2)).2, 198, sl) = some R := hh
          obtain ⟨n, fr1, lo1, r1, hh1, hh⟩ := rn_call (w := 0) (t := 69) rfl rfl hh
          obtain ⟨er36, hc37, hf38⟩ := v69b_ok (v := (v71 q cc gc (-((Ar h 146) i)) ((v70b q cc gc ((v70b q cc gc h).2)).1) ((v70b q cc gc h).1))) hc32 hh1
          subst er36
          have hh : pm_run PT n fr lo 68 (121, [some (.ref 145), some (.ref 12), some (.int (nI i)), some (.int (v67 q cc gc (-((Ar h 146) i)))), some (.int ((v70b q cc gc h).1)), some (.int ((v70b q cc gc ((v70b q cc gc h).2)).1))], [], v69b q cc gc ((v70b q cc gc ((v70b q cc gc h).2)).2) (v71 q cc gc (-((Ar h 146) i)) ((v70b q cc gc ((v70b q cc gc h).2)).1) ((v70b q cc gc h).1)), 198, sl) = some R := hh
          obtain ⟨n, hh⟩ := en_inc (x := i) (c := 1) (j := 2) rfl rfl (by decide) hh
          have hh : pm_run PT n fr lo 68 (124, [some (.ref 145), some (.ref 12), some (.int (nI (i + 1))), some (.int (v67 q cc gc (-((Ar h 146) i)))), some (.int ((v70b q cc gc h).1)), some (.int ((v70b q cc gc ((v70b q cc gc h).2)).1))], [], v69b q cc gc ((v70b q cc gc ((v70b q cc gc h).2)).2) (v71 q cc gc (-((Ar h 146) i)) ((v70b q cc gc ((v70b q cc gc h).2)).1) ((v70b q cc gc h).1)), 198, sl) = some R := hh
          obtain ⟨n, hh⟩ := rn_i rfl rfl rfl rfl hh
          have ed : v68b_7b q cc gc h z i = v69b q cc gc ((v70b q cc gc ((v70b q cc gc h).2)).2) (v71 q cc gc (-((Ar h 146) i)) ((v70b q cc gc ((v70b q cc gc h).2)).1) ((v70b q cc gc h).1)) := (ct z4).trans ((cf z5).trans ((ct z25).trans ((ct z27).trans rfl)))
          rw [ed]
          exact ⟨n, some (.int (v67 q cc gc (-((Ar h 146) i)))), some (.int ((v70b q cc gc h).1)), some (.int ((v70b q cc gc ((v70b q cc gc h).2)).1)), hc37, (fr_g rfl rfl hf38 (fr_g rfl rfl hf33 (fr_g rfl rfl hf30 fr_0))), ((hf38.2 145 1 (by decide +kernel) rfl).trans ((hf33.2 145 1 (by decide +kernel) rfl).trans ((hf30.2 145 1 (by decide +kernel) rfl).trans e1))), hh⟩
        | false =>
          have hh := en_f z27 hh
          have hh : pm_run PT n fr lo 68 (79, [some (.ref 145), some (.ref 12), some (.int (nI i)), some (.int (v67 q cc gc (-((Ar h 146) i)))), o4, o5], [], h, 198, sl) = some R := hh
          obtain ⟨n, hh⟩ := rn_i rfl rfl rfl rfl hh
          obtain ⟨n, hh⟩ := rn_i rfl rfl rfl rfl hh
          have hh : pm_run PT n fr lo 68 (81, [some (.ref 145), some (.ref 12), some (.int (nI i)), some (.int (v67 q cc gc (-((Ar h 146) i)))), o4, o5], [.ref 145, .ref 145], h, 198, sl) = some R := hh
          obtain ⟨n, fr1, lo1, r1, hh1, hh⟩ := rn_call (w := 0) (t := 70) rfl rfl hh
          obtain ⟨er39, hc40, hf41⟩ := v70b_ok hw hh1
          subst er39
          obtain ⟨n, hh⟩ := rn_i rfl rfl rfl rfl hh
          have hh : pm_run PT n fr lo 68 (85, [some (.ref 145), some (.ref 12), some (.int (nI i)), some (.int (v67 q cc gc (-((Ar h 146) i)))), o4, o5], [.int (-((v70b q cc gc h).1)), .ref 145], (v70b q cc gc h).2, 198, sl) = some R := hh
          obtain ⟨n, fr1, lo1, r1, hh1, hh⟩ := rn_call (w := 0) (t := 69) rfl rfl hh
          obtain ⟨er42, hc43, hf44⟩ := v69b_ok (v := (-((v70b q cc gc h).1))) hc40 hh1
          subst er42
          obtain ⟨n, hh⟩ := rn_i rfl rfl rfl rfl hh
          have hh : pm_run PT n fr lo 68 (121, [some (.ref 145), some (.ref 12), some (.int (nI i)), some (.int (v67 q cc gc (-((Ar h 146) i)))), o4, o5], [], v69b q cc gc ((v70b q cc gc h).2) (-((v70b q cc gc h).1)), 198, sl) = some R := hh
          obtain ⟨n, hh⟩ := en_inc (x := i) (c := 1) (j := 2) rfl rfl (by decide) hh
          have hh : pm_run PT n fr lo 68 (124, [some (.ref 145), some (.ref 12), some (.int (nI (i + 1))), some (.int (v67 q cc gc (-((Ar h 146) i)))), o4, o5], [], v69b q cc gc ((v70b q cc gc h).2) (-((v70b q cc gc h).1)), 198, sl) = some R := hh
          obtain ⟨n, hh⟩ := rn_i rfl rfl rfl rfl hh
          have ed : v68b_7b q cc gc h z i = v69b q cc gc ((v70b q cc gc h).2) (-((v70b q cc gc h).1)) := (ct z4).trans ((cf z5).trans ((ct z25).trans ((cf z27).trans rfl)))
          rw [ed]
          exact ⟨n, some (.int (v67 q cc gc (-((Ar h 146) i)))), o4, o5, hc43, (fr_g rfl rfl hf44 (fr_g rfl rfl hf41 fr_0)), ((hf44.2 145 1 (by decide +kernel) rfl).trans ((hf41.2 145 1 (by decide +kernel) rfl).trans e1)), hh⟩
      | false =>
        have hh := en_f z25 hh
        have hh : pm_run PT n fr lo 68 (58, [some (.ref 145), some (.ref 12), some (.int (nI i)), some (.int (v67 q cc gc (-((Ar h 146) i)))), o4, o5], [], h, 198, sl) = some R := hh
        obtain ⟨n, hh⟩ := rn_i rfl rfl rfl rfl hh
        obtain ⟨n, hh⟩ := rn_i rfl rfl rfl rfl hh
        obtain ⟨n, hh⟩ := rn_i rfl rfl rfl rfl hh
        have hh : pm_run PT n fr lo 68 (61, [some (.ref 145), some (.ref 12), some (.int (nI i)), some (.int (v67 q cc gc (-((Ar h 146) i)))), o4, o5], [.int (v67 q cc gc (-((Ar h 146) i))), .ref 12, .ref 145], h, 198, sl) = some R := hh
        obtain ⟨n, hx45, hh⟩ := en_lu (t := (v67 q cc gc (-((Ar h 146) i))).toNatClampNeg) (f := Ar h 12) (w := (Ar h 12) ((v67 q cc gc (-((Ar h 146) i))).toNatClampNeg)) rfl hw.wt rfl (by decide) rfl (by decide) rfl (fun _ => rfl) hh
        have hh : pm_run PT n fr lo 68 (62, [some (.ref 145), some (.ref 12), some (.int (nI i)), some (.int (v67 q cc gc (-((Ar h 146) i)))), o4, o5], [.int ((Ar h 12) ((v67 q cc gc (-((Ar h 146) i))).toNatClampNeg)), .ref 145], h, 198, sl) = some R := hh
        obtain ⟨n, fr1, lo1, r1, hh1, hh⟩ := rn_call (w := 0) (t := 69) rfl rfl hh
        obtain ⟨er46, hc47, hf48⟩ := v69b_ok (v := ((Ar h 12) ((v67 q cc gc (-((Ar h 146) i))).toNatClampNeg))) hw hh1
        subst er46
        obtain ⟨n, hh⟩ := rn_i rfl rfl rfl rfl hh
        have hh : pm_run PT n fr lo 68 (121, [some (.ref 145), some (.ref 12), some (.int (nI i)), some (.int (v67 q cc gc (-((Ar h 146) i)))), o4, o5], [], v69b q cc gc h ((Ar h 12) ((v67 q cc gc (-((Ar h 146) i))).toNatClampNeg)), 198, sl) = some R := hh
        obtain ⟨n, hh⟩ := en_inc (x := i) (c := 1) (j := 2) rfl rfl (by decide) hh
        have hh : pm_run PT n fr lo 68 (124, [some (.ref 145), some (.ref 12), some (.int (nI (i + 1))), some (.int (v67 q cc gc (-((Ar h 146) i)))), o4, o5], [], v69b q cc gc h ((Ar h 12) ((v67 q cc gc (-((Ar h 146) i))).toNatClampNeg)), 198, sl) = some R := hh
        obtain ⟨n, hh⟩ := rn_i rfl rfl rfl rfl hh
        have ed : v68b_7b q cc gc h z i = v69b q cc gc h ((Ar h 12) ((v67 q cc gc (-((Ar h 146) i))).toNatClampNeg)) := (ct z4).trans ((cf z5).trans ((cf z25).trans rfl))
        rw [ed]
        exact ⟨n, some (.int (v67 q cc gc (-((Ar h 146) i)))), o4, o5, hc47, (fr_g rfl rfl hf48 fr_0), ((hf48.2 145 1 (by decide +kernel) rfl).trans e1), hh⟩
  | false =>
    have hh := en_f z4 hh
    have hh : pm_run PT n fr lo 68 (35, [some (.ref 145), some (.ref 12), some (.int (nI i)), some (.int (v67 q cc gc (-((Ar h 146) i)))), o4, o5], [], h, 198, sl) = some R := hh
    obtain ⟨n, hh⟩ := rn_i rfl rfl rfl rfl hh
    obtain ⟨n, hh⟩ := rn_i rfl rfl rfl rfl hh
    have hh : pm_run PT n fr lo 68 (37, [some (.ref 145), some (.ref 12), some (.int (nI i)), some (.int (v67 q cc gc (-((Ar h 146) i)))), o4, o5], [.ref 145, .ref 145], h, 198, sl) = some R := hh
    obtain ⟨n, hh⟩ := rn_gr hw.wt rfl rfl (by decide) rfl (by decide) (show _ = some (2, ((146 : Nat) : Int), 1) from rfl) rfl hh
    obtain ⟨n, hh⟩ := rn_i rfl rfl rfl rfl hh
    have hh : pm_run PT n fr lo 68 (41, [some (.ref 145), some (.ref 12), some (.int (nI i)), some (.int (v67 q cc gc (-((Ar h 146) i)))), o4, o5], [.int (nI i), .ref 146, .ref 145], h, 198, sl) = some R := hh
    obtain ⟨n, hx49, hh⟩ := en_lu (t := i) (f := Ar h 146) (w := (Ar h 146) i) (nI_clamp (by omega)) hw.wt rfl (by decide) rfl (by decide) rfl (fun _ => rfl) hh
    have hh : pm_run PT n fr lo 68 (42, [some (.ref 145), some (.ref 12), some (.int (nI i)), some (.int (v67 q cc gc (-((Ar h 146) i)))), o4, o5], [.int ((Ar h 146) i), .ref 145], h, 198, sl) = some R := hh
    obtain ⟨n, fr1, lo1, r1, hh1, hh⟩ := rn_call (w := 0) (t := 69) rfl rfl hh
    obtain ⟨er50, hc51, hf52⟩ := v69b_ok (v := ((Ar h 146) i)) hw hh1
    subst er50
    obtain ⟨n, hh⟩ := rn_i rfl rfl rfl rfl hh
    have hh : pm_run PT n fr lo 68 (121, [some (.ref 145), some (.ref 12), some (.int (nI i)), some (.int (v67 q cc gc (-((Ar h 146) i)))), o4, o5], [], v69b q cc gc h ((Ar h 146) i), 198, sl) = some R := hh
    obtain ⟨n, hh⟩ := en_inc (x := i) (c := 1) (j := 2) rfl rfl (by decide) hh
    have hh : pm_run PT n fr lo 68 (124, [some (.ref 145), some (.ref 12), some (.int (nI (i + 1))), some (.int (v67 q cc gc (-((Ar h 146) i)))), o4, o5], [], v69b q cc gc h ((Ar h 146) i), 198, sl) = some R := hh
    obtain ⟨n, hh⟩ := rn_i rfl rfl rfl rfl hh
    have ed : v68b_7b q cc gc h z i = v69b q cc gc h ((Ar h 146) i) := (cf z4).trans rfl
    rw [ed]
    exact ⟨n, some (.int (v67 q cc gc (-((Ar h 146) i)))), o4, o5, hc51, (fr_g rfl rfl hf52 fr_0), ((hf52.2 145 1 (by decide +kernel) rfl).trans e1), hh⟩
theorem v68b_7_ok {fr lo sl cc gc : Nat} {q : QT} {R : pm_Rs} {z : Nat} : ∀ {j i : Nat} {o3 : Option Value} {o4 : Option Value} {o5 : Option Value} {h : pm_H} {n : Nat}, z - i = j → i + j < 1000000 → HC q cc gc h → z ≤ 40 → Fi h 145 1 = nI z → pm_run PT n fr lo 68 (7, [some (.ref 145), some (.ref 12), some (.int (nI i)), o3, o4, o5], [], h, 198, sl) = some R → ∃ m wc w3 w4 w5, HC q cc gc ((v68b_7 q cc gc z j i h)) ∧ frm [145, 147] [(145, 3)] h ((v68b_7 q cc gc z j i h)) ∧ Fi ((v68b_7 q cc gc z j i h)) 145 1 = nI z ∧ pm_run PT m fr lo 68 (127, [some (.ref 145), some (.ref 12), wc, w3, w4, w5], [], (v68b_7 q cc gc z j i h), 198, sl) = some R := by
  intro j
  induction j with
  | zero =>
    intro i o3 o4 o5 h n e eI hw hz e1 hh
    obtain ⟨n, hh⟩ := v68b_7_e hw hz e1 (by omega) (by omega) hh
    exact ⟨n, _, o3, o4, o5, hw, fr_0, e1, hh⟩
  | succ j ih =>
    intro i o3 o4 o5 h n e eI hw hz e1 hh
    obtain ⟨n, w3, w4, w5, hc, hf, e1', hh⟩ := v68b_7_s hw hz e1 (by omega) (by omega) hh
    obtain ⟨n, wc, v3, v4, v5, hc2, hf2, e1'', hh⟩ := ih (by omega) (by omega) hc hz e1' hh
    exact ⟨n, wc, v3, v4, v5, hc2, fr_t hf2 hf, e1'', hh⟩
theorem v68b_7_fb {cc gc : Nat} {q : QT} {h : pm_H} {z : Nat} {i : Nat} (hw : HC q cc gc h) (hz : z ≤ 40) : HC q cc gc ((v68b_7b q cc gc h z i)) ∧ frm [145, 147] [(145, 3)] h ((v68b_7b q cc gc h z i)) := by
  unfold v68b_7b
  refine cd_s (P := fun (p : pm_H) => HC q cc gc ((p)) ∧ frm [145, 147] [(145, 3)] h ((p))) (b := pm_cmp .lt ((Ar h 146) i) 0) (fun _ => ?_) (fun _ => ?_)
  · refine cd_s (P := fun (p : pm_H) => HC q cc gc ((p)) ∧ frm [145, 147] [(145, 3)] h ((p))) (b := pm_cmp .lt (v67 q cc gc (-((Ar h 146) i))) 0) (fun _ => ?_) (fun _ => ?_)
    · refine cd_s (P := fun (p : pm_H) => HC q cc gc ((p)) ∧ frm [145, 147] [(145, 3)] h ((p))) (b := pm_cmp .ne ((Ar h 146) i) (Int32.ofInt (-126))) (fun _ => ?_) (fun _ => ?_)
      · show HC q cc gc (v69b q cc gc ((v70b q cc gc ((v70b q cc gc h).2)).2) (v71 q cc gc (-((Ar h 146) i)) ((v70b q cc gc ((v70b q cc gc h).2)).1) ((v70b q cc gc h).1))) ∧ frm [145, 147] [(145, 3)] h (v69b q cc gc ((v70b q cc gc ((v70b q cc gc h).2)).2) (v71 q cc gc (-((Ar h 146) i)) ((v70b q cc gc ((v70b q cc gc h).2)).1) ((v70b q cc gc h).1)))
        exact ⟨(v69b_fr (v := (v71 q cc gc (-((Ar h 146) i)) ((v70b q cc gc ((v70b q cc gc h).2)).1) ((v70b q cc gc h).1))) (v70b_fr (v70b_fr hw).1).1).1, (fr_g rfl rfl (v69b_fr (v := (v71 q cc gc (-((Ar h 146) i)) ((v70b q cc gc ((v70b q cc gc h).2)).1) ((v70b q cc gc h).1))) (v70b_fr (v70b_fr hw).1).1).2 (fr_g rfl rfl (v70b_fr (v70b_fr hw).1).2 (fr_g rfl rfl (v70b_fr hw).2 fr_0)))⟩
      · show HC q cc gc (v69b q cc gc ((v70b q cc gc h).2) (-((v70b q cc gc h).1))) ∧ frm [145, 147] [(145, 3)] h (v69b q cc gc ((v70b q cc gc h).2) (-((v70b q cc gc h).1)))
        exact ⟨(v69b_fr (v := (-((v70b q cc gc h).1))) (v70b_fr hw).1).1, (fr_g rfl rfl (v69b_fr (v := (-((v70b q cc gc h).1))) (v70b_fr hw).1).2 (fr_g rfl rfl (v70b_fr hw).2 fr_0))⟩
    · refine cd_s (P := fun (p : pm_H) => HC q cc gc ((p)) ∧ frm [145, 147] [(145, 3)] h ((p))) (b := pm_cmp .ge (v67 q cc gc (-((Ar h 146) i))) (nI 7)) (fun _ => ?_) (fun _ => ?_)
      · refine cd_s (P := fun (p : pm_H) => HC q cc gc ((p)) ∧ frm [145, 147] [(145, 3)] h ((p))) (b := pm_cmp .ne ((Ar h 146) i) (Int32.ofInt (-126))) (fun _ => ?_) (fun _ => ?_)
        · show HC q cc gc (v69b q cc gc ((v70b q cc gc ((v70b q cc gc h).2)).2) (v71 q cc gc (-((Ar h 146) i)) ((v70b q cc gc ((v70b q cc gc h).2)).1) ((v70b q cc gc h).1))) ∧ frm [145, 147] [(145, 3)] h (v69b q cc gc ((v70b q cc gc ((v70b q cc gc h).2)).2) (v71 q cc gc (-((Ar h 146) i)) ((v70b q cc gc ((v70b q cc gc h).2)).1) ((v70b q cc gc h).1)))
          exact ⟨(v69b_fr (v := (v71 q cc gc (-((Ar h 146) i)) ((v70b q cc gc ((v70b q cc gc h).2)).1) ((v70b q cc gc h).1))) (v70b_fr (v70b_fr hw).1).1).1, (fr_g rfl rfl (v69b_fr (v := (v71 q cc gc (-((Ar h 146) i)) ((v70b q cc gc ((v70b q cc gc h).2)).1) ((v70b q cc gc h).1))) (v70b_fr (v70b_fr hw).1).1).2 (fr_g rfl rfl (v70b_fr (v70b_fr hw).1).2 (fr_g rfl rfl (v70b_fr hw).2 fr_0)))⟩
        · show HC q cc gc (v69b q cc gc ((v70b q cc gc h).2) (-((v70b q cc gc h).1))) ∧ frm [145, 147] [(145, 3)] h (v69b q cc gc ((v70b q cc gc h).2) (-((v70b q cc gc h).1)))
          exact ⟨(v69b_fr (v := (-((v70b q cc gc h).1))) (v70b_fr hw).1).1, (fr_g rfl rfl (v69b_fr (v := (-((v70b q cc gc h).1))) (v70b_fr hw).1).2 (fr_g rfl rfl (v70b_fr hw).2 fr_0))⟩
      · show HC q cc gc (v69b q cc gc h ((Ar h 12) ((v67 q cc gc (-((Ar h 146) i))).toNatClampNeg))) ∧ frm [145, 147] [(145, 3)] h (v69b q cc gc h ((Ar h 12) ((v67 q cc gc (-((Ar h 146) i))).toNatClampNeg)))
        exact ⟨(v69b_fr (v := ((Ar h 12) ((v67 q cc gc (-((Ar h 146) i))).toNatClampNeg))) hw).1, (fr_g rfl rfl (v69b_fr (v := ((Ar h 12) ((v67 q cc gc (-((Ar h 146) i))).toNatClampNeg))) hw).2 fr_0)⟩
  · show HC q cc gc (v69b q cc gc h ((Ar h 146) i)) ∧ frm [145, 147] [(145, 3)] h (v69b q cc gc h ((Ar h 146) i))
    exact ⟨(v69b_fr (v := ((Ar h 146) i)) hw).1, (fr_g rfl rfl (v69b_fr (v := ((Ar h 146) i)) hw).2 fr_0)⟩
theorem v68b_7_fr {cc gc : Nat} {q : QT} {z : Nat} (hz : z ≤ 40) : ∀ {j i : Nat} {h : pm_H}, HC q cc gc h → HC q cc gc ((v68b_7 q cc gc z j i h)) ∧ frm [145, 147] [(145, 3)] h ((v68b_7 q cc gc z j i h)) := by
  intro j
  induction j with
  | zero =>
    intro i h hw
    exact ⟨hw, fr_0⟩
  | succ j ih =>
    intro i h hw
    obtain ⟨a1, a2⟩ := v68b_7_fb (i := i) (z := z) hw hz
    obtain ⟨b1, b2⟩ := ih (i := i + 1) a1
    exact ⟨b1, fr_t b2 a2⟩
def v68b (q : QT) (cc gc : Nat) (h : pm_H) (z : Nat) : Int32 × pm_H := ((v70b q cc gc (v68b_7 q cc gc z z 0 (fset h 145 3 (.int (nI 0))))).1, (v70b q cc gc (v68b_7 q cc gc z z 0 (fset h 145 3 (.int (nI 0))))).2)
theorem v68b_ok {n fr lo sl cc gc : Nat} {q : QT} {h : pm_H} {R : pm_Rs} {z : Nat} (hw : HC q cc gc h) (hz : z ≤ 40) (e1 : Fi h 145 1 = nI z) (hh : pm_run PT n fr lo 68 (0, pm_l0 [.ref 145, .ref 12] 6, [], h, 198, sl) = some R) : R = (some (.int ((v68b q cc gc h z).1)), (v68b q cc gc h z).2, 198, sl) ∧ HC q cc gc ((v68b q cc gc h z).2) ∧ frm [145, 147] [(145, 3)] h ((v68b q cc gc h z).2) := by
  have hcc := hw.cb
  have hgc := hw.gb
  have hzr := hw.zr
  obtain ⟨n, hh⟩ := rn_i rfl rfl rfl rfl hh
  obtain ⟨n, hh⟩ := rn_i rfl rfl rfl rfl hh
  have hh : pm_run PT n fr lo 68 (2, [some (.ref 145), some (.ref 12), none, none, none, none], [.int (nI 0), .ref 145], h, 198, sl) = some R := hh
  obtain ⟨n, hh⟩ := rn_pi hw.wt rfl rfl (by decide) rfl (by decide) rfl hh
  obtain ⟨n, hh⟩ := rn_i rfl rfl rfl rfl hh
  obtain ⟨n, hh⟩ := rn_i rfl rfl rfl rfl hh
  have hh : pm_run PT n fr lo 68 (7, [some (.ref 145), some (.ref 12), some (.int (nI 0)), none, none, none], [], fset h 145 3 (.int (nI 0)), 198, sl) = some R := hh
  obtain ⟨n, u4, u1, u2, u3, hc5, hf6, _, hh⟩ := v68b_7_ok  (i := 0) (o3 := none) (o4 := none) (o5 := none) (j := z) (by omega) (by omega) (hc_f rfl rfl (by decide) rfl hw) hz ((Fi_n (Or.inr (by decide))).trans e1) hh
  have hh : pm_run PT n fr lo 68 (127, [some (.ref 145), some (.ref 12), u4, u1, u2, u3], [], (v68b_7 q cc gc z z 0 (fset h 145 3 (.int (nI 0)))), 198, sl) = some R := hh
  obtain ⟨n, hh⟩ := rn_i rfl rfl rfl rfl hh
  have hh : pm_run PT n fr lo 68 (128, [some (.ref 145), some (.ref 12), u4, u1, u2, u3], [.ref 145], (v68b_7 q cc gc z z 0 (fset h 145 3 (.int (nI 0)))), 198, sl) = some R := hh
  obtain ⟨n, fr1, lo1, r1, hh1, hh⟩ := rn_call (w := 0) (t := 70) rfl rfl hh
  obtain ⟨er7, hc8, hf9⟩ := v70b_ok hc5 hh1
  subst er7
  have hh : pm_run PT n fr lo 68 (131, [some (.ref 145), some (.ref 12), u4, u1, u2, u3], [.int ((v70b q cc gc (v68b_7 q cc gc z z 0 (fset h 145 3 (.int (nI 0))))).1)], (v70b q cc gc (v68b_7 q cc gc z z 0 (fset h 145 3 (.int (nI 0))))).2, 198, sl) = some R := hh
  have er10 : R = (some (.int ((v70b q cc gc (v68b_7 q cc gc z z 0 (fset h 145 3 (.int (nI 0))))).1)), (v70b q cc gc (v68b_7 q cc gc z z 0 (fset h 145 3 (.int (nI 0))))).2, 198, sl) := (rn_ret rfl (Or.inl rfl) hh).2
  have ed : v68b q cc gc h z = ((v70b q cc gc (v68b_7 q cc gc z z 0 (fset h 145 3 (.int (nI 0))))).1, (v70b q cc gc (v68b_7 q cc gc z z 0 (fset h 145 3 (.int (nI 0))))).2) := rfl
  refine ⟨?_, ?_, ?_⟩ <;> rw [ed]
  · exact er10
  · exact hc8
  · exact (fr_g rfl rfl hf9 (fr_g rfl rfl hf6 (fr_f rfl rfl fr_0)))
theorem v68b_fr {cc gc : Nat} {q : QT} {h : pm_H} {z : Nat} (hw : HC q cc gc h) (hz : z ≤ 40) : HC q cc gc ((v68b q cc gc h z).2) ∧ frm [145, 147] [(145, 3)] h ((v68b q cc gc h z).2) := by
  unfold v68b
  show HC q cc gc ((v70b q cc gc (v68b_7 q cc gc z z 0 (fset h 145 3 (.int (nI 0))))).2) ∧ frm [145, 147] [(145, 3)] h ((v70b q cc gc (v68b_7 q cc gc z z 0 (fset h 145 3 (.int (nI 0))))).2)
  exact ⟨(v70b_fr (v68b_7_fr (z := z) (j := z) (i := 0) hz (hc_f rfl rfl (by decide) rfl hw)).1).1, (fr_g rfl rfl (v70b_fr (v68b_7_fr (z := z) (j := z) (i := 0) hz (hc_f rfl rfl (by decide) rfl hw)).1).2 (fr_g rfl rfl (v68b_7_fr (z := z) (j := z) (i := 0) hz (hc_f rfl rfl (by decide) rfl hw)).2 (fr_f rfl rfl fr_0)))⟩
end EC
