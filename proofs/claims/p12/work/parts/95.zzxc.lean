/-! runs told exactly, written by ext.py -/
section EA
def v270 (q : QT) (cc gc : Nat) (a : Int32) : Int32 := (((((((a - ((ushr a (nI 1)) &&& (nI 1431655765))) &&& (nI 858993459)) + ((ushr (a - ((ushr a (nI 1)) &&& (nI 1431655765))) (nI 2)) &&& (nI 858993459))) + (ushr (((a - ((ushr a (nI 1)) &&& (nI 1431655765))) &&& (nI 858993459)) + ((ushr (a - ((ushr a (nI 1)) &&& (nI 1431655765))) (nI 2)) &&& (nI 858993459))) (nI 4))) &&& (nI 252645135)) + (ushr (((((a - ((ushr a (nI 1)) &&& (nI 1431655765))) &&& (nI 858993459)) + ((ushr (a - ((ushr a (nI 1)) &&& (nI 1431655765))) (nI 2)) &&& (nI 858993459))) + (ushr (((a - ((ushr a (nI 1)) &&& (nI 1431655765))) &&& (nI 858993459)) + ((ushr (a - ((ushr a (nI 1)) &&& (nI 1431655765))) (nI 2)) &&& (nI 858993459))) (nI 4))) &&& (nI 252645135)) (nI 8))) + (ushr ((((((a - ((ushr a (nI 1)) &&& (nI 1431655765))) &&& (nI 858993459)) + ((ushr (a - ((ushr a (nI 1)) &&& (nI 1431655765))) (nI 2)) &&& (nI 858993459))) + (ushr (((a - ((ushr a (nI 1)) &&& (nI 1431655765))) &&& (nI 858993459)) + ((ushr (a - ((ushr a (nI 1)) &&& (nI 1431655765))) (nI 2)) &&& (nI 858993459))) (nI 4))) &&& (nI 252645135)) + (ushr (((((a - ((ushr a (nI 1)) &&& (nI 1431655765))) &&& (nI 858993459)) + ((ushr (a - ((ushr a (nI 1)) &&& (nI 1431655765))) (nI 2)) &&& (nI 858993459))) + (ushr (((a - ((ushr a (nI 1)) &&& (nI 1431655765))) &&& (nI 858993459)) + ((ushr (a - ((ushr a (nI 1)) &&& (nI 1431655765))) (nI 2)) &&& (nI 858993459))) (nI 4))) &&& (nI 252645135)) (nI 8))) (nI 16))) &&& (nI 63)
theorem v270_ok {n fr lo sl cc gc : Nat} {q : QT} {h : pm_H} {R : pm_Rs} {a : Int32} (hw : HC q cc gc h) (hh : pm_run PT n fr lo 270 (0, pm_l0 [.int a] 1, [], h, 198, sl) = some R) : R = (some (.int (v270 q cc gc a)), h, 198, sl) := by
  have hcc := hw.cb
  have hgc := hw.gb
  have hzr := hw.zr
  obtain ⟨n, hh⟩ := rn_i rfl rfl rfl rfl hh
  obtain ⟨n, hh⟩ := rn_i rfl rfl rfl rfl hh
  obtain ⟨n, hh⟩ := rn_i rfl rfl rfl rfl hh
  obtain ⟨n, hh⟩ := rn_i rfl rfl rfl rfl hh
  obtain ⟨n, hh⟩ := rn_i rfl rfl rfl rfl hh
  obtain ⟨n, hh⟩ := rn_i rfl rfl rfl rfl hh
  obtain ⟨n, hh⟩ := rn_i rfl rfl rfl rfl hh
  obtain ⟨n, hh⟩ := rn_i rfl rfl rfl rfl hh
  obtain ⟨n, hh⟩ := rn_i rfl rfl rfl rfl hh
  obtain ⟨n, hh⟩ := rn_i rfl rfl rfl rfl hh
  obtain ⟨n, hh⟩ := rn_i rfl rfl rfl rfl hh
  obtain ⟨n, hh⟩ := rn_i rfl rfl rfl rfl hh
  obtain ⟨n, hh⟩ := rn_i rfl rfl rfl rfl hh
  obtain ⟨n, hh⟩ := rn_i rfl rfl rfl rfl hh
  obtain ⟨n, hh⟩ := rn_i rfl rfl rfl rfl hh
  obtain ⟨n, hh⟩ := rn_i rfl rfl rfl rfl hh
  obtain ⟨n, hh⟩ := rn_i rfl rfl rfl rfl hh
  obtain ⟨n, hh⟩ := rn_i rfl rfl rfl rfl hh
  obtain ⟨n, hh⟩ := rn_i rfl rfl rfl rfl hh
  obtain ⟨n, hh⟩ := rn_i rfl rfl rfl rfl hh
  obtain ⟨n, hh⟩ := rn_i rfl rfl rfl rfl hh
  obtain ⟨n, hh⟩ := rn_i rfl rfl rfl rfl hh
  obtain ⟨n, hh⟩ := rn_i rfl rfl rfl rfl hh
  obtain ⟨n, hh⟩ := rn_i rfl rfl rfl rfl hh
  obtain ⟨n, hh⟩ := rn_i rfl rfl rfl rfl hh
  obtain ⟨n, hh⟩ := rn_i rfl rfl rfl rfl hh
  obtain ⟨n, hh⟩ := rn_i rfl rfl rfl rfl hh
  obtain ⟨n, hh⟩ := rn_i rfl rfl rfl rfl hh
  obtain ⟨n, hh⟩ := rn_i rfl rfl rfl rfl hh
  obtain ⟨n, hh⟩ := rn_i rfl rfl rfl rfl hh
  obtain ⟨n, hh⟩ := rn_i rfl rfl rfl rfl hh
  obtain ⟨n, hh⟩ := rn_i rfl rfl rfl rfl hh
  obtain ⟨n, hh⟩ := rn_i rfl rfl rfl rfl hh
  obtain ⟨n, hh⟩ := rn_i rfl rfl rfl rfl hh
  obtain ⟨n, hh⟩ := rn_i rfl rfl rfl rfl hh
  obtain ⟨n, hh⟩ := rn_i rfl rfl rfl rfl hh
  obtain ⟨n, hh⟩ := rn_i rfl rfl rfl rfl hh
  obtain ⟨n, hh⟩ := rn_i rfl rfl rfl rfl hh
  obtain ⟨n, hh⟩ := rn_i rfl rfl rfl rfl hh
  obtain ⟨n, hh⟩ := rn_i rfl rfl rfl rfl hh
  obtain ⟨n, hh⟩ := rn_i rfl rfl rfl rfl hh
  have hh : pm_run PT n fr lo 270 (52, [some (.int (((((((a - ((ushr a (nI 1)) &&& (nI 1431655765))) &&& (nI 858993459)) + ((ushr (a - ((ushr a (nI 1)) &&& (nI 1431655765))) (nI 2)) &&& (nI 858993459))) + (ushr (((a - ((ushr a (nI 1)) &&& (nI 1431655765))) &&& (nI 858993459)) + ((ushr (a - ((ushr a (nI 1)) &&& (nI 1431655765))) (nI 2)) &&& (nI 858993459))) (nI 4))) &&& (nI 252645135)) + (ushr (((((a - ((ushr a (nI 1)) &&& (nI 1431655765))) &&& (nI 858993459)) + ((ushr (a - ((ushr a (nI 1)) &&& (nI 1431655765))) (nI 2)) &&& (nI 858993459))) + (ushr (((a - ((ushr a (nI 1)) &&& (nI 1431655765))) &&& (nI 858993459)) + ((ushr (a - ((ushr a (nI 1)) &&& (nI 1431655765))) (nI 2)) &&& (nI 858993459))) (nI 4))) &&& (nI 252645135)) (nI 8))) + (ushr ((((((a - ((ushr a (nI 1)) &&& (nI 1431655765))) &&& (nI 858993459)) + ((ushr (a - ((ushr a (nI 1)) &&& (nI 1431655765))) (nI 2)) &&& (nI 858993459))) + (ushr (((a - ((ushr a (nI 1)) &&& (nI 1431655765))) &&& (nI 858993459)) + ((ushr (a - ((ushr a (nI 1)) &&& (nI 1431655765))) (nI 2)) &&& (nI 858993459))) (nI 4))) &&& (nI 252645135)) + (ushr (((((a - ((ushr a (nI 1)) &&& (nI 1431655765))) &&& (nI 858993459)) + ((ushr (a - ((ushr a (nI 1)) &&& (nI 1431655765))) (nI 2)) &&& (nI 858993459))) + (ushr (((a - ((ushr a (nI 1)) &&& (nI 1431655765))) &&& (nI 858993459)) + ((ushr (a - ((ushr a (nI 1)) &&& (nI 1431655765))) (nI 2)) &&& (nI 858993459))) (nI 4))) &&& (nI 252645135)) (nI 8))) (nI 16))))], [.int ((((((((a - ((ushr a (nI 1)) &&& (nI 1431655765))) &&& (nI 858993459)) + ((ushr (a - ((ushr a (nI 1)) &&& (nI 1431655765))) (nI 2)) &&& (nI 858993459))) + (ushr (((a - ((ushr a (nI 1)) &&& (nI 1431655765))) &&& (nI 858993459)) + ((ushr (a - ((ushr a (nI 1)) &&& (nI 1431655765))) (nI 2)) &&& (nI 858993459))) (nI 4))) &&& (nI 252645135)) + (ushr (((((a - ((ushr a (nI 1)) &&& (nI 1431655765))) &&& (nI 858993459)) + ((ushr (a - ((ushr a (nI 1)) &&& (nI 1431655765))) (nI 2)) &&& (nI 858993459))) + (ushr (((a - ((ushr a (nI 1)) &&& (nI 1431655765))) &&& (nI 858993459)) + ((ushr (a - ((ushr a (nI 1)) &&& (nI 1431655765))) (nI 2)) &&& (nI 858993459))) (nI 4))) &&& (nI 252645135)) (nI 8))) + (ushr ((((((a - ((ushr a (nI 1)) &&& (nI 1431655765))) &&& (nI 858993459)) + ((ushr (a - ((ushr a (nI 1)) &&& (nI 1431655765))) (nI 2)) &&& (nI 858993459))) + (ushr (((a - ((ushr a (nI 1)) &&& (nI 1431655765))) &&& (nI 858993459)) + ((ushr (a - ((ushr a (nI 1)) &&& (nI 1431655765))) (nI 2)) &&& (nI 858993459))) (nI 4))) &&& (nI 252645135)) + (ushr (((((a - ((ushr a (nI 1)) &&& (nI 1431655765))) &&& (nI 858993459)) + ((ushr (a - ((ushr a (nI 1)) &&& (nI 1431655765))) (nI 2)) &&& (nI 858993459))) + (ushr (((a - ((ushr a (nI 1)) &&& (nI 1431655765))) &&& (nI 858993459)) + ((ushr (a - ((ushr a (nI 1)) &&& (nI 1431655765))) (nI 2)) &&& (nI 858993459))) (nI 4))) &&& (nI 252645135)) (nI 8))) (nI 16))) &&& (nI 63))], h, 198, sl) = some R := hh
  have er1 : R = (some (.int ((((((((a - ((ushr a (nI 1)) &&& (nI 1431655765))) &&& (nI 858993459)) + ((ushr (a - ((ushr a (nI 1)) &&& (nI 1431655765))) (nI 2)) &&& (nI 858993459))) + (ushr (((a - ((ushr a (nI 1)) &&& (nI 1431655765))) &&& (nI 858993459)) + ((ushr (a - ((ushr a (nI 1)) &&& (nI 1431655765))) (nI 2)) &&& (nI 858993459))) (nI 4))) &&& (nI 252645135)) + (ushr (((((a - ((ushr a (nI 1)) &&& (nI 1431655765))) &&& (nI 858993459)) + ((ushr (a - ((ushr a (nI 1)) &&& (nI 1431655765))) (nI 2)) &&& (nI 858993459))) + (ushr (((a - ((ushr a (nI 1)) &&& (nI 1431655765))) &&& (nI 858993459)) + ((ushr (a - ((ushr a (nI 1)) &&& (nI 1431655765))) (nI 2)) &&& (nI 858993459))) (nI 4))) &&& (nI 252645135)) (nI 8))) + (ushr ((((((a - ((ushr a (nI 1)) &&& (nI 1431655765))) &&& (nI 858993459)) + ((ushr (a - ((ushr a (nI 1)) &&& (nI 1431655765))) (nI 2)) &&& (nI 858993459))) + (ushr (((a - ((ushr a (nI 1)) &&& (nI 1431655765))) &&& (nI 858993459)) + ((ushr (a - ((ushr a (nI 1)) &&& (nI 1431655765))) (nI 2)) &&& (nI 858993459))) (nI 4))) &&& (nI 252645135)) + (ushr (((((a - ((ushr a (nI 1)) &&& (nI 1431655765))) &&& (nI 858993459)) + ((ushr (a - ((ushr a (nI 1)) &&& (nI 1431655765))) (nI 2)) &&& (nI 858993459))) + (ushr (((a - ((ushr a (nI 1)) &&& (nI 1431655765))) &&& (nI 858993459)) + ((ushr (a - ((ushr a (nI 1)) &&& (nI 1431655765))) (nI 2)) &&& (nI 858993459))) (nI 4))) &&& (nI 252645135)) (nI 8))) (nI 16))) &&& (nI 63))), h, 198, sl) := (rn_ret rfl (Or.inl rfl) hh).2
  have ed : v270 q cc gc a = (((((((a - ((ushr a (nI 1)) &&& (nI 1431655765))) &&& (nI 858993459)) + ((ushr (a - ((ushr a (nI 1)) &&& (nI 1431655765))) (nI 2)) &&& (nI 858993459))) + (ushr (((a - ((ushr a (nI 1)) &&& (nI 1431655765))) &&& (nI 858993459)) + ((ushr (a - ((ushr a (nI 1)) &&& (nI 1431655765))) (nI 2)) &&& (nI 858993459))) (nI 4))) &&& (nI 252645135)) + (ushr (((((a - ((ushr a (nI 1)) &&& (nI 1431655765))) &&& (nI 858993459)) + ((ushr (a - ((ushr a (nI 1)) &&& (nI 1431655765))) (nI 2)) &&& (nI 858993459))) + (ushr (((a - ((ushr a (nI 1)) &&& (nI 1431655765))) &&& (nI 858993459)) + ((ushr (a - ((ushr a (nI 1)) &&& (nI 1431655765))) (nI 2)) &&& (nI 858993459))) (nI 4))) &&& (nI 252645135)) (nI 8))) + (ushr ((((((a - ((ushr a (nI 1)) &&& (nI 1431655765))) &&& (nI 858993459)) + ((ushr (a - ((ushr a (nI 1)) &&& (nI 1431655765))) (nI 2)) &&& (nI 858993459))) + (ushr (((a - ((ushr a (nI 1)) &&& (nI 1431655765))) &&& (nI 858993459)) + ((ushr (a - ((ushr a (nI 1)) &&& (nI 1431655765))) (nI 2)) &&& (nI 858993459))) (nI 4))) &&& (nI 252645135)) + (ushr (((((a - ((ushr a (nI 1)) &&& (nI 1431655765))) &&& (nI 858993459)) + ((ushr (a - ((ushr a (nI 1)) &&& (nI 1431655765))) (nI 2)) &&& (nI 858993459))) + (ushr (((a - ((ushr a (nI 1)) &&& (nI 1431655765))) &&& (nI 858993459)) + ((ushr (a - ((ushr a (nI 1)) &&& (nI 1431655765))) (nI 2)) &&& (nI 858993459))) (nI 4))) &&& (nI 252645135)) (nI 8))) (nI 16))) &&& (nI 63) := rfl
  rw [ed]
  exact er1
def v164 (q : QT) (cc gc : Nat) (a : Int32) (b : Int32) : Bool := cond (pm_cmp .ne ((shr a b) &&& (nI 1)) (nI 1)) false true
theorem v164_ok {n fr lo sl cc gc : Nat} {q : QT} {h : pm_H} {R : pm_Rs} {a : Int32} {b : Int32} (hw : HC q cc gc h) (hh : pm_run PT n fr lo 164 (0, pm_l0 [.int a, .int b] 2, [], h, 198, sl) = some R) : R = (some (.int (cond (v164 q cc gc a b) 1 0)), h, 198, sl) := by
  have hcc := hw.cb
  have hgc := hw.gb
  have hzr := hw.zr
  obtain ⟨n, hh⟩ := rn_i rfl rfl rfl rfl hh
  obtain ⟨n, hh⟩ := rn_i rfl rfl rfl rfl hh
  obtain ⟨n, hh⟩ := rn_i rfl rfl rfl rfl hh
  obtain ⟨n, hh⟩ := rn_i rfl rfl rfl rfl hh
  obtain ⟨n, hh⟩ := rn_i rfl rfl rfl rfl hh
  obtain ⟨n, hh⟩ := rn_i rfl rfl rfl rfl hh
  have hh : pm_run PT n fr lo 164 (6, [some (.int a), some (.int b)], [.int (nI 1), .int ((shr a b) &&& (nI 1))], h, 198, sl) = some R := hh
  obtain ⟨n, hh⟩ := en_cn (cc := .ne) (off := 7) (t := 13) (b := pm_cmp .ne ((shr a b) &&& (nI 1)) (nI 1)) rfl rfl rfl hh
  have hj2 : ∃ mJ, pm_run PT mJ fr lo 164 (cond (pm_cmp .ne ((shr a b) &&& (nI 1)) (nI 1)) (14, [some (.int a), some (.int b)], [.int (nI 0)], h, 198, sl) (14, [some (.int a), some (.int b)], [.int (nI 1)], h, 198, sl)) = some R := en_J (fun z1 => by
      have hh := en_t z1 hh
      have hh : pm_run PT n fr lo 164 (13, [some (.int a), some (.int b)], [], h, 198, sl) = some R := hh
      obtain ⟨n, hh⟩ := rn_i rfl rfl rfl rfl hh
      exact ⟨n, hh⟩) (fun z1 => by
      have hh := en_f z1 hh
      have hh : pm_run PT n fr lo 164 (9, [some (.int a), some (.int b)], [], h, 198, sl) = some R := hh
      obtain ⟨n, hh⟩ := rn_i rfl rfl rfl rfl hh
      obtain ⟨n, hh⟩ := rn_i rfl rfl rfl rfl hh
      exact ⟨n, hh⟩)
  obtain ⟨n, hh⟩ := hj2
  rw [show (cond (pm_cmp .ne ((shr a b) &&& (nI 1)) (nI 1)) (14, [some (.int a), some (.int b)], [.int (nI 0)], h, 198, sl) (14, [some (.int a), some (.int b)], [.int (nI 1)], h, 198, sl) : pm_St) = (14, [some (.int a), some (.int b)], [.int (cond (cond (pm_cmp .ne ((shr a b) &&& (nI 1)) (nI 1)) false true) 1 0)], h, 198, sl) from by cases (pm_cmp .ne ((shr a b) &&& (nI 1)) (nI 1)) <;> rfl] at hh
  have hh : pm_run PT n fr lo 164 (14, [some (.int a), some (.int b)], [.int (cond (cond (pm_cmp .ne ((shr a b) &&& (nI 1)) (nI 1)) false true) 1 0)], h, 198, sl) = some R := hh
  have er3 : R = (some (.int (cond (cond (pm_cmp .ne ((shr a b) &&& (nI 1)) (nI 1)) false true) 1 0)), h, 198, sl) := (rn_ret rfl (Or.inr rfl) hh).2
  have ed : v164 q cc gc a b = cond (pm_cmp .ne ((shr a b) &&& (nI 1)) (nI 1)) false true := rfl
  rw [ed]
  exact er3
def v74 (q : QT) (cc gc : Nat) (d0 : Int32) (g : Nat) : Bool := cond (pm_cmp .eq ((shr (d0) (nI g)) &&& (nI 1)) 0) false true
theorem v74_ok {n fr lo sl cc gc : Nat} {q : QT} {h : pm_H} {R : pm_Rs} {g : Nat} (hw : HC q cc gc h) (h_g : g < 10000) (hh : pm_run PT n fr lo 74 (0, pm_l0 [.ref 13, .int (nI g)] 2, [], h, 198, sl) = some R) : R = (some (.int (cond (v74 q cc gc (Fi h 13 5) g) 1 0)), h, 198, sl) := by
  have hcc := hw.cb
  have hgc := hw.gb
  have hzr := hw.zr
  obtain ⟨n, hh⟩ := rn_i rfl rfl rfl rfl hh
  have hh : pm_run PT n fr lo 74 (1, [some (.ref 13), some (.int (nI g))], [.ref 13], h, 198, sl) = some R := hh
  obtain ⟨n, hh⟩ := rn_gi (x := Fi h 13 5) hw.wt rfl rfl (by decide) rfl (by decide) rfl rfl hh
  obtain ⟨n, hh⟩ := rn_i rfl rfl rfl rfl hh
  obtain ⟨n, hh⟩ := rn_i rfl rfl rfl rfl hh
  obtain ⟨n, hh⟩ := rn_i rfl rfl rfl rfl hh
  obtain ⟨n, hh⟩ := rn_i rfl rfl rfl rfl hh
  have hh : pm_run PT n fr lo 74 (8, [some (.ref 13), some (.int (nI g))], [.int ((shr (Fi h 13 5) (nI g)) &&& (nI 1))], h, 198, sl) = some R := hh
  obtain ⟨n, hh⟩ := en_zn (cc := .eq) (off := 7) (t := 15) (b := pm_cmp .eq ((shr (Fi h 13 5) (nI g)) &&& (nI 1)) 0) rfl rfl rfl hh
  have hj2 : ∃ mJ, pm_run PT mJ fr lo 74 (cond (pm_cmp .eq ((shr (Fi h 13 5) (nI g)) &&& (nI 1)) 0) (16, [some (.ref 13), some (.int (nI g))], [.int (nI 0)], h, 198, sl) (16, [some (.ref 13), some (.int (nI g))], [.int (nI 1)], h, 198, sl)) = some R := en_J (fun z1 => by
      have hh := en_t z1 hh
      have hh : pm_run PT n fr lo 74 (15, [some (.ref 13), some (.int (nI g))], [], h, 198, sl) = some R := hh
      obtain ⟨n, hh⟩ := rn_i rfl rfl rfl rfl hh
      exact ⟨n, hh⟩) (fun z1 => by
      have hh := en_f z1 hh
      have hh : pm_run PT n fr lo 74 (11, [some (.ref 13), some (.int (nI g))], [], h, 198, sl) = some R := hh
      obtain ⟨n, hh⟩ := rn_i rfl rfl rfl rfl hh
      obtain ⟨n, hh⟩ := rn_i rfl rfl rfl rfl hh
      exact ⟨n, hh⟩)
  obtain ⟨n, hh⟩ := hj2
  rw [show (cond (pm_cmp .eq ((shr (Fi h 13 5) (nI g)) &&& (nI 1)) 0) (16, [some (.ref 13), some (.int (nI g))], [.int (nI 0)], h, 198, sl) (16, [some (.ref 13), some (.int (nI g))], [.int (nI 1)], h, 198, sl) : pm_St) = (16, [some (.ref 13), some (.int (nI g))], [.int (cond (cond (pm_cmp .eq ((shr (Fi h 13 5) (nI g)) &&& (nI 1)) 0) false true) 1 0)], h, 198, sl) from by cases (pm_cmp .eq ((shr (Fi h 13 5) (nI g)) &&& (nI 1)) 0) <;> rfl] at hh
  have hh : pm_run PT n fr lo 74 (16, [some (.ref 13), some (.int (nI g))], [.int (cond (cond (pm_cmp .eq ((shr (Fi h 13 5) (nI g)) &&& (nI 1)) 0) false true) 1 0)], h, 198, sl) = some R := hh
  have er3 : R = (some (.int (cond (cond (pm_cmp .eq ((shr (Fi h 13 5) (nI g)) &&& (nI 1)) 0) false true) 1 0)), h, 198, sl) := (rn_ret rfl (Or.inr rfl) hh).2
  have ed : v74 q cc gc (Fi h 13 5) g = cond (pm_cmp .eq ((shr (Fi h 13 5) (nI g)) &&& (nI 1)) 0) false true := rfl
  rw [ed]
  exact er3
def v75 (q : QT) (cc gc : Nat) (d0 : Nat → Int32) (g : Nat) (c : Nat) : Bool := cond (pm_cmp .eq ((shr ((d0) g) (nI c)) &&& (nI 1)) 0) false true
theorem v75_ok {n fr lo sl cc gc : Nat} {q : QT} {h : pm_H} {R : pm_Rs} {g : Nat} {c : Nat} (hw : HC q cc gc h) (h_g : g < 10000) (h_c : c < 10000) (hh : pm_run PT n fr lo 75 (0, pm_l0 [.ref 13, .int (nI g), .int (nI c)] 3, [], h, 198, sl) = some R) : R = (some (.int (cond (v75 q cc gc (Ar h 18) g c) 1 0)), h, 198, sl) := by
  have hcc := hw.cb
  have hgc := hw.gb
  have hzr := hw.zr
  obtain ⟨n, hh⟩ := rn_i rfl rfl rfl rfl hh
  have hh : pm_run PT n fr lo 75 (1, [some (.ref 13), some (.int (nI g)), some (.int (nI c))], [.ref 13], h, 198, sl) = some R := hh
  obtain ⟨n, hh⟩ := rn_gr hw.wt rfl rfl (by decide) rfl (by decide) (show _ = some (2, ((18 : Nat) : Int), 1) from rfl) rfl hh
  obtain ⟨n, hh⟩ := rn_i rfl rfl rfl rfl hh
  have hh : pm_run PT n fr lo 75 (5, [some (.ref 13), some (.int (nI g)), some (.int (nI c))], [.int (nI g), .ref 18], h, 198, sl) = some R := hh
  obtain ⟨n, hx1, hh⟩ := en_lu (t := g) (f := Ar h 18) (w := (Ar h 18) g) (nI_clamp (by omega)) hw.wt rfl (by decide) rfl (by decide) rfl (fun _ => rfl) hh
  obtain ⟨n, hh⟩ := rn_i rfl rfl rfl rfl hh
  obtain ⟨n, hh⟩ := rn_i rfl rfl rfl rfl hh
  obtain ⟨n, hh⟩ := rn_i rfl rfl rfl rfl hh
  obtain ⟨n, hh⟩ := rn_i rfl rfl rfl rfl hh
  have hh : pm_run PT n fr lo 75 (10, [some (.ref 13), some (.int (nI g)), some (.int (nI c))], [.int ((shr ((Ar h 18) g) (nI c)) &&& (nI 1))], h, 198, sl) = some R := hh
  obtain ⟨n, hh⟩ := en_zn (cc := .eq) (off := 7) (t := 17) (b := pm_cmp .eq ((shr ((Ar h 18) g) (nI c)) &&& (nI 1)) 0) rfl rfl rfl hh
  have hj3 : ∃ mJ, pm_run PT mJ fr lo 75 (cond (pm_cmp .eq ((shr ((Ar h 18) g) (nI c)) &&& (nI 1)) 0) (18, [some (.ref 13), some (.int (nI g)), some (.int (nI c))], [.int (nI 0)], h, 198, sl) (18, [some (.ref 13), some (.int (nI g)), some (.int (nI c))], [.int (nI 1)], h, 198, sl)) = some R := en_J (fun z2 => by
      have hh := en_t z2 hh
      have hh : pm_run PT n fr lo 75 (17, [some (.ref 13), some (.int (nI g)), some (.int (nI c))], [], h, 198, sl) = some R := hh
      obtain ⟨n, hh⟩ := rn_i rfl rfl rfl rfl hh
      exact ⟨n, hh⟩) (fun z2 => by
      have hh := en_f z2 hh
      have hh : pm_run PT n fr lo 75 (13, [some (.ref 13), some (.int (nI g)), some (.int (nI c))], [], h, 198, sl) = some R := hh
      obtain ⟨n, hh⟩ := rn_i rfl rfl rfl rfl hh
      obtain ⟨n, hh⟩ := rn_i rfl rfl rfl rfl hh
      exact ⟨n, hh⟩)
  obtain ⟨n, hh⟩ := hj3
  rw [show (cond (pm_cmp .eq ((shr ((Ar h 18) g) (nI c)) &&& (nI 1)) 0) (18, [some (.ref 13), some (.int (nI g)), some (.int (nI c))], [.int (nI 0)], h, 198, sl) (18, [some (.ref 13), some (.int (nI g)), some (.int (nI c))], [.int (nI 1)], h, 198, sl) : pm_St) = (18, [some (.ref 13), some (.int (nI g)), some (.int (nI c))], [.int (cond (cond (pm_cmp .eq ((shr ((Ar h 18) g) (nI c)) &&& (nI 1)) 0) false true) 1 0)], h, 198, sl) from by cases (pm_cmp .eq ((shr ((Ar h 18) g) (nI c)) &&& (nI 1)) 0) <;> rfl] at hh
  have hh : pm_run PT n fr lo 75 (18, [some (.ref 13), some (.int (nI g)), some (.int (nI c))], [.int (cond (cond (pm_cmp .eq ((shr ((Ar h 18) g) (nI c)) &&& (nI 1)) 0) false true) 1 0)], h, 198, sl) = some R := hh
  have er4 : R = (some (.int (cond (cond (pm_cmp .eq ((shr ((Ar h 18) g) (nI c)) &&& (nI 1)) 0) false true) 1 0)), h, 198, sl) := (rn_ret rfl (Or.inr rfl) hh).2
  have ed : v75 q cc gc (Ar h 18) g c = cond (pm_cmp .eq ((shr ((Ar h 18) g) (nI c)) &&& (nI 1)) 0) false true := rfl
  rw [ed]
  exact er4
theorem v74t_ok {n fr lo sl cc gc : Nat} {q : QT} {h : pm_H} {R : pm_Rs} {g : Nat} (hw : HC q cc gc h) (h_g : g < 10000) (hh : pm_run PT n fr lo 74 (0, pm_l0 [.ref 19, .int (nI g)] 2, [], h, 198, sl) = some R) : R = (some (.int (cond (v74 q cc gc (Fi h 19 5) g) 1 0)), h, 198, sl) := by
  have hcc := hw.cb
  have hgc := hw.gb
  have hzr := hw.zr
  obtain ⟨n, hh⟩ := rn_i rfl rfl rfl rfl hh
  have hh : pm_run PT n fr lo 74 (1, [some (.ref 19), some (.int (nI g))], [.ref 19], h, 198, sl) = some R := hh
  obtain ⟨n, hh⟩ := rn_gi (x := Fi h 19 5) hw.wt rfl rfl (by decide) rfl (by decide) rfl rfl hh
  obtain ⟨n, hh⟩ := rn_i rfl rfl rfl rfl hh
  obtain ⟨n, hh⟩ := rn_i rfl rfl rfl rfl hh
  obtain ⟨n, hh⟩ := rn_i rfl rfl rfl rfl hh
  obtain ⟨n, hh⟩ := rn_i rfl rfl rfl rfl hh
  have hh : pm_run PT n fr lo 74 (8, [some (.ref 19), some (.int (nI g))], [.int ((shr (Fi h 19 5) (nI g)) &&& (nI 1))], h, 198, sl) = some R := hh
  obtain ⟨n, hh⟩ := en_zn (cc := .eq) (off := 7) (t := 15) (b := pm_cmp .eq ((shr (Fi h 19 5) (nI g)) &&& (nI 1)) 0) rfl rfl rfl hh
  have hj2 : ∃ mJ, pm_run PT mJ fr lo 74 (cond (pm_cmp .eq ((shr (Fi h 19 5) (nI g)) &&& (nI 1)) 0) (16, [some (.ref 19), some (.int (nI g))], [.int (nI 0)], h, 198, sl) (16, [some (.ref 19), some (.int (nI g))], [.int (nI 1)], h, 198, sl)) = some R := en_J (fun z1 => by
      have hh := en_t z1 hh
      have hh : pm_run PT n fr lo 74 (15, [some (.ref 19), some (.int (nI g))], [], h, 198, sl) = some R := hh
      obtain ⟨n, hh⟩ := rn_i rfl rfl rfl rfl hh
      exact ⟨n, hh⟩) (fun z1 => by
      have hh := en_f z1 hh
      have hh : pm_run PT n fr lo 74 (11, [some (.ref 19), some (.int (nI g))], [], h, 198, sl) = some R := hh
      obtain ⟨n, hh⟩ := rn_i rfl rfl rfl rfl hh
      obtain ⟨n, hh⟩ := rn_i rfl rfl rfl rfl hh
      exact ⟨n, hh⟩)
  obtain ⟨n, hh⟩ := hj2
  rw [show (cond (pm_cmp .eq ((shr (Fi h 19 5) (nI g)) &&& (nI 1)) 0) (16, [some (.ref 19), some (.int (nI g))], [.int (nI 0)], h, 198, sl) (16, [some (.ref 19), some (.int (nI g))], [.int (nI 1)], h, 198, sl) : pm_St) = (16, [some (.ref 19), some (.int (nI g))], [.int (cond (cond (pm_cmp .eq ((shr (Fi h 19 5) (nI g)) &&& (nI 1)) 0) false true) 1 0)], h, 198, sl) from by cases (pm_cmp .eq ((shr (Fi h 19 5) (nI g)) &&& (nI 1)) 0) <;> rfl] at hh
  have hh : pm_run PT n fr lo 74 (16, [some (.ref 19), some (.int (nI g))], [.int (cond (cond (pm_cmp .eq ((shr (Fi h 19 5) (nI g)) &&& (nI 1)) 0) false true) 1 0)], h, 198, sl) = some R := hh
  have er3 : R = (some (.int (cond (cond (pm_cmp .eq ((shr (Fi h 19 5) (nI g)) &&& (nI 1)) 0) false true) 1 0)), h, 198, sl) := (rn_ret rfl (Or.inr rfl) hh).2
  have ed : v74 q cc gc (Fi h 19 5) g = cond (pm_cmp .eq ((shr (Fi h 19 5) (nI g)) &&& (nI 1)) 0) false true := rfl
  rw [ed]
  exact er3
theorem v75t_ok {n fr lo sl cc gc : Nat} {q : QT} {h : pm_H} {R : pm_Rs} {g : Nat} {c : Nat} (hw : HC q cc gc h) (h_g : g < 10000) (h_c : c < 10000) (hh : pm_run PT n fr lo 75 (0, pm_l0 [.ref 19, .int (nI g), .int (nI c)] 3, [], h, 198, sl) = some R) : R = (some (.int (cond (v75 q cc gc (Ar h 24) g c) 1 0)), h, 198, sl) := by
  have hcc := hw.cb
  have hgc := hw.gb
  have hzr := hw.zr
  obtain ⟨n, hh⟩ := rn_i rfl rfl rfl rfl hh
  have hh : pm_run PT n fr lo 75 (1, [some (.ref 19), some (.int (nI g)), some (.int (nI c))], [.ref 19], h, 198, sl) = some R := hh
  obtain ⟨n, hh⟩ := rn_gr hw.wt rfl rfl (by decide) rfl (by decide) (show _ = some (2, ((24 : Nat) : Int), 1) from rfl) rfl hh
  obtain ⟨n, hh⟩ := rn_i rfl rfl rfl rfl hh
  have hh : pm_run PT n fr lo 75 (5, [some (.ref 19), some (.int (nI g)), some (.int (nI c))], [.int (nI g), .ref 24], h, 198, sl) = some R := hh
  obtain ⟨n, hx1, hh⟩ := en_lu (t := g) (f := Ar h 24) (w := (Ar h 24) g) (nI_clamp (by omega)) hw.wt rfl (by decide) rfl (by decide) rfl (fun _ => rfl) hh
  obtain ⟨n, hh⟩ := rn_i rfl rfl rfl rfl hh
  obtain ⟨n, hh⟩ := rn_i rfl rfl rfl rfl hh
  obtain ⟨n, hh⟩ := rn_i rfl rfl rfl rfl hh
  obtain ⟨n, hh⟩ := rn_i rfl rfl rfl rfl hh
  have hh : pm_run PT n fr lo 75 (10, [some (.ref 19), some (.int (nI g)), some (.int (nI c))], [.int ((shr ((Ar h 24) g) (nI c)) &&& (nI 1))], h, 198, sl) = some R := hh
  obtain ⟨n, hh⟩ := en_zn (cc := .eq) (off := 7) (t := 17) (b := pm_cmp .eq ((shr ((Ar h 24) g) (nI c)) &&& (nI 1)) 0) rfl rfl rfl hh
  have hj3 : ∃ mJ, pm_run PT mJ fr lo 75 (cond (pm_cmp .eq ((shr ((Ar h 24) g) (nI c)) &&& (nI 1)) 0) (18, [some (.ref 19), some (.int (nI g)), some (.int (nI c))], [.int (nI 0)], h, 198, sl) (18, [some (.ref 19), some (.int (nI g)), some (.int (nI c))], [.int (nI 1)], h, 198, sl)) = some R := en_J (fun z2 => by
      have hh := en_t z2 hh
      have hh : pm_run PT n fr lo 75 (17, [some (.ref 19), some (.int (nI g)), some (.int (nI c))], [], h, 198, sl) = some R := hh
      obtain ⟨n, hh⟩ := rn_i rfl rfl rfl rfl hh
      exact ⟨n, hh⟩) (fun z2 => by
      have hh := en_f z2 hh
      have hh : pm_run PT n fr lo 75 (13, [some (.ref 19), some (.int (nI g)), some (.int (nI c))], [], h, 198, sl) = some R := hh
      obtain ⟨n, hh⟩ := rn_i rfl rfl rfl rfl hh
      obtain ⟨n, hh⟩ := rn_i rfl rfl rfl rfl hh
      exact ⟨n, hh⟩)
  obtain ⟨n, hh⟩ := hj3
  rw [show (cond (pm_cmp .eq ((shr ((Ar h 24) g) (nI c)) &&& (nI 1)) 0) (18, [some (.ref 19), some (.int (nI g)), some (.int (nI c))], [.int (nI 0)], h, 198, sl) (18, [some (.ref 19), some (.int (nI g)), some (.int (nI c))], [.int (nI 1)], h, 198, sl) : pm_St) = (18, [some (.ref 19), some (.int (nI g)), some (.int (nI c))], [.int (cond (cond (pm_cmp .eq ((shr ((Ar h 24) g) (nI c)) &&& (nI 1)) 0) false true) 1 0)], h, 198, sl) from by cases (pm_cmp .eq ((shr ((Ar h 24) g) (nI c)) &&& (nI 1)) 0) <;> rfl] at hh
  have hh : pm_run PT n fr lo 75 (18, [some (.ref 19), some (.int (nI g)), some (.int (nI c))], [.int (cond (cond (pm_cmp .eq ((shr ((Ar h 24) g) (nI c)) &&& (nI 1)) 0) false true) 1 0)], h, 198, sl) = some R := hh
  have er4 : R = (some (.int (cond (cond (pm_cmp .eq ((shr ((Ar h 24) g) (nI c)) &&& (nI 1)) 0) false true) 1 0)), h, 198, sl) := (rn_ret rfl (Or.inr rfl) hh).2
  have ed : v75 q cc gc (Ar h 24) g c = cond (pm_cmp .eq ((shr ((Ar h 24) g) (nI c)) &&& (nI 1)) 0) false true := rfl
  rw [ed]
  exact er4
def v28 (q : QT) (cc gc : Nat) (d0 : Nat → Int32) (c : Nat) (d : Nat) : Int32 := (d0) (c * 5 + d)
theorem v28_ok {n fr lo sl cc gc : Nat} {q : QT} {h : pm_H} {R : pm_Rs} {c : Nat} {d : Nat} (hw : HC q cc gc h) (h_c : c < 10000) (h_d : d < 10000) (hh : pm_run PT n fr lo 28 (0, pm_l0 [.ref 5, .int (nI c), .int (nI d)] 3, [], h, 198, sl) = some R) : R = (some (.int (v28 q cc gc (Ar h 7) c d)), h, 198, sl) := by
  have hcc := hw.cb
  have hgc := hw.gb
  have hzr := hw.zr
  obtain ⟨n, hh⟩ := rn_i rfl rfl rfl rfl hh
  have hh : pm_run PT n fr lo 28 (1, [some (.ref 5), some (.int (nI c)), some (.int (nI d))], [.ref 5], h, 198, sl) = some R := hh
  obtain ⟨n, hh⟩ := rn_gr hw.wt rfl rfl (by decide) rfl (by decide) (show _ = some (2, ((7 : Nat) : Int), 1) from rfl) rfl hh
  obtain ⟨n, hh⟩ := rn_i rfl rfl rfl rfl hh
  obtain ⟨n, hh⟩ := rn_i rfl rfl rfl rfl hh
  have hh : pm_run PT n fr lo 28 (6, [some (.ref 5), some (.int (nI c)), some (.int (nI d))], [.int (nI 5), .int (nI c), .ref 7], h, 198, sl) = some R := hh
  obtain ⟨n, hh⟩ := en_mul rfl hh
  have hh : pm_run PT n fr lo 28 (7, [some (.ref 5), some (.int (nI c)), some (.int (nI d))], [.int (nI (c * 5)), .ref 7], h, 198, sl) = some R := hh
  obtain ⟨n, hh⟩ := rn_i rfl rfl rfl rfl hh
  have hh : pm_run PT n fr lo 28 (8, [some (.ref 5), some (.int (nI c)), some (.int (nI d))], [.int (nI d), .int (nI (c * 5)), .ref 7], h, 198, sl) = some R := hh
  obtain ⟨n, hh⟩ := en_add rfl hh
  have hh : pm_run PT n fr lo 28 (9, [some (.ref 5), some (.int (nI c)), some (.int (nI d))], [.int (nI (c * 5 + d)), .ref 7], h, 198, sl) = some R := hh
  have hh : pm_run PT n fr lo 28 (9, [some (.ref 5), some (.int (nI c)), some (.int (nI d))], [.int (nI (c * 5 + d)), .ref 7], h, 198, sl) = some R := hh
  obtain ⟨n, hx1, hh⟩ := en_lu (t := c * 5 + d) (f := Ar h 7) (w := (Ar h 7) (c * 5 + d)) (nI_clamp (by omega)) hw.wt rfl (by decide) rfl (by decide) rfl (fun _ => rfl) hh
  have hh : pm_run PT n fr lo 28 (10, [some (.ref 5), some (.int (nI c)), some (.int (nI d))], [.int ((Ar h 7) (c * 5 + d))], h, 198, sl) = some R := hh
  have er2 : R = (some (.int ((Ar h 7) (c * 5 + d))), h, 198, sl) := (rn_ret rfl (Or.inl rfl) hh).2
  have ed : v28 q cc gc (Ar h 7) c d = (Ar h 7) (c * 5 + d) := rfl
  rw [ed]
  exact er2
def v29_5b (q : QT) (cc gc : Nat) (d0 : Nat → Int32) (m2 : Nat) (i : Nat) (x3 : Int32) : Int32 := cond (pm_cmp .ne ((d0) i) (nI m2)) x3 (x3 ||| (shl (nI 1) (nI i)))
def v29_5 (q : QT) (cc gc : Nat) (d0 : Nat → Int32) (m2 : Nat) (j i : Nat) (a : Int32) : Int32 := lp (fun i a => v29_5b q cc gc d0 m2 i a) j i a
theorem v29_5_e {n fr lo sl cc gc : Nat} {q : QT} {h : pm_H} {R : pm_Rs} {m2 : Nat} {i : Nat} {x3 : Int32} (hw : HC q cc gc h) (h_m2 : m2 < 10000) (hi : gc ≤ i) (hI : i < 1000000) (hh : pm_run PT n fr lo 29 (5, [some (.ref 5), some (.ref 13), some (.int (nI m2)), some (.int x3), some (.int (nI i))], [], h, 198, sl) = some R) : ∃ m, pm_run PT m fr lo 29 (38, [some (.ref 5), some (.ref 13), some (.int (nI m2)), some (.int x3), some (.int (nI i))], [], h, 198, sl) = some R := by
  have hcc := hw.cb
  have hgc := hw.gb
  have hzr := hw.zr
  obtain ⟨n, hh⟩ := rn_i rfl rfl rfl rfl hh
  obtain ⟨n, hh⟩ := rn_i rfl rfl rfl rfl hh
  have hh : pm_run PT n fr lo 29 (8, [some (.ref 5), some (.ref 13), some (.int (nI m2)), some (.int x3), some (.int (nI i))], [.ref 5, .int (nI i)], h, 198, sl) = some R := hh
  obtain ⟨n, hh⟩ := rn_gi (x := nI gc) hw.wt rfl rfl (by decide) rfl (by decide) rfl hw.x1 hh
  have hh : pm_run PT n fr lo 29 (11, [some (.ref 5), some (.ref 13), some (.int (nI m2)), some (.int x3), some (.int (nI i))], [.int (nI gc), .int (nI i)], h, 198, sl) = some R := hh
  obtain ⟨n, hh⟩ := en_cn (cc := .ge) (off := 27) (t := 38) (b := decide (gc ≤ i)) (hI_ge (by omega) (by omega)) rfl rfl hh
  have hh := en_t (show decide (gc ≤ i) = true from decide_eq_true (by omega)) hh
  have hh : pm_run PT n fr lo 29 (38, [some (.ref 5), some (.ref 13), some (.int (nI m2)), some (.int x3), some (.int (nI i))], [], h, 198, sl) = some R := hh
  exact ⟨n, hh⟩
theorem v29_5_s {n fr lo sl cc gc : Nat} {q : QT} {h : pm_H} {R : pm_Rs} {m2 : Nat} {i : Nat} {x3 : Int32} (hw : HC q cc gc h) (h_m2 : m2 < 10000) (hi : i < gc) (hI : i < 1000000) (hh : pm_run PT n fr lo 29 (5, [some (.ref 5), some (.ref 13), some (.int (nI m2)), some (.int x3), some (.int (nI i))], [], h, 198, sl) = some R) : ∃ m, pm_run PT m fr lo 29 (5, [some (.ref 5), some (.ref 13), some (.int (nI m2)), some (.int (v29_5b q cc gc (Ar h 17) m2 i x3)), some (.int (nI (i + 1)))], [], h, 198, sl) = some R := by
  have hcc := hw.cb
  have hgc := hw.gb
  have hzr := hw.zr
  obtain ⟨n, hh⟩ := rn_i rfl rfl rfl rfl hh
  obtain ⟨n, hh⟩ := rn_i rfl rfl rfl rfl hh
  have hh : pm_run PT n fr lo 29 (8, [some (.ref 5), some (.ref 13), some (.int (nI m2)), some (.int x3), some (.int (nI i))], [.ref 5, .int (nI i)], h, 198, sl) = some R := hh
  obtain ⟨n, hh⟩ := rn_gi (x := nI gc) hw.wt rfl rfl (by decide) rfl (by decide) rfl hw.x1 hh
  have hh : pm_run PT n fr lo 29 (11, [some (.ref 5), some (.ref 13), some (.int (nI m2)), some (.int x3), some (.int (nI i))], [.int (nI gc), .int (nI i)], h, 198, sl) = some R := hh
  obtain ⟨n, hh⟩ := en_cn (cc := .ge) (off := 27) (t := 38) (b := decide (gc ≤ i)) (hI_ge (by omega) (by omega)) rfl rfl hh
  have hh := en_f (show decide (gc ≤ i) = false from decide_eq_false (by omega)) hh
  have hh : pm_run PT n fr lo 29 (14, [some (.ref 5), some (.ref 13), some (.int (nI m2)), some (.int x3), some (.int (nI i))], [], h, 198, sl) = some R := hh
  obtain ⟨n, hh⟩ := rn_i rfl rfl rfl rfl hh
  have hh : pm_run PT n fr lo 29 (15, [some (.ref 5), some (.ref 13), some (.int (nI m2)), some (.int x3), some (.int (nI i))], [.ref 13], h, 198, sl) = some R := hh
  obtain ⟨n, hh⟩ := rn_gr hw.wt rfl rfl (by decide) rfl (by decide) (show _ = some (2, ((17 : Nat) : Int), 1) from rfl) rfl hh
  obtain ⟨n, hh⟩ := rn_i rfl rfl rfl rfl hh
  have hh : pm_run PT n fr lo 29 (20, [some (.ref 5), some (.ref 13), some (.int (nI m2)), some (.int x3), some (.int (nI i))], [.int (nI i), .ref 17], h, 198, sl) = some R := hh
  obtain ⟨n, hx1, hh⟩ := en_lu (t := i) (f := Ar h 17) (w := (Ar h 17) i) (nI_clamp (by omega)) hw.wt rfl (by decide) rfl (by decide) rfl (fun _ => rfl) hh
  obtain ⟨n, hh⟩ := rn_i rfl rfl rfl rfl hh
  have hh : pm_run PT n fr lo 29 (22, [some (.ref 5), some (.ref 13), some (.int (nI m2)), some (.int x3), some (.int (nI i))], [.int (nI m2), .int ((Ar h 17) i)], h, 198, sl) = some R := hh
  obtain ⟨n, hh⟩ := en_cn (cc := .ne) (off := 10) (t := 32) (b := pm_cmp .ne ((Ar h 17) i) (nI m2)) rfl rfl rfl hh
  have hj3 : ∃ mJ, pm_run PT mJ fr lo 29 (cond (pm_cmp .ne ((Ar h 17) i) (nI m2)) (32, [some (.ref 5), some (.ref 13), some (.int (nI m2)), some (.int x3), some (.int (nI i))], [], h, 198, sl) (32, [some (.ref 5), some (.ref 13), some (.int (nI m2)), some (.int (x3 ||| (shl (nI 1) (nI i)))), some (.int (nI i))], [], h, 198, sl)) = some R := en_J (fun z2 => by
      have hh := en_t z2 hh
      have hh : pm_run PT n fr lo 29 (32, [some (.ref 5), some (.ref 13), some (.int (nI m2)), some (.int x3), some (.int (nI i))], [], h, 198, sl) = some R := hh
      exact ⟨n, hh⟩) (fun z2 => by
      have hh := en_f z2 hh
      have hh : pm_run PT n fr lo 29 (25, [some (.ref 5), some (.ref 13), some (.int (nI m2)), some (.int x3), some (.int (nI i))], [], h, 198, sl) = some R := hh
      obtain ⟨n, hh⟩ := rn_i rfl rfl rfl rfl hh
      obtain ⟨n, hh⟩ := rn_i rfl rfl rfl rfl hh
      obtain ⟨n, hh⟩ := rn_i rfl rfl rfl rfl hh
      obtain ⟨n, hh⟩ := rn_i rfl rfl rfl rfl hh
      obtain ⟨n, hh⟩ := rn_i rfl rfl rfl rfl hh
      obtain ⟨n, hh⟩ := rn_i rfl rfl rfl rfl hh
      exact ⟨n, hh⟩)
  obtain ⟨n, hh⟩ := hj3
  rw [show (cond (pm_cmp .ne ((Ar h 17) i) (nI m2)) (32, [some (.ref 5), some (.ref 13), some (.int (nI m2)), some (.int x3), some (.int (nI i))], [], h, 198, sl) (32, [some (.ref 5), some (.ref 13), some (.int (nI m2)), some (.int (x3 ||| (shl (nI 1) (nI i)))), some (.int (nI i))], [], h, 198, sl) : pm_St) = (32, [some (.ref 5), some (.ref 13), some (.int (nI m2)), some (.int (cond (pm_cmp .ne ((Ar h 17) i) (nI m2)) x3 (x3 ||| (shl (nI 1) (nI i))))), some (.int (nI i))], [], h, 198, sl) from by cases (pm_cmp .ne ((Ar h 17) i) (nI m2)) <;> rfl] at hh
  have hh : pm_run PT n fr lo 29 (32, [some (.ref 5), some (.ref 13), some (.int (nI m2)), some (.int (cond (pm_cmp .ne ((Ar h 17) i) (nI m2)) x3 (x3 ||| (shl (nI 1) (nI i))))), some (.int (nI i))], [], h, 198, sl) = some R := hh
  obtain ⟨n, hh⟩ := en_inc (x := i) (c := 1) (j := 4) rfl rfl (by decide) hh
  have hh : pm_run PT n fr lo 29 (35, [some (.ref 5), some (.ref 13), some (.int (nI m2)), some (.int (cond (pm_cmp .ne ((Ar h 17) i) (nI m2)) x3 (x3 ||| (shl (nI 1) (nI i))))), some (.int (nI (i + 1)))], [], h, 198, sl) = some R := hh
  obtain ⟨n, hh⟩ := rn_i rfl rfl rfl rfl hh
  have ed : v29_5b q cc gc (Ar h 17) m2 i x3 = cond (pm_cmp .ne ((Ar h 17) i) (nI m2)) x3 (x3 ||| (shl (nI 1) (nI i))) := rfl
  rw [ed]
  exact ⟨n, hh⟩
theorem v29_5_ok {fr lo sl cc gc : Nat} {q : QT} {R : pm_Rs} {m2 : Nat} : ∀ {j i : Nat} {x3 : Int32} {h : pm_H} {n : Nat}, gc - i = j → i + j < 1000000 → HC q cc gc h → m2 < 10000 → pm_run PT n fr lo 29 (5, [some (.ref 5), some (.ref 13), some (.int (nI m2)), some (.int x3), some (.int (nI i))], [], h, 198, sl) = some R → ∃ m wc, pm_run PT m fr lo 29 (38, [some (.ref 5), some (.ref 13), some (.int (nI m2)), some (.int (v29_5 q cc gc (Ar h 17) m2 j i x3)), wc], [], h, 198, sl) = some R := by
  intro j
  induction j with
  | zero =>
    intro i x3 h n e eI hw h_m2 hh
    obtain ⟨n, hh⟩ := v29_5_e hw h_m2 (by omega) (by omega) hh
    exact ⟨n, _, hh⟩
  | succ j ih =>
    intro i x3 h n e eI hw h_m2 hh
    obtain ⟨n, hh⟩ := v29_5_s hw h_m2 (by omega) (by omega) hh
    obtain ⟨n, wc, hh⟩ := ih (by omega) (by omega) hw h_m2 hh
    exact ⟨n, wc, hh⟩
def v29 (q : QT) (cc gc : Nat) (d0 : Nat → Int32) (c : Nat) : Int32 := (v29_5 q cc gc (d0) c gc 0 (nI 0))
theorem v29_ok {n fr lo sl cc gc : Nat} {q : QT} {h : pm_H} {R : pm_Rs} {c : Nat} (hw : HC q cc gc h) (h_c : c < 10000) (hh : pm_run PT n fr lo 29 (0, pm_l0 [.ref 5, .ref 13, .int (nI c)] 5, [], h, 198, sl) = some R) : R = (some (.int (v29 q cc gc (Ar h 17) c)), h, 198, sl) := by
  have hcc := hw.cb
  have hgc := hw.gb
  have hzr := hw.zr
  obtain ⟨n, hh⟩ := rn_i rfl rfl rfl rfl hh
  obtain ⟨n, hh⟩ := rn_i rfl rfl rfl rfl hh
  obtain ⟨n, hh⟩ := rn_i rfl rfl rfl rfl hh
  obtain ⟨n, hh⟩ := rn_i rfl rfl rfl rfl hh
  have hh : pm_run PT n fr lo 29 (5, [some (.ref 5), some (.ref 13), some (.int (nI c)), some (.int (nI 0)), some (.int (nI 0))], [], h, 198, sl) = some R := hh
  obtain ⟨n, u1, hh⟩ := v29_5_ok (m2 := c)  (i := 0) (x3 := (nI 0)) (j := gc) (by omega) (by omega) hw (by omega) hh
  have hh : pm_run PT n fr lo 29 (38, [some (.ref 5), some (.ref 13), some (.int (nI c)), some (.int (v29_5 q cc gc (Ar h 17) c gc 0 (nI 0))), u1], [], h, 198, sl) = some R := hh
  obtain ⟨n, hh⟩ := rn_i rfl rfl rfl rfl hh
  have hh : pm_run PT n fr lo 29 (39, [some (.ref 5), some (.ref 13), some (.int (nI c)), some (.int (v29_5 q cc gc (Ar h 17) c gc 0 (nI 0))), u1], [.int (v29_5 q cc gc (Ar h 17) c gc 0 (nI 0))], h, 198, sl) = some R := hh
  have er2 : R = (some (.int (v29_5 q cc gc (Ar h 17) c gc 0 (nI 0))), h, 198, sl) := (rn_ret rfl (Or.inl rfl) hh).2
  have ed : v29 q cc gc (Ar h 17) c = (v29_5 q cc gc (Ar h 17) c gc 0 (nI 0)) := rfl
  rw [ed]
  exact er2
def v30_5b (q : QT) (cc gc : Nat) (d0 : Nat → Int32) (m2 : Nat) (i : Nat) (x3 : Int32) : Int32 := cond (v75 q cc gc (d0) i m2) (x3 ||| (shl (nI 1) (nI i))) x3
def v30_5 (q : QT) (cc gc : Nat) (d0 : Nat → Int32) (m2 : Nat) (j i : Nat) (a : Int32) : Int32 := lp (fun i a => v30_5b q cc gc d0 m2 i a) j i a
theorem v30_5_e {n fr lo sl cc gc : Nat} {q : QT} {h : pm_H} {R : pm_Rs} {m2 : Nat} {i : Nat} {x3 : Int32} (hw : HC q cc gc h) (h_m2 : m2 < 10000) (hi : gc ≤ i) (hI : i < 1000000) (hh : pm_run PT n fr lo 30 (5, [some (.ref 5), some (.ref 13), some (.int (nI m2)), some (.int x3), some (.int (nI i))], [], h, 198, sl) = some R) : ∃ m, pm_run PT m fr lo 30 (37, [some (.ref 5), some (.ref 13), some (.int (nI m2)), some (.int x3), some (.int (nI i))], [], h, 198, sl) = some R := by
  have hcc := hw.cb
  have hgc := hw.gb
  have hzr := hw.zr
  obtain ⟨n, hh⟩ := rn_i rfl rfl rfl rfl hh
  obtain ⟨n, hh⟩ := rn_i rfl rfl rfl rfl hh
  have hh : pm_run PT n fr lo 30 (8, [some (.ref 5), some (.ref 13), some (.int (nI m2)), some (.int x3), some (.int (nI i))], [.ref 5, .int (nI i)], h, 198, sl) = some R := hh
  obtain ⟨n, hh⟩ := rn_gi (x := nI gc) hw.wt rfl rfl (by decide) rfl (by decide) rfl hw.x1 hh
  have hh : pm_run PT n fr lo 30 (11, [some (.ref 5), some (.ref 13), some (.int (nI m2)), some (.int x3), some (.int (nI i))], [.int (nI gc), .int (nI i)], h, 198, sl) = some R := hh
  obtain ⟨n, hh⟩ := en_cn (cc := .ge) (off := 26) (t := 37) (b := decide (gc ≤ i)) (hI_ge (by omega) (by omega)) rfl rfl hh
  have hh := en_t (show decide (gc ≤ i) = true from decide_eq_true (by omega)) hh
  have hh : pm_run PT n fr lo 30 (37, [some (.ref 5), some (.ref 13), some (.int (nI m2)), some (.int x3), some (.int (nI i))], [], h, 198, sl) = some R := hh
  exact ⟨n, hh⟩
theorem v30_5_s {n fr lo sl cc gc : Nat} {q : QT} {h : pm_H} {R : pm_Rs} {m2 : Nat} {i : Nat} {x3 : Int32} (hw : HC q cc gc h) (h_m2 : m2 < 10000) (hi : i < gc) (hI : i < 1000000) (hh : pm_run PT n fr lo 30 (5, [some (.ref 5), some (.ref 13), some (.int (nI m2)), some (.int x3), some (.int (nI i))], [], h, 198, sl) = some R) : ∃ m, pm_run PT m fr lo 30 (5, [some (.ref 5), some (.ref 13), some (.int (nI m2)), some (.int (v30_5b q cc gc (Ar h 18) m2 i x3)), some (.int (nI (i + 1)))], [], h, 198, sl) = some R := by
  have hcc := hw.cb
  have hgc := hw.gb
  have hzr := hw.zr
  obtain ⟨n, hh⟩ := rn_i rfl rfl rfl rfl hh
  obtain ⟨n, hh⟩ := rn_i rfl rfl rfl rfl hh
  have hh : pm_run PT n fr lo 30 (8, [some (.ref 5), some (.ref 13), some (.int (nI m2)), some (.int x3), some (.int (nI i))], [.ref 5, .int (nI i)], h, 198, sl) = some R := hh
  obtain ⟨n, hh⟩ := rn_gi (x := nI gc) hw.wt rfl rfl (by decide) rfl (by decide) rfl hw.x1 hh
  have hh : pm_run PT n fr lo 30 (11, [some (.ref 5), some (.ref 13), some (.int (nI m2)), some (.int x3), some (.int (nI i))], [.int (nI gc), .int (nI i)], h, 198, sl) = some R := hh
  obtain ⟨n, hh⟩ := en_cn (cc := .ge) (off := 26) (t := 37) (b := decide (gc ≤ i)) (hI_ge (by omega) (by omega)) rfl rfl hh
  have hh := en_f (show decide (gc ≤ i) = false from decide_eq_false (by omega)) hh
  have hh : pm_run PT n fr lo 30 (14, [some (.ref 5), some (.ref 13), some (.int (nI m2)), some (.int x3), some (.int (nI i))], [], h, 198, sl) = some R := hh
  obtain ⟨n, hh⟩ := rn_i rfl rfl rfl rfl hh
  obtain ⟨n, hh⟩ := rn_i rfl rfl rfl rfl hh
  obtain ⟨n, hh⟩ := rn_i rfl rfl rfl rfl hh
  have hh : pm_run PT n fr lo 30 (18, [some (.ref 5), some (.ref 13), some (.int (nI m2)), some (.int x3), some (.int (nI i))], [.int (nI m2), .int (nI i), .ref 13], h, 198, sl) = some R := hh
  obtain ⟨n, fr1, lo1, r1, hh1, hh⟩ := rn_call (w := 0) (t := 75) rfl rfl hh
  have er1 := v75_ok (g := i) (c := m2) hw (by omega) (by omega) hh1
  subst er1
  have hh : pm_run PT n fr lo 30 (21, [some (.ref 5), some (.ref 13), some (.int (nI m2)), some (.int x3), some (.int (nI i))], [.int (cond (v75 q cc gc (Ar h 18) i m2) 1 0)], h, 198, sl) = some R := hh
  obtain ⟨n, hh⟩ := en_zn (cc := .eq) (off := 10) (t := 31) (b := !(v75 q cc gc (Ar h 18) i m2)) eb_eq rfl rfl hh
  have hj3 : ∃ mJ, pm_run PT mJ fr lo 30 (cond (v75 q cc gc (Ar h 18) i m2) (31, [some (.ref 5), some (.ref 13), some (.int (nI m2)), some (.int (x3 ||| (shl (nI 1) (nI i)))), some (.int (nI i))], [], h, 198, sl) (31, [some (.ref 5), some (.ref 13), some (.int (nI m2)), some (.int x3), some (.int (nI i))], [], h, 198, sl)) = some R := en_J (fun z2 => by
      have hh := en_nt z2 hh
      have hh : pm_run PT n fr lo 30 (24, [some (.ref 5), some (.ref 13), some (.int (nI m2)), some (.int x3), some (.int (nI i))], [], h, 198, sl) = some R := hh
      obtain ⟨n, hh⟩ := rn_i rfl rfl rfl rfl hh
      obtain ⟨n, hh⟩ := rn_i rfl rfl rfl rfl hh
      obtain ⟨n, hh⟩ := rn_i rfl rfl rfl rfl hh
      obtain ⟨n, hh⟩ := rn_i rfl rfl rfl rfl hh
      obtain ⟨n, hh⟩ := rn_i rfl rfl rfl rfl hh
      obtain ⟨n, hh⟩ := rn_i rfl rfl rfl rfl hh
      exact ⟨n, hh⟩) (fun z2 => by
      have hh := en_nf z2 hh
      have hh : pm_run PT n fr lo 30 (31, [some (.ref 5), some (.ref 13), some (.int (nI m2)), some (.int x3), some (.int (nI i))], [], h, 198, sl) = some R := hh
      exact ⟨n, hh⟩)
  obtain ⟨n, hh⟩ := hj3
  rw [show (cond (v75 q cc gc (Ar h 18) i m2) (31, [some (.ref 5), some (.ref 13), some (.int (nI m2)), some (.int (x3 ||| (shl (nI 1) (nI i)))), some (.int (nI i))], [], h, 198, sl) (31, [some (.ref 5), some (.ref 13), some (.int (nI m2)), some (.int x3), some (.int (nI i))], [], h, 198, sl) : pm_St) = (31, [some (.ref 5), some (.ref 13), some (.int (nI m2)), some (.int (cond (v75 q cc gc (Ar h 18) i m2) (x3 ||| (shl (nI 1) (nI i))) x3)), some (.int (nI i))], [], h, 198, sl) from by cases (v75 q cc gc (Ar h 18) i m2) <;> rfl] at hh
  have hh : pm_run PT n fr lo 30 (31, [some (.ref 5), some (.ref 13), some (.int (nI m2)), some (.int (cond (v75 q cc gc (Ar h 18) i m2) (x3 ||| (shl (nI 1) (nI i))) x3)), some (.int (nI i))], [], h, 198, sl) = some R := hh
  obtain ⟨n, hh⟩ := en_inc (x := i) (c := 1) (j := 4) rfl rfl (by decide) hh
  have hh : pm_run PT n fr lo 30 (34, [some (.ref 5), some (.ref 13), some (.int (nI m2)), some (.int (cond (v75 q cc gc (Ar h 18) i m2) (x3 ||| (shl (nI 1) (nI i))) x3)), some (.int (nI (i + 1)))], [], h, 198, sl) = some R := hh
  obtain ⟨n, hh⟩ := rn_i rfl rfl rfl rfl hh
  have ed : v30_5b q cc gc (Ar h 18) m2 i x3 = cond (v75 q cc gc (Ar h 18) i m2) (x3 ||| (shl (nI 1) (nI i))) x3 := rfl
  rw [ed]
  exact ⟨n, hh⟩
theorem v30_5_ok {fr lo sl cc gc : Nat} {q : QT} {R : pm_Rs} {m2 : Nat} : ∀ {j i : Nat} {x3 : Int32} {h : pm_H} {n : Nat}, gc - i = j → i + j < 1000000 → HC q cc gc h → m2 < 10000 → pm_run PT n fr lo 30 (5, [some (.ref 5), some (.ref 13), some (.int (nI m2)), some (.int x3), some (.int (nI i))], [], h, 198, sl) = some R → ∃ m wc, pm_run PT m fr lo 30 (37, [some (.ref 5), some (.ref 13), some (.int (nI m2)), some (.int (v30_5 q cc gc (Ar h 18) m2 j i x3)), wc], [], h, 198, sl) = some R := by
  intro j
  induction j with
  | zero =>
    intro i x3 h n e eI hw h_m2 hh
    obtain ⟨n, hh⟩ := v30_5_e hw h_m2 (by omega) (by omega) hh
    exact ⟨n, _, hh⟩
  | succ j ih =>
    intro i x3 h n e eI hw h_m2 hh
    obtain ⟨n, hh⟩ := v30_5_s hw h_m2 (by omega) (by omega) hh
    obtain ⟨n, wc, hh⟩ := ih (by omega) (by omega) hw h_m2 hh
    exact ⟨n, wc, hh⟩
def v30 (q : QT) (cc gc : Nat) (d0 : Nat → Int32) (c : Nat) : Int32 := (v30_5 q cc gc (d0) c gc 0 (nI 0))
theorem v30_ok {n fr lo sl cc gc : Nat} {q : QT} {h : pm_H} {R : pm_Rs} {c : Nat} (hw : HC q cc gc h) (h_c : c < 10000) (hh : pm_run PT n fr lo 30 (0, pm_l0 [.ref 5, .ref 13, .int (nI c)] 5, [], h, 198, sl) = some R) : R = (some (.int (v30 q cc gc (Ar h 18) c)), h, 198, sl) := by
  have hcc := hw.cb
  have hgc := hw.gb
  have hzr := hw.zr
  obtain ⟨n, hh⟩ := rn_i rfl rfl rfl rfl hh
  obtain ⟨n, hh⟩ := rn_i rfl rfl rfl rfl hh
  obtain ⟨n, hh⟩ := rn_i rfl rfl rfl rfl hh
  obtain ⟨n, hh⟩ := rn_i rfl rfl rfl rfl hh
  have hh : pm_run PT n fr lo 30 (5, [some (.ref 5), some (.ref 13), some (.int (nI c)), some (.int (nI 0)), some (.int (nI 0))], [], h, 198, sl) = some R := hh
  obtain ⟨n, u1, hh⟩ := v30_5_ok (m2 := c)  (i := 0) (x3 := (nI 0)) (j := gc) (by omega) (by omega) hw (by omega) hh
  have hh : pm_run PT n fr lo 30 (37, [some (.ref 5), some (.ref 13), some (.int (nI c)), some (.int (v30_5 q cc gc (Ar h 18) c gc 0 (nI 0))), u1], [], h, 198, sl) = some R := hh
  obtain ⟨n, hh⟩ := rn_i rfl rfl rfl rfl hh
  have hh : pm_run PT n fr lo 30 (38, [some (.ref 5), some (.ref 13), some (.int (nI c)), some (.int (v30_5 q cc gc (Ar h 18) c gc 0 (nI 0))), u1], [.int (v30_5 q cc gc (Ar h 18) c gc 0 (nI 0))], h, 198, sl) = some R := hh
  have er2 : R = (some (.int (v30_5 q cc gc (Ar h 18) c gc 0 (nI 0))), h, 198, sl) := (rn_ret rfl (Or.inl rfl) hh).2
  have ed : v30 q cc gc (Ar h 18) c = (v30_5 q cc gc (Ar h 18) c gc 0 (nI 0)) := rfl
  rw [ed]
  exact er2
def v31_5b (q : QT) (cc gc : Nat) (d0 : Nat → Int32) (m2 : Nat) (i : Nat) (x3 : Int32) : Int32 := cond (decide (i = m2)) x3 (cond (cond (pm_cmp .lt ((d0) (m2 * 6 + i)) (nI 15)) false (cond (pm_cmp .lt ((d0) (i * 6 + m2)) (nI 15)) false true)) (x3 ||| (shl (nI 1) (nI i))) x3)
def v31_5 (q : QT) (cc gc : Nat) (d0 : Nat → Int32) (m2 : Nat) (j i : Nat) (a : Int32) : Int32 := lp (fun i a => v31_5b q cc gc d0 m2 i a) j i a
theorem v31_5_e {n fr lo sl cc gc : Nat} {q : QT} {h : pm_H} {R : pm_Rs} {m2 : Nat} {i : Nat} {x3 : Int32} {o5 : Option Value} (hw : HC q cc gc h) (h_m2 : m2 < 10000) (hi : cc ≤ i) (hI : i < 1000000) (hh : pm_run PT n fr lo 31 (5, [some (.ref 5), some (.ref 13), some (.int (nI m2)), some (.int x3), some (.int (nI i)), o5], [], h, 198, sl) = some R) : ∃ m, pm_run PT m fr lo 31 (77, [some (.ref 5), some (.ref 13), some (.int (nI m2)), some (.int x3), some (.int (nI i)), o5], [], h, 198, sl) = some R := by
  have hcc := hw.cb
  have hgc := hw.gb
  have hzr := hw.zr
  obtain ⟨n, hh⟩ := rn_i rfl rfl rfl rfl hh
  obtain ⟨n, hh⟩ := rn_i rfl rfl rfl rfl hh
  have hh : pm_run PT n fr lo 31 (8, [some (.ref 5), some (.ref 13), some (.int (nI m2)), some (.int x3), some (.int (nI i)), o5], [.ref 5, .int (nI i)], h, 198, sl) = some R := hh
  obtain ⟨n, hh⟩ := rn_gi (x := nI cc) hw.wt rfl rfl (by decide) rfl (by decide) rfl hw.x0 hh
  have hh : pm_run PT n fr lo 31 (11, [some (.ref 5), some (.ref 13), some (.int (nI m2)), some (.int x3), some (.int (nI i)), o5], [.int (nI cc), .int (nI i)], h, 198, sl) = some R := hh
  obtain ⟨n, hh⟩ := en_cn (cc := .ge) (off := 66) (t := 77) (b := decide (cc ≤ i)) (hI_ge (by omega) (by omega)) rfl rfl hh
  have hh := en_t (show decide (cc ≤ i) = true from decide_eq_true (by omega)) hh
  have hh : pm_run PT n fr lo 31 (77, [some (.ref 5), some (.ref 13), some (.int (nI m2)), some (.int x3), some (.int (nI i)), o5], [], h, 198, sl) = some R := hh
  exact ⟨n, hh⟩
theorem v31_5_s {n fr lo sl cc gc : Nat} {q : QT} {h : pm_H} {R : pm_Rs} {m2 : Nat} {i : Nat} {x3 : Int32} {o5 : Option Value} (hw : HC q cc gc h) (h_m2 : m2 < 10000) (hi : i < cc) (hI : i < 1000000) (hh : pm_run PT n fr lo 31 (5, [some (.ref 5), some (.ref 13), some (.int (nI m2)), some (.int x3), some (.int (nI i)), o5], [], h, 198, sl) = some R) : ∃ m w5, pm_run PT m fr lo 31 (5, [some (.ref 5), some (.ref 13), some (.int (nI m2)), some (.int (v31_5b q cc gc (Ar h 15) m2 i x3)), some (.int (nI (i + 1))), w5], [], h, 198, sl) = some R := by
  have hcc := hw.cb
  have hgc := hw.gb
  have hzr := hw.zr
  obtain ⟨n, hh⟩ := rn_i rfl rfl rfl rfl hh
  obtain ⟨n, hh⟩ := rn_i rfl rfl rfl rfl hh
  have hh : pm_run PT n fr lo 31 (8, [some (.ref 5), some (.ref 13), some (.int (nI m2)), some (.int x3), some (.int (nI i)), o5], [.ref 5, .int (nI i)], h, 198, sl) = some R := hh
  obtain ⟨n, hh⟩ := rn_gi (x := nI cc) hw.wt rfl rfl (by decide) rfl (by decide) rfl hw.x0 hh
  have hh : pm_run PT n fr lo 31 (11, [some (.ref 5), some (.ref 13), some (.int (nI m2)), some (.int x3), some (.int (nI i)), o5], [.int (nI cc), .int (nI i)], h, 198, sl) = some R := hh
  obtain ⟨n, hh⟩ := en_cn (cc := .ge) (off := 66) (t := 77) (b := decide (cc ≤ i)) (hI_ge (by omega) (by omega)) rfl rfl hh
  have hh := en_f (show decide (cc ≤ i) = false from decide_eq_false (by omega)) hh
  have hh : pm_run PT n fr lo 31 (14, [some (.ref 5), some (.ref 13), some (.int (nI m2)), some (.int x3), some (.int (nI i)), o5], [], h, 198, sl) = some R := hh
  obtain ⟨n, hh⟩ := rn_i rfl rfl rfl rfl hh
  have hh : pm_run PT n fr lo 31 (15, [some (.ref 5), some (.ref 13), some (.int (nI m2)), some (.int x3), some (.int (nI i)), o5], [.ref 13], h, 198, sl) = some R := hh
  obtain ⟨n, hh⟩ := rn_gr hw.wt rfl rfl (by decide) rfl (by decide) (show _ = some (2, ((15 : Nat) : Int), 1) from rfl) rfl hh
  obtain ⟨n, hh⟩ := rn_i rfl rfl rfl rfl hh
  obtain ⟨n, hh⟩ := rn_i rfl rfl rfl rfl hh
  have hh : pm_run PT n fr lo 31 (21, [some (.ref 5), some (.ref 13), some (.int (nI m2)), some (.int x3), some (.int (nI i)), o5], [.int (nI i), .int (nI m2), .ref 15], h, 198, sl) = some R := hh
  obtain ⟨n, fr1, lo1, r1, hh1, hh⟩ := rn_call (w := 3) (t := 160) rfl rfl hh
  have hh1 : pm_run PT n fr1 lo1 160 (0, [some (.int (nI m2)), some (.int (nI i))], [], h, 198, sl) = some r1 := hh1
  obtain ⟨n1, hh1⟩ := rn_i rfl rfl rfl rfl hh1
  obtain ⟨n1, hh1⟩ := rn_i rfl rfl rfl rfl hh1
  have hh1 : pm_run PT n1 fr1 lo1 160 (3, [some (.int (nI m2)), some (.int (nI i))], [.int (nI 6), .int (nI m2)], h, 198, sl) = some r1 := hh1
  obtain ⟨n1, hh1⟩ := en_mul rfl hh1
  have hh1 : pm_run PT n1 fr1 lo1 160 (4, [some (.int (nI m2)), some (.int (nI i))], [.int (nI (m2 * 6))], h, 198, sl) = some r1 := hh1
  obtain ⟨n1, hh1⟩ := rn_i rfl rfl rfl rfl hh1
  have hh1 : pm_run PT n1 fr1 lo1 160 (5, [some (.int (nI m2)), some (.int (nI i))], [.int (nI i), .int (nI (m2 * 6))], h, 198, sl) = some r1 := hh1
  obtain ⟨n1, hh1⟩ := en_add rfl hh1
  have hh1 : pm_run PT n1 fr1 lo1 160 (6, [some (.int (nI m2)), some (.int (nI i))], [.int (nI (m2 * 6 + i))], h, 198, sl) = some r1 := hh1
  have hh1 : pm_run PT n1 fr1 lo1 160 (6, [some (.int (nI m2)), some (.int (nI i))], [.int (nI (m2 * 6 + i))], h, 198, sl) = some r1 := hh1
  have er1 : r1 = (some (.int (nI (m2 * 6 + i))), h, 198, sl) := (rn_ret rfl (Or.inl rfl) hh1).2
  subst er1
  have hh : pm_run PT n fr lo 31 (24, [some (.ref 5), some (.ref 13), some (.int (nI m2)), some (.int x3), some (.int (nI i)), o5], [.int (nI (m2 * 6 + i)), .ref 15], h, 198, sl) = some R := hh
  obtain ⟨n, hx2, hh⟩ := en_lu (t := m2 * 6 + i) (f := Ar h 15) (w := (Ar h 15) (m2 * 6 + i)) (nI_clamp (by omega)) hw.wt rfl (by decide) rfl (by decide) rfl (fun _ => rfl) hh
  obtain ⟨n, hh⟩ := rn_i rfl rfl rfl rfl hh
  have hh : pm_run PT n fr lo 31 (27, [some (.ref 5), some (.ref 13), some (.int (nI m2)), some (.int x3), some (.int (nI i)), o5], [.int (nI 15), .int ((Ar h 15) (m2 * 6 + i))], h, 198, sl) = some R := hh
  obtain ⟨n, hh⟩ := en_cn (cc := .lt) (off := 23) (t := 50) (b := pm_cmp .lt ((Ar h 15) (m2 * 6 + i)) (nI 15)) rfl rfl rfl hh
  have hj8 : ∃ mJ, pm_run PT mJ fr lo 31 (cond (pm_cmp .lt ((Ar h 15) (m2 * 6 + i)) (nI 15)) (51, [some (.ref 5), some (.ref 13), some (.int (nI m2)), some (.int x3), some (.int (nI i)), o5], [.int (nI 0)], h, 198, sl) (51, [some (.ref 5), some (.ref 13), some (.int (nI m2)), some (.int x3), some (.int (nI i)), o5], [.int (cond (cond (pm_cmp .lt ((Ar h 15) (i * 6 + m2)) (nI 15)) false true) 1 0)], h, 198, sl)) = some R := en_J (fun z3 => by
      have hh := en_t z3 hh
      have hh : pm_run PT n fr lo 31 (50, [some (.ref 5), some (.ref 13), some (.int (nI m2)), some (.int x3), some (.int (nI i)), o5], [], h, 198, sl) = some R := hh
      obtain ⟨n, hh⟩ := rn_i rfl rfl rfl rfl hh
      exact ⟨n, hh⟩) (fun z3 => by
      have hh := en_f z3 hh
      have hh : pm_run PT n fr lo 31 (30, [some (.ref 5), some (.ref 13), some (.int (nI m2)), some (.int x3), some (.int (nI i)), o5], [], h, 198, sl) = some R := hh
      obtain ⟨n, hh⟩ := rn_i rfl rfl rfl rfl hh
      have hh : pm_run PT n fr lo 31 (31, [some (.ref 5), some (.ref 13), some (.int (nI m2)), some (.int x3), some (.int (nI i)), o5], [.ref 13], h, 198, sl) = some R := hh
      obtain ⟨n, hh⟩ := rn_gr hw.wt rfl rfl (by decide) rfl (by decide) (show _ = some (2, ((15 : Nat) : Int), 1) from rfl) rfl hh
      obtain ⟨n, hh⟩ := rn_i rfl rfl rfl rfl hh
      obtain ⟨n, hh⟩ := rn_i rfl rfl rfl rfl hh
      have hh : pm_run PT n fr lo 31 (37, [some (.ref 5), some (.ref 13), some (.int (nI m2)), some (.int x3), some (.int (nI i)), o5], [.int (nI m2), .int (nI i), .ref 15], h, 198, sl) = some R := hh
      obtain ⟨n, fr1, lo1, r1, hh1, hh⟩ := rn_call (w := 3) (t := 160) rfl rfl hh
      have hh1 : pm_run PT n fr1 lo1 160 (0, [some (.int (nI i)), some (.int (nI m2))], [], h, 198, sl) = some r1 := hh1
      obtain ⟨n1, hh1⟩ := rn_i rfl rfl rfl rfl hh1
      obtain ⟨n1, hh1⟩ := rn_i rfl rfl rfl rfl hh1
      have hh1 : pm_run PT n1 fr1 lo1 160 (3, [some (.int (nI i)), some (.int (nI m2))], [.int (nI 6), .int (nI i)], h, 198, sl) = some r1 := hh1
      obtain ⟨n1, hh1⟩ := en_mul rfl hh1
      have hh1 : pm_run PT n1 fr1 lo1 160 (4, [some (.int (nI i)), some (.int (nI m2))], [.int (nI (i * 6))], h, 198, sl) = some r1 := hh1
      obtain ⟨n1, hh1⟩ := rn_i rfl rfl rfl rfl hh1
      have hh1 : pm_run PT n1 fr1 lo1 160 (5, [some (.int (nI i)), some (.int (nI m2))], [.int (nI m2), .int (nI (i * 6))], h, 198, sl) = some r1 := hh1
      obtain ⟨n1, hh1⟩ := en_add rfl hh1
      have hh1 : pm_run PT n1 fr1 lo1 160 (6, [some (.int (nI i)), some (.int (nI m2))], [.int (nI (i * 6 + m2))], h, 198, sl) = some r1 := hh1
      have hh1 : pm_run PT n1 fr1 lo1 160 (6, [some (.int (nI i)), some (.int (nI m2))], [.int (nI (i * 6 + m2))], h, 198, sl) = some r1 := hh1
      have er4 : r1 = (some (.int (nI (i * 6 + m2))), h, 198, sl) := (rn_ret rfl (Or.inl rfl) hh1).2
      subst er4
      have hh : pm_run PT n fr lo 31 (40, [some (.ref 5), some (.ref 13), some (.int (nI m2)), some (.int x3), some (.int (nI i)), o5], [.int (nI (i * 6 + m2)), .ref 15], h, 198, sl) = some R := hh
      obtain ⟨n, hx5, hh⟩ := en_lu (t := i * 6 + m2) (f := Ar h 15) (w := (Ar h 15) (i * 6 + m2)) (nI_clamp (by omega)) hw.wt rfl (by decide) rfl (by decide) rfl (fun _ => rfl) hh
      obtain ⟨n, hh⟩ := rn_i rfl rfl rfl rfl hh
      have hh : pm_run PT n fr lo 31 (43, [some (.ref 5), some (.ref 13), some (.int (nI m2)), some (.int x3), some (.int (nI i)), o5], [.int (nI 15), .int ((Ar h 15) (i * 6 + m2))], h, 198, sl) = some R := hh
      obtain ⟨n, hh⟩ := en_cn (cc := .lt) (off := 7) (t := 50) (b := pm_cmp .lt ((Ar h 15) (i * 6 + m2)) (nI 15)) rfl rfl rfl hh
      have hj7 : ∃ mJ, pm_run PT mJ fr lo 31 (cond (pm_cmp .lt ((Ar h 15) (i * 6 + m2)) (nI 15)) (51, [some (.ref 5), some (.ref 13), some (.int (nI m2)), some (.int x3), some (.int (nI i)), o5], [.int (nI 0)], h, 198, sl) (51, [some (.ref 5), some (.ref 13), some (.int (nI m2)), some (.int x3), some (.int (nI i)), o5], [.int (nI 1)], h, 198, sl)) = some R := en_J (fun z6 => by
          have hh := en_t z6 hh
          have hh : pm_run PT n fr lo 31 (50, [some (.ref 5), some (.ref 13), some (.int (nI m2)), some (.int x3), some (.int (nI i)), o5], [], h, 198, sl) = some R := hh
          obtain ⟨n, hh⟩ := rn_i rfl rfl rfl rfl hh
          exact ⟨n, hh⟩) (fun z6 => by
          have hh := en_f z6 hh
          have hh : pm_run PT n fr lo 31 (46, [some (.ref 5), some (.ref 13), some (.int (nI m2)), some (.int x3), some (.int (nI i)), o5], [], h, 198, sl) = some R := hh
          obtain ⟨n, hh⟩ := rn_i rfl rfl rfl rfl hh
          obtain ⟨n, hh⟩ := rn_i rfl rfl rfl rfl hh
          exact ⟨n, hh⟩)
      obtain ⟨n, hh⟩ := hj7
      rw [show (cond (pm_cmp .lt ((Ar h 15) (i * 6 + m2)) (nI 15)) (51, [some (.ref 5), some (.ref 13), some (.int (nI m2)), some (.int x3), some (.int (nI i)), o5], [.int (nI 0)], h, 198, sl) (51, [some (.ref 5), some (.ref 13), some (.int (nI m2)), some (.int x3), some (.int (nI i)), o5], [.int (nI 1)], h, 198, sl) : pm_St) = (51, [some (.ref 5), some (.ref 13), some (.int (nI m2)), some (.int x3), some (.int (nI i)), o5], [.int (cond (cond (pm_cmp .lt ((Ar h 15) (i * 6 + m2)) (nI 15)) false true) 1 0)], h, 198, sl) from by cases (pm_cmp .lt ((Ar h 15) (i * 6 + m2)) (nI 15)) <;> rfl] at hh
      exact ⟨n, hh⟩)
  obtain ⟨n, hh⟩ := hj8
  rw [show (cond (pm_cmp .lt ((Ar h 15) (m2 * 6 + i)) (nI 15)) (51, [some (.ref 5), some (.ref 13), some (.int (nI m2)), some (.int x3), some (.int (nI i)), o5], [.int (nI 0)], h, 198, sl) (51, [some (.ref 5), some (.ref 13), some (.int (nI m2)), some (.int x3), some (.int (nI i)), o5], [.int (cond (cond (pm_cmp .lt ((Ar h 15) (i * 6 + m2)) (nI 15)) false true) 1 0)], h, 198, sl) : pm_St) = (51, [some (.ref 5), some (.ref 13), some (.int (nI m2)), some (.int x3), some (.int (nI i)), o5], [.int (cond (cond (pm_cmp .lt ((Ar h 15) (m2 * 6 + i)) (nI 15)) false (cond (pm_cmp .lt ((Ar h 15) (i * 6 + m2)) (nI 15)) false true)) 1 0)], h, 198, sl) from by cases (pm_cmp .lt ((Ar h 15) (m2 * 6 + i)) (nI 15)) <;> rfl] at hh
  obtain ⟨n, hh⟩ := rn_i rfl rfl rfl rfl hh
  obtain ⟨n, hh⟩ := rn_i rfl rfl rfl rfl hh
  obtain ⟨n, hh⟩ := rn_i rfl rfl rfl rfl hh
  have hh : pm_run PT n fr lo 31 (56, [some (.ref 5), some (.ref 13), some (.int (nI m2)), some (.int x3), some (.int (nI i)), some (.int (cond (cond (pm_cmp .lt ((Ar h 15) (m2 * 6 + i)) (nI 15)) false (cond (pm_cmp .lt ((Ar h 15) (i * 6 + m2)) (nI 15)) false true)) 1 0))], [.int (nI m2), .int (nI i)], h, 198, sl) = some R := hh
  obtain ⟨n, hh⟩ := en_cn (cc := .eq) (off := 15) (t := 71) (b := decide (i = m2)) (hI_eq (by omega) (by omega)) rfl rfl hh
  have hj12 : ∃ mJ, pm_run PT mJ fr lo 31 (cond (decide (i = m2)) (71, [some (.ref 5), some (.ref 13), some (.int (nI m2)), some (.int x3), some (.int (nI i)), some (.int (cond (cond (pm_cmp .lt ((Ar h 15) (m2 * 6 + i)) (nI 15)) false (cond (pm_cmp .lt ((Ar h 15) (i * 6 + m2)) (nI 15)) false true)) 1 0))], [], h, 198, sl) (71, [some (.ref 5), some (.ref 13), some (.int (nI m2)), some (.int (cond (cond (pm_cmp .lt ((Ar h 15) (m2 * 6 + i)) (nI 15)) false (cond (pm_cmp .lt ((Ar h 15) (i * 6 + m2)) (nI 15)) false true)) (x3 ||| (shl (nI 1) (nI i))) x3)), some (.int (nI i)), some (.int (cond (cond (pm_cmp .lt ((Ar h 15) (m2 * 6 + i)) (nI 15)) false (cond (pm_cmp .lt ((Ar h 15) (i * 6 + m2)) (nI 15)) false true)) 1 0))], [], h, 198, sl)) = some R := en_J (fun z9 => by
      have hh := en_t z9 hh
      have hh : pm_run PT n fr lo 31 (71, [some (.ref 5), some (.ref 13), some (.int (nI m2)), some (.int x3), some (.int (nI i)), some (.int (cond (cond (pm_cmp .lt ((Ar h 15) (m2 * 6 + i)) (nI 15)) false (cond (pm_cmp .lt ((Ar h 15) (i * 6 + m2)) (nI 15)) false true)) 1 0))], [], h, 198, sl) = some R := hh
      have y_z9 := of_decide_eq_true z9
      exact ⟨n, hh⟩) (fun z9 => by
      have hh := en_f z9 hh
      have hh : pm_run PT n fr lo 31 (59, [some (.ref 5), some (.ref 13), some (.int (nI m2)), some (.int x3), some (.int (nI i)), some (.int (cond (cond (pm_cmp .lt ((Ar h 15) (m2 * 6 + i)) (nI 15)) false (cond (pm_cmp .lt ((Ar h 15) (i * 6 + m2)) (nI 15)) false true)) 1 0))], [], h, 198, sl) = some R := hh
      have y_z9 := of_decide_eq_false z9
      obtain ⟨n, hh⟩ := rn_i rfl rfl rfl rfl hh
      have hh : pm_run PT n fr lo 31 (61, [some (.ref 5), some (.ref 13), some (.int (nI m2)), some (.int x3), some (.int (nI i)), some (.int (cond (cond (pm_cmp .lt ((Ar h 15) (m2 * 6 + i)) (nI 15)) false (cond (pm_cmp .lt ((Ar h 15) (i * 6 + m2)) (nI 15)) false true)) 1 0))], [.int (cond (cond (pm_cmp .lt ((Ar h 15) (m2 * 6 + i)) (nI 15)) false (cond (pm_cmp .lt ((Ar h 15) (i * 6 + m2)) (nI 15)) false true)) 1 0)], h, 198, sl) = some R := hh
      obtain ⟨n, hh⟩ := en_zn (cc := .eq) (off := 10) (t := 71) (b := !(cond (pm_cmp .lt ((Ar h 15) (m2 * 6 + i)) (nI 15)) false (cond (pm_cmp .lt ((Ar h 15) (i * 6 + m2)) (nI 15)) false true))) eb_eq rfl rfl hh
      have hj11 : ∃ mJ, pm_run PT mJ fr lo 31 (cond (cond (pm_cmp .lt ((Ar h 15) (m2 * 6 + i)) (nI 15)) false (cond (pm_cmp .lt ((Ar h 15) (i * 6 + m2)) (nI 15)) false true)) (71, [some (.ref 5), some (.ref 13), some (.int (nI m2)), some (.int (x3 ||| (shl (nI 1) (nI i)))), some (.int (nI i)), some (.int (cond (cond (pm_cmp .lt ((Ar h 15) (m2 * 6 + i)) (nI 15)) false (cond (pm_cmp .lt ((Ar h 15) (i * 6 + m2)) (nI 15)) false true)) 1 0))], [], h, 198, sl) (71, [some (.ref 5), some (.ref 13), some (.int (nI m2)), some (.int x3), some (.int (nI i)), some (.int (cond (cond (pm_cmp .lt ((Ar h 15) (m2 * 6 + i)) (nI 15)) false (cond (pm_cmp .lt ((Ar h 15) (i * 6 + m2)) (nI 15)) false true)) 1 0))], [], h, 198, sl)) = some R := en_J (fun z10 => by
          have hh := en_nt z10 hh
          have hh : pm_run PT n fr lo 31 (64, [some (.ref 5), some (.ref 13), some (.int (nI m2)), some (.int x3), some (.int (nI i)), some (.int (cond (cond (pm_cmp .lt ((Ar h 15) (m2 * 6 + i)) (nI 15)) false (cond (pm_cmp .lt ((Ar h 15) (i * 6 + m2)) (nI 15)) false true)) 1 0))], [], h, 198, sl) = some R := hh
          obtain ⟨n, hh⟩ := rn_i rfl rfl rfl rfl hh
          obtain ⟨n, hh⟩ := rn_i rfl rfl rfl rfl hh
          obtain ⟨n, hh⟩ := rn_i rfl rfl rfl rfl hh
          obtain ⟨n, hh⟩ := rn_i rfl rfl rfl rfl hh
          obtain ⟨n, hh⟩ := rn_i rfl rfl rfl rfl hh
          obtain ⟨n, hh⟩ := rn_i rfl rfl rfl rfl hh
          exact ⟨n, hh⟩) (fun z10 => by
          have hh := en_nf z10 hh
          have hh : pm_run PT n fr lo 31 (71, [some (.ref 5), some (.ref 13), some (.int (nI m2)), some (.int x3), some (.int (nI i)), some (.int (cond (cond (pm_cmp .lt ((Ar h 15) (m2 * 6 + i)) (nI 15)) false (cond (pm_cmp .lt ((Ar h 15) (i * 6 + m2)) (nI 15)) false true)) 1 0))], [], h, 198, sl) = some R := hh
          exact ⟨n, hh⟩)
      obtain ⟨n, hh⟩ := hj11
      rw [show (cond (cond (pm_cmp .lt ((Ar h 15) (m2 * 6 + i)) (nI 15)) false (cond (pm_cmp .lt ((Ar h 15) (i * 6 + m2)) (nI 15)) false true)) (71, [some (.ref 5), some (.ref 13), some (.int (nI m2)), some (.int (x3 ||| (shl (nI 1) (nI i)))), some (.int (nI i)), some (.int (cond (cond (pm_cmp .lt ((Ar h 15) (m2 * 6 + i)) (nI 15)) false (cond (pm_cmp .lt ((Ar h 15) (i * 6 + m2)) (nI 15)) false true)) 1 0))], [], h, 198, sl) (71, [some (.ref 5), some (.ref 13), some (.int (nI m2)), some (.int x3), some (.int (nI i)), some (.int (cond (cond (pm_cmp .lt ((Ar h 15) (m2 * 6 + i)) (nI 15)) false (cond (pm_cmp .lt ((Ar h 15) (i * 6 + m2)) (nI 15)) false true)) 1 0))], [], h, 198, sl) : pm_St) = (71, [some (.ref 5), some (.ref 13), some (.int (nI m2)), some (.int (cond (cond (pm_cmp .lt ((Ar h 15) (m2 * 6 + i)) (nI 15)) false (cond (pm_cmp .lt ((Ar h 15) (i * 6 + m2)) (nI 15)) false true)) (x3 ||| (shl (nI 1) (nI i))) x3)), some (.int (nI i)), some (.int (cond (cond (pm_cmp .lt ((Ar h 15) (m2 * 6 + i)) (nI 15)) false (cond (pm_cmp .lt ((Ar h 15) (i * 6 + m2)) (nI 15)) false true)) 1 0))], [], h, 198, sl) from by cases (cond (pm_cmp .lt ((Ar h 15) (m2 * 6 + i)) (nI 15)) false (cond (pm_cmp .lt ((Ar h 15) (i * 6 + m2)) (nI 15)) false true)) <;> rfl] at hh
      exact ⟨n, hh⟩)
  obtain ⟨n, hh⟩ := hj12
  rw [show (cond (decide (i = m2)) (71, [some (.ref 5), some (.ref 13), some (.int (nI m2)), some (.int x3), some (.int (nI i)), some (.int (cond (cond (pm_cmp .lt ((Ar h 15) (m2 * 6 + i)) (nI 15)) false (cond (pm_cmp .lt ((Ar h 15) (i * 6 + m2)) (nI 15)) false true)) 1 0))], [], h, 198, sl) (71, [some (.ref 5), some (.ref 13), some (.int (nI m2)), some (.int (cond (cond (pm_cmp .lt ((Ar h 15) (m2 * 6 + i)) (nI 15)) false (cond (pm_cmp .lt ((Ar h 15) (i * 6 + m2)) (nI 15)) false true)) (x3 ||| (shl (nI 1) (nI i))) x3)), some (.int (nI i)), some (.int (cond (cond (pm_cmp .lt ((Ar h 15) (m2 * 6 + i)) (nI 15)) false (cond (pm_cmp .lt ((Ar h 15) (i * 6 + m2)) (nI 15)) false true)) 1 0))], [], h, 198, sl) : pm_St) = (71, [some (.ref 5), some (.ref 13), some (.int (nI m2)), some (.int (cond (decide (i = m2)) x3 (cond (cond (pm_cmp .lt ((Ar h 15) (m2 * 6 + i)) (nI 15)) false (cond (pm_cmp .lt ((Ar h 15) (i * 6 + m2)) (nI 15)) false true)) (x3 ||| (shl (nI 1) (nI i))) x3))), some (.int (nI i)), some (.int (cond (cond (pm_cmp .lt ((Ar h 15) (m2 * 6 + i)) (nI 15)) false (cond (pm_cmp .lt ((Ar h 15) (i * 6 + m2)) (nI 15)) false true)) 1 0))], [], h, 198, sl) from by cases (decide (i = m2)) <;> rfl] at hh
  have hh : pm_run PT n fr lo 31 (71, [some (.ref 5), some (.ref 13), some (.int (nI m2)), some (.int (cond (decide (i = m2)) x3 (cond (cond (pm_cmp .lt ((Ar h 15) (m2 * 6 + i)) (nI 15)) false (cond (pm_cmp .lt ((Ar h 15) (i * 6 + m2)) (nI 15)) false true)) (x3 ||| (shl (nI 1) (nI i))) x3))), some (.int (nI i)), some (.int (cond (cond (pm_cmp .lt ((Ar h 15) (m2 * 6 + i)) (nI 15)) false (cond (pm_cmp .lt ((Ar h 15) (i * 6 + m2)) (nI 15)) false true)) 1 0))], [], h, 198, sl) = some R := hh
  obtain ⟨n, hh⟩ := en_inc (x := i) (c := 1) (j := 4) rfl rfl (by decide) hh
  have hh : pm_run PT n fr lo 31 (74, [some (.ref 5), some (.ref 13), some (.int (nI m2)), some (.int (cond (decide (i = m2)) x3 (cond (cond (pm_cmp .lt ((Ar h 15) (m2 * 6 + i)) (nI 15)) false (cond (pm_cmp .lt ((Ar h 15) (i * 6 + m2)) (nI 15)) false true)) (x3 ||| (shl (nI 1) (nI i))) x3))), some (.int (nI (i + 1))), some (.int (cond (cond (pm_cmp .lt ((Ar h 15) (m2 * 6 + i)) (nI 15)) false (cond (pm_cmp .lt ((Ar h 15) (i * 6 + m2)) (nI 15)) false true)) 1 0))], [], h, 198, sl) = some R := hh
  obtain ⟨n, hh⟩ := rn_i rfl rfl rfl rfl hh
  have ed : v31_5b q cc gc (Ar h 15) m2 i x3 = cond (decide (i = m2)) x3 (cond (cond (pm_cmp .lt ((Ar h 15) (m2 * 6 + i)) (nI 15)) false (cond (pm_cmp .lt ((Ar h 15) (i * 6 + m2)) (nI 15)) false true)) (x3 ||| (shl (nI 1) (nI i))) x3) := rfl
  rw [ed]
  exact ⟨n, some (.int (cond (cond (pm_cmp .lt ((Ar h 15) (m2 * 6 + i)) (nI 15)) false (cond (pm_cmp .lt ((Ar h 15) (i * 6 + m2)) (nI 15)) false true)) 1 0)), hh⟩
theorem v31_5_ok {fr lo sl cc gc : Nat} {q : QT} {R : pm_Rs} {m2 : Nat} : ∀ {j i : Nat} {x3 : Int32} {o5 : Option Value} {h : pm_H} {n : Nat}, cc - i = j → i + j < 1000000 → HC q cc gc h → m2 < 10000 → pm_run PT n fr lo 31 (5, [some (.ref 5), some (.ref 13), some (.int (nI m2)), some (.int x3), some (.int (nI i)), o5], [], h, 198, sl) = some R → ∃ m wc w5, pm_run PT m fr lo 31 (77, [some (.ref 5), some (.ref 13), some (.int (nI m2)), some (.int (v31_5 q cc gc (Ar h 15) m2 j i x3)), wc, w5], [], h, 198, sl) = some R := by
  intro j
  induction j with
  | zero =>
    intro i x3 o5 h n e eI hw h_m2 hh
    obtain ⟨n, hh⟩ := v31_5_e hw h_m2 (by omega) (by omega) hh
    exact ⟨n, _, o5, hh⟩
  | succ j ih =>
    intro i x3 o5 h n e eI hw h_m2 hh
    obtain ⟨n, w5, hh⟩ := v31_5_s hw h_m2 (by omega) (by omega) hh
    obtain ⟨n, wc, v5, hh⟩ := ih (by omega) (by omega) hw h_m2 hh
    exact ⟨n, wc, v5, hh⟩
def v31 (q : QT) (cc gc : Nat) (d0 : Nat → Int32) (c : Nat) : Int32 := (v31_5 q cc gc (d0) c cc 0 (nI 0))
theorem v31_ok {n fr lo sl cc gc : Nat} {q : QT} {h : pm_H} {R : pm_Rs} {c : Nat} (hw : HC q cc gc h) (h_c : c < 10000) (hh : pm_run PT n fr lo 31 (0, pm_l0 [.ref 5, .ref 13, .int (nI c)] 6, [], h, 198, sl) = some R) : R = (some (.int (v31 q cc gc (Ar h 15) c)), h, 198, sl) := by
  have hcc := hw.cb
  have hgc := hw.gb
  have hzr := hw.zr
  obtain ⟨n, hh⟩ := rn_i rfl rfl rfl rfl hh
  obtain ⟨n, hh⟩ := rn_i rfl rfl rfl rfl hh
  obtain ⟨n, hh⟩ := rn_i rfl rfl rfl rfl hh
  obtain ⟨n, hh⟩ := rn_i rfl rfl rfl rfl hh
  have hh : pm_run PT n fr lo 31 (5, [some (.ref 5), some (.ref 13), some (.int (nI c)), some (.int (nI 0)), some (.int (nI 0)), none], [], h, 198, sl) = some R := hh
  obtain ⟨n, u2, u1, hh⟩ := v31_5_ok (m2 := c)  (i := 0) (x3 := (nI 0)) (o5 := none) (j := cc) (by omega) (by omega) hw (by omega) hh
  have hh : pm_run PT n fr lo 31 (77, [some (.ref 5), some (.ref 13), some (.int (nI c)), some (.int (v31_5 q cc gc (Ar h 15) c cc 0 (nI 0))), u2, u1], [], h, 198, sl) = some R := hh
  obtain ⟨n, hh⟩ := rn_i rfl rfl rfl rfl hh
  have hh : pm_run PT n fr lo 31 (78, [some (.ref 5), some (.ref 13), some (.int (nI c)), some (.int (v31_5 q cc gc (Ar h 15) c cc 0 (nI 0))), u2, u1], [.int (v31_5 q cc gc (Ar h 15) c cc 0 (nI 0))], h, 198, sl) = some R := hh
  have er3 : R = (some (.int (v31_5 q cc gc (Ar h 15) c cc 0 (nI 0))), h, 198, sl) := (rn_ret rfl (Or.inl rfl) hh).2
  have ed : v31 q cc gc (Ar h 15) c = (v31_5 q cc gc (Ar h 15) c cc 0 (nI 0)) := rfl
  rw [ed]
  exact er3
def v32_5b (q : QT) (cc gc : Nat) (d0 : Nat → Int32) (m2 : Nat) (i : Nat) (x3 : Int32) : Int32 := cond (decide (i = m2)) x3 (cond (cond (pm_cmp .eq ((d0) (m2 * 6 + i)) 0) true (cond (pm_cmp .ne ((d0) (i * 6 + m2)) 0) false true)) (x3 ||| (shl (nI 1) (nI i))) x3)
def v32_5 (q : QT) (cc gc : Nat) (d0 : Nat → Int32) (m2 : Nat) (j i : Nat) (a : Int32) : Int32 := lp (fun i a => v32_5b q cc gc d0 m2 i a) j i a
theorem v32_5_e {n fr lo sl cc gc : Nat} {q : QT} {h : pm_H} {R : pm_Rs} {m2 : Nat} {i : Nat} {x3 : Int32} {o5 : Option Value} (hw : HC q cc gc h) (h_m2 : m2 < 10000) (hi : cc ≤ i) (hI : i < 1000000) (hh : pm_run PT n fr lo 32 (5, [some (.ref 5), some (.ref 13), some (.int (nI m2)), some (.int x3), some (.int (nI i)), o5], [], h, 198, sl) = some R) : ∃ m, pm_run PT m fr lo 32 (73, [some (.ref 5), some (.ref 13), some (.int (nI m2)), some (.int x3), some (.int (nI i)), o5], [], h, 198, sl) = some R := by
  have hcc := hw.cb
  have hgc := hw.gb
  have hzr := hw.zr
  obtain ⟨n, hh⟩ := rn_i rfl rfl rfl rfl hh
  obtain ⟨n, hh⟩ := rn_i rfl rfl rfl rfl hh
  have hh : pm_run PT n fr lo 32 (8, [some (.ref 5), some (.ref 13), some (.int (nI m2)), some (.int x3), some (.int (nI i)), o5], [.ref 5, .int (nI i)], h, 198, sl) = some R := hh
  obtain ⟨n, hh⟩ := rn_gi (x := nI cc) hw.wt rfl rfl (by decide) rfl (by decide) rfl hw.x0 hh
  have hh : pm_run PT n fr lo 32 (11, [some (.ref 5), some (.ref 13), some (.int (nI m2)), some (.int x3), some (.int (nI i)), o5], [.int (nI cc), .int (nI i)], h, 198, sl) = some R := hh
  obtain ⟨n, hh⟩ := en_cn (cc := .ge) (off := 62) (t := 73) (b := decide (cc ≤ i)) (hI_ge (by omega) (by omega)) rfl rfl hh
  have hh := en_t (show decide (cc ≤ i) = true from decide_eq_true (by omega)) hh
  have hh : pm_run PT n fr lo 32 (73, [some (.ref 5), some (.ref 13), some (.int (nI m2)), some (.int x3), some (.int (nI i)), o5], [], h, 198, sl) = some R := hh
  exact ⟨n, hh⟩
theorem v32_5_s {n fr lo sl cc gc : Nat} {q : QT} {h : pm_H} {R : pm_Rs} {m2 : Nat} {i : Nat} {x3 : Int32} {o5 : Option Value} (hw : HC q cc gc h) (h_m2 : m2 < 10000) (hi : i < cc) (hI : i < 1000000) (hh : pm_run PT n fr lo 32 (5, [some (.ref 5), some (.ref 13), some (.int (nI m2)), some (.int x3), some (.int (nI i)), o5], [], h, 198, sl) = some R) : ∃ m w5, pm_run PT m fr lo 32 (5, [some (.ref 5), some (.ref 13), some (.int (nI m2)), some (.int (v32_5b q cc gc (Ar h 15) m2 i x3)), some (.int (nI (i + 1))), w5], [], h, 198, sl) = some R := by
  have hcc := hw.cb
  have hgc := hw.gb
  have hzr := hw.zr
  obtain ⟨n, hh⟩ := rn_i rfl rfl rfl rfl hh
  obtain ⟨n, hh⟩ := rn_i rfl rfl rfl rfl hh
  have hh : pm_run PT n fr lo 32 (8, [some (.ref 5), some (.ref 13), some (.int (nI m2)), some (.int x3), some (.int (nI i)), o5], [.ref 5, .int (nI i)], h, 198, sl) = some R := hh
  obtain ⟨n, hh⟩ := rn_gi (x := nI cc) hw.wt rfl rfl (by decide) rfl (by decide) rfl hw.x0 hh
  have hh : pm_run PT n fr lo 32 (11, [some (.ref 5), some (.ref 13), some (.int (nI m2)), some (.int x3), some (.int (nI i)), o5], [.int (nI cc), .int (nI i)], h, 198, sl) = some R := hh
  obtain ⟨n, hh⟩ := en_cn (cc := .ge) (off := 62) (t := 73) (b := decide (cc ≤ i)) (hI_ge (by omega) (by omega)) rfl rfl hh
  have hh := en_f (show decide (cc ≤ i) = false from decide_eq_false (by omega)) hh
  have hh : pm_run PT n fr lo 32 (14, [some (.ref 5), some (.ref 13), some (.int (nI m2)), some (.int x3), some (.int (nI i)), o5], [], h, 198, sl) = some R := hh
  obtain ⟨n, hh⟩ := rn_i rfl rfl rfl rfl hh
  have hh : pm_run PT n fr lo 32 (15, [some (.ref 5), some (.ref 13), some (.int (nI m2)), some (.int x3), some (.int (nI i)), o5], [.ref 13], h, 198, sl) = some R := hh
  obtain ⟨n, hh⟩ := rn_gr hw.wt rfl rfl (by decide) rfl (by decide) (show _ = some (2, ((15 : Nat) : Int), 1) from rfl) rfl hh
  obtain ⟨n, hh⟩ := rn_i rfl rfl rfl rfl hh
  obtain ⟨n, hh⟩ := rn_i rfl rfl rfl rfl hh
  have hh : pm_run PT n fr lo 32 (21, [some (.ref 5), some (.ref 13), some (.int (nI m2)), some (.int x3), some (.int (nI i)), o5], [.int (nI i), .int (nI m2), .ref 15], h, 198, sl) = some R := hh
  obtain ⟨n, fr1, lo1, r1, hh1, hh⟩ := rn_call (w := 3) (t := 160) rfl rfl hh
  have hh1 : pm_run PT n fr1 lo1 160 (0, [some (.int (nI m2)), some (.int (nI i))], [], h, 198, sl) = some r1 := hh1
  obtain ⟨n1, hh1⟩ := rn_i rfl rfl rfl rfl hh1
  obtain ⟨n1, hh1⟩ := rn_i rfl rfl rfl rfl hh1
  have hh1 : pm_run PT n1 fr1 lo1 160 (3, [some (.int (nI m2)), some (.int (nI i))], [.int (nI 6), .int (nI m2)], h, 198, sl) = some r1 := hh1
  obtain ⟨n1, hh1⟩ := en_mul rfl hh1
  have hh1 : pm_run PT n1 fr1 lo1 160 (4, [some (.int (nI m2)), some (.int (nI i))], [.int (nI (m2 * 6))], h, 198, sl) = some r1 := hh1
  obtain ⟨n1, hh1⟩ := rn_i rfl rfl rfl rfl hh1
  have hh1 : pm_run PT n1 fr1 lo1 160 (5, [some (.int (nI m2)), some (.int (nI i))], [.int (nI i), .int (nI (m2 * 6))], h, 198, sl) = some r1 := hh1
  obtain ⟨n1, hh1⟩ := en_add rfl hh1
  have hh1 : pm_run PT n1 fr1 lo1 160 (6, [some (.int (nI m2)), some (.int (nI i))], [.int (nI (m2 * 6 + i))], h, 198, sl) = some r1 := hh1
  have hh1 : pm_run PT n1 fr1 lo1 160 (6, [some (.int (nI m2)), some (.int (nI i))], [.int (nI (m2 * 6 + i))], h, 198, sl) = some r1 := hh1
  have er1 : r1 = (some (.int (nI (m2 * 6 + i))), h, 198, sl) := (rn_ret rfl (Or.inl rfl) hh1).2
  subst er1
  have hh : pm_run PT n fr lo 32 (24, [some (.ref 5), some (.ref 13), some (.int (nI m2)), some (.int x3), some (.int (nI i)), o5], [.int (nI (m2 * 6 + i)), .ref 15], h, 198, sl) = some R := hh
  obtain ⟨n, hx2, hh⟩ := en_lu (t := m2 * 6 + i) (f := Ar h 15) (w := (Ar h 15) (m2 * 6 + i)) (nI_clamp (by omega)) hw.wt rfl (by decide) rfl (by decide) rfl (fun _ => rfl) hh
  have hh : pm_run PT n fr lo 32 (25, [some (.ref 5), some (.ref 13), some (.int (nI m2)), some (.int x3), some (.int (nI i)), o5], [.int ((Ar h 15) (m2 * 6 + i))], h, 198, sl) = some R := hh
  obtain ⟨n, hh⟩ := en_zn (cc := .eq) (off := 17) (t := 42) (b := pm_cmp .eq ((Ar h 15) (m2 * 6 + i)) 0) rfl rfl rfl hh
  have hj8 : ∃ mJ, pm_run PT mJ fr lo 32 (cond (pm_cmp .eq ((Ar h 15) (m2 * 6 + i)) 0) (47, [some (.ref 5), some (.ref 13), some (.int (nI m2)), some (.int x3), some (.int (nI i)), o5], [.int (nI 1)], h, 198, sl) (47, [some (.ref 5), some (.ref 13), some (.int (nI m2)), some (.int x3), some (.int (nI i)), o5], [.int (cond (cond (pm_cmp .ne ((Ar h 15) (i * 6 + m2)) 0) false true) 1 0)], h, 198, sl)) = some R := en_J (fun z3 => by
      have hh := en_t z3 hh
      have hh : pm_run PT n fr lo 32 (42, [some (.ref 5), some (.ref 13), some (.int (nI m2)), some (.int x3), some (.int (nI i)), o5], [], h, 198, sl) = some R := hh
      obtain ⟨n, hh⟩ := rn_i rfl rfl rfl rfl hh
      obtain ⟨n, hh⟩ := rn_i rfl rfl rfl rfl hh
      exact ⟨n, hh⟩) (fun z3 => by
      have hh := en_f z3 hh
      have hh : pm_run PT n fr lo 32 (28, [some (.ref 5), some (.ref 13), some (.int (nI m2)), some (.int x3), some (.int (nI i)), o5], [], h, 198, sl) = some R := hh
      obtain ⟨n, hh⟩ := rn_i rfl rfl rfl rfl hh
      have hh : pm_run PT n fr lo 32 (29, [some (.ref 5), some (.ref 13), some (.int (nI m2)), some (.int x3), some (.int (nI i)), o5], [.ref 13], h, 198, sl) = some R := hh
      obtain ⟨n, hh⟩ := rn_gr hw.wt rfl rfl (by decide) rfl (by decide) (show _ = some (2, ((15 : Nat) : Int), 1) from rfl) rfl hh
      obtain ⟨n, hh⟩ := rn_i rfl rfl rfl rfl hh
      obtain ⟨n, hh⟩ := rn_i rfl rfl rfl rfl hh
      have hh : pm_run PT n fr lo 32 (35, [some (.ref 5), some (.ref 13), some (.int (nI m2)), some (.int x3), some (.int (nI i)), o5], [.int (nI m2), .int (nI i), .ref 15], h, 198, sl) = some R := hh
      obtain ⟨n, fr1, lo1, r1, hh1, hh⟩ := rn_call (w := 3) (t := 160) rfl rfl hh
      have hh1 : pm_run PT n fr1 lo1 160 (0, [some (.int (nI i)), some (.int (nI m2))], [], h, 198, sl) = some r1 := hh1
      obtain ⟨n1, hh1⟩ := rn_i rfl rfl rfl rfl hh1
      obtain ⟨n1, hh1⟩ := rn_i rfl rfl rfl rfl hh1
      have hh1 : pm_run PT n1 fr1 lo1 160 (3, [some (.int (nI i)), some (.int (nI m2))], [.int (nI 6), .int (nI i)], h, 198, sl) = some r1 := hh1
      obtain ⟨n1, hh1⟩ := en_mul rfl hh1
      have hh1 : pm_run PT n1 fr1 lo1 160 (4, [some (.int (nI i)), some (.int (nI m2))], [.int (nI (i * 6))], h, 198, sl) = some r1 := hh1
      obtain ⟨n1, hh1⟩ := rn_i rfl rfl rfl rfl hh1
      have hh1 : pm_run PT n1 fr1 lo1 160 (5, [some (.int (nI i)), some (.int (nI m2))], [.int (nI m2), .int (nI (i * 6))], h, 198, sl) = some r1 := hh1
      obtain ⟨n1, hh1⟩ := en_add rfl hh1
      have hh1 : pm_run PT n1 fr1 lo1 160 (6, [some (.int (nI i)), some (.int (nI m2))], [.int (nI (i * 6 + m2))], h, 198, sl) = some r1 := hh1
      have hh1 : pm_run PT n1 fr1 lo1 160 (6, [some (.int (nI i)), some (.int (nI m2))], [.int (nI (i * 6 + m2))], h, 198, sl) = some r1 := hh1
      have er4 : r1 = (some (.int (nI (i * 6 + m2))), h, 198, sl) := (rn_ret rfl (Or.inl rfl) hh1).2
      subst er4
      have hh : pm_run PT n fr lo 32 (38, [some (.ref 5), some (.ref 13), some (.int (nI m2)), some (.int x3), some (.int (nI i)), o5], [.int (nI (i * 6 + m2)), .ref 15], h, 198, sl) = some R := hh
      obtain ⟨n, hx5, hh⟩ := en_lu (t := i * 6 + m2) (f := Ar h 15) (w := (Ar h 15) (i * 6 + m2)) (nI_clamp (by omega)) hw.wt rfl (by decide) rfl (by decide) rfl (fun _ => rfl) hh
      have hh : pm_run PT n fr lo 32 (39, [some (.ref 5), some (.ref 13), some (.int (nI m2)), some (.int x3), some (.int (nI i)), o5], [.int ((Ar h 15) (i * 6 + m2))], h, 198, sl) = some R := hh
      obtain ⟨n, hh⟩ := en_zn (cc := .ne) (off := 7) (t := 46) (b := pm_cmp .ne ((Ar h 15) (i * 6 + m2)) 0) rfl rfl rfl hh
      have hj7 : ∃ mJ, pm_run PT mJ fr lo 32 (cond (pm_cmp .ne ((Ar h 15) (i * 6 + m2)) 0) (47, [some (.ref 5), some (.ref 13), some (.int (nI m2)), some (.int x3), some (.int (nI i)), o5], [.int (nI 0)], h, 198, sl) (47, [some (.ref 5), some (.ref 13), some (.int (nI m2)), some (.int x3), some (.int (nI i)), o5], [.int (nI 1)], h, 198, sl)) = some R := en_J (fun z6 => by
          have hh := en_t z6 hh
          have hh : pm_run PT n fr lo 32 (46, [some (.ref 5), some (.ref 13), some (.int (nI m2)), some (.int x3), some (.int (nI i)), o5], [], h, 198, sl) = some R := hh
          obtain ⟨n, hh⟩ := rn_i rfl rfl rfl rfl hh
          exact ⟨n, hh⟩) (fun z6 => by
          have hh := en_f z6 hh
          have hh : pm_run PT n fr lo 32 (42, [some (.ref 5), some (.ref 13), some (.int (nI m2)), some (.int x3), some (.int (nI i)), o5], [], h, 198, sl) = some R := hh
          obtain ⟨n, hh⟩ := rn_i rfl rfl rfl rfl hh
          obtain ⟨n, hh⟩ := rn_i rfl rfl rfl rfl hh
          exact ⟨n, hh⟩)
      obtain ⟨n, hh⟩ := hj7
      rw [show (cond (pm_cmp .ne ((Ar h 15) (i * 6 + m2)) 0) (47, [some (.ref 5), some (.ref 13), some (.int (nI m2)), some (.int x3), some (.int (nI i)), o5], [.int (nI 0)], h, 198, sl) (47, [some (.ref 5), some (.ref 13), some (.int (nI m2)), some (.int x3), some (.int (nI i)), o5], [.int (nI 1)], h, 198, sl) : pm_St) = (47, [some (.ref 5), some (.ref 13), some (.int (nI m2)), some (.int x3), some (.int (nI i)), o5], [.int (cond (cond (pm_cmp .ne ((Ar h 15) (i * 6 + m2)) 0) false true) 1 0)], h, 198, sl) from by cases (pm_cmp .ne ((Ar h 15) (i * 6 + m2)) 0) <;> rfl] at hh
      exact ⟨n, hh⟩)
  obtain ⟨n, hh⟩ := hj8
  rw [show (cond (pm_cmp .eq ((Ar h 15) (m2 * 6 + i)) 0) (47, [some (.ref 5), some (.ref 13), some (.int (nI m2)), some (.int x3), some (.int (nI i)), o5], [.int (nI 1)], h, 198, sl) (47, [some (.ref 5), some (.ref 13), some (.int (nI m2)), some (.int x3), some (.int (nI i)), o5], [.int (cond (cond (pm_cmp .ne ((Ar h 15) (i * 6 + m2)) 0) false true) 1 0)], h, 198, sl) : pm_St) = (47, [some (.ref 5), some (.ref 13), some (.int (nI m2)), some (.int x3), some (.int (nI i)), o5], [.int (cond (cond (pm_cmp .eq ((Ar h 15) (m2 * 6 + i)) 0) true (cond (pm_cmp .ne ((Ar h 15) (i * 6 + m2)) 0) false true)) 1 0)], h, 198, sl) from by cases (pm_cmp .eq ((Ar h 15) (m2 * 6 + i)) 0) <;> rfl] at hh
  obtain ⟨n, hh⟩ := rn_i rfl rfl rfl rfl hh
  obtain ⟨n, hh⟩ := rn_i rfl rfl rfl rfl hh
  obtain ⟨n, hh⟩ := rn_i rfl rfl rfl rfl hh
  have hh : pm_run PT n fr lo 32 (52, [some (.ref 5), some (.ref 13), some (.int (nI m2)), some (.int x3), some (.int (nI i)), some (.int (cond (cond (pm_cmp .eq ((Ar h 15) (m2 * 6 + i)) 0) true (cond (pm_cmp .ne ((Ar h 15) (i * 6 + m2)) 0) false true)) 1 0))], [.int (nI m2), .int (nI i)], h, 198, sl) = some R := hh
  obtain ⟨n, hh⟩ := en_cn (cc := .eq) (off := 15) (t := 67) (b := decide (i = m2)) (hI_eq (by omega) (by omega)) rfl rfl hh
  have hj12 : ∃ mJ, pm_run PT mJ fr lo 32 (cond (decide (i = m2)) (67, [some (.ref 5), some (.ref 13), some (.int (nI m2)), some (.int x3), some (.int (nI i)), some (.int (cond (cond (pm_cmp .eq ((Ar h 15) (m2 * 6 + i)) 0) true (cond (pm_cmp .ne ((Ar h 15) (i * 6 + m2)) 0) false true)) 1 0))], [], h, 198, sl) (67, [some (.ref 5), some (.ref 13), some (.int (nI m2)), some (.int (cond (cond (pm_cmp .eq ((Ar h 15) (m2 * 6 + i)) 0) true (cond (pm_cmp .ne ((Ar h 15) (i * 6 + m2)) 0) false true)) (x3 ||| (shl (nI 1) (nI i))) x3)), some (.int (nI i)), some (.int (cond (cond (pm_cmp .eq ((Ar h 15) (m2 * 6 + i)) 0) true (cond (pm_cmp .ne ((Ar h 15) (i * 6 + m2)) 0) false true)) 1 0))], [], h, 198, sl)) = some R := en_J (fun z9 => by
      have hh := en_t z9 hh
      have hh : pm_run PT n fr lo 32 (67, [some (.ref 5), some (.ref 13), some (.int (nI m2)), some (.int x3), some (.int (nI i)), some (.int (cond (cond (pm_cmp .eq ((Ar h 15) (m2 * 6 + i)) 0) true (cond (pm_cmp .ne ((Ar h 15) (i * 6 + m2)) 0) false true)) 1 0))], [], h, 198, sl) = some R := hh
      have y_z9 := of_decide_eq_true z9
      exact ⟨n, hh⟩) (fun z9 => by
      have hh := en_f z9 hh
      have hh : pm_run PT n fr lo 32 (55, [some (.ref 5), some (.ref 13), some (.int (nI m2)), some (.int x3), some (.int (nI i)), some (.int (cond (cond (pm_cmp .eq ((Ar h 15) (m2 * 6 + i)) 0) true (cond (pm_cmp .ne ((Ar h 15) (i * 6 + m2)) 0) false true)) 1 0))], [], h, 198, sl) = some R := hh
      have y_z9 := of_decide_eq_false z9
      obtain ⟨n, hh⟩ := rn_i rfl rfl rfl rfl hh
      have hh : pm_run PT n fr lo 32 (57, [some (.ref 5), some (.ref 13), some (.int (nI m2)), some (.int x3), some (.int (nI i)), some (.int (cond (cond (pm_cmp .eq ((Ar h 15) (m2 * 6 + i)) 0) true (cond (pm_cmp .ne ((Ar h 15) (i * 6 + m2)) 0) false true)) 1 0))], [.int (cond (cond (pm_cmp .eq ((Ar h 15) (m2 * 6 + i)) 0) true (cond (pm_cmp .ne ((Ar h 15) (i * 6 + m2)) 0) false true)) 1 0)], h, 198, sl) = some R := hh
      obtain ⟨n, hh⟩ := en_zn (cc := .eq) (off := 10) (t := 67) (b := !(cond (pm_cmp .eq ((Ar h 15) (m2 * 6 + i)) 0) true (cond (pm_cmp .ne ((Ar h 15) (i * 6 + m2)) 0) false true))) eb_eq rfl rfl hh
      have hj11 : ∃ mJ, pm_run PT mJ fr lo 32 (cond (cond (pm_cmp .eq ((Ar h 15) (m2 * 6 + i)) 0) true (cond (pm_cmp .ne ((Ar h 15) (i * 6 + m2)) 0) false true)) (67, [some (.ref 5), some (.ref 13), some (.int (nI m2)), some (.int (x3 ||| (shl (nI 1) (nI i)))), some (.int (nI i)), some (.int (cond (cond (pm_cmp .eq ((Ar h 15) (m2 * 6 + i)) 0) true (cond (pm_cmp .ne ((Ar h 15) (i * 6 + m2)) 0) false true)) 1 0))], [], h, 198, sl) (67, [some (.ref 5), some (.ref 13), some (.int (nI m2)), some (.int x3), some (.int (nI i)), some (.int (cond (cond (pm_cmp .eq ((Ar h 15) (m2 * 6 + i)) 0) true (cond (pm_cmp .ne ((Ar h 15) (i * 6 + m2)) 0) false true)) 1 0))], [], h, 198, sl)) = some R := en_J (fun z10 => by
          have hh := en_nt z10 hh
          have hh : pm_run PT n fr lo 32 (60, [some (.ref 5), some (.ref 13), some (.int (nI m2)), some (.int x3), some (.int (nI i)), some (.int (cond (cond (pm_cmp .eq ((Ar h 15) (m2 * 6 + i)) 0) true (cond (pm_cmp .ne ((Ar h 15) (i * 6 + m2)) 0) false true)) 1 0))], [], h, 198, sl) = some R := hh
          obtain ⟨n, hh⟩ := rn_i rfl rfl rfl rfl hh
          obtain ⟨n, hh⟩ := rn_i rfl rfl rfl rfl hh
          obtain ⟨n, hh⟩ := rn_i rfl rfl rfl rfl hh
          obtain ⟨n, hh⟩ := rn_i rfl rfl rfl rfl hh
          obtain ⟨n, hh⟩ := rn_i rfl rfl rfl rfl hh
          obtain ⟨n, hh⟩ := rn_i rfl rfl rfl rfl hh
          exact ⟨n, hh⟩) (fun z10 => by
          have hh := en_nf z10 hh
          have hh : pm_run PT n fr lo 32 (67, [some (.ref 5), some (.ref 13), some (.int (nI m2)), some (.int x3), some (.int (nI i)), some (.int (cond (cond (pm_cmp .eq ((Ar h 15) (m2 * 6 + i)) 0) true (cond (pm_cmp .ne ((Ar h 15) (i * 6 + m2)) 0) false true)) 1 0))], [], h, 198, sl) = some R := hh
          exact ⟨n, hh⟩)
      obtain ⟨n, hh⟩ := hj11
      rw [show (cond (cond (pm_cmp .eq ((Ar h 15) (m2 * 6 + i)) 0) true (cond (pm_cmp .ne ((Ar h 15) (i * 6 + m2)) 0) false true)) (67, [some (.ref 5), some (.ref 13), some (.int (nI m2)), some (.int (x3 ||| (shl (nI 1) (nI i)))), some (.int (nI i)), some (.int (cond (cond (pm_cmp .eq ((Ar h 15) (m2 * 6 + i)) 0) true (cond (pm_cmp .ne ((Ar h 15) (i * 6 + m2)) 0) false true)) 1 0))], [], h, 198, sl) (67, [some (.ref 5), some (.ref 13), some (.int (nI m2)), some (.int x3), some (.int (nI i)), some (.int (cond (cond (pm_cmp .eq ((Ar h 15) (m2 * 6 + i)) 0) true (cond (pm_cmp .ne ((Ar h 15) (i * 6 + m2)) 0) false true)) 1 0))], [], h, 198, sl) : pm_St) = (67, [some (.ref 5), some (.ref 13), some (.int (nI m2)), some (.int (cond (cond (pm_cmp .eq ((Ar h 15) (m2 * 6 + i)) 0) true (cond (pm_cmp .ne ((Ar h 15) (i * 6 + m2)) 0) false true)) (x3 ||| (shl (nI 1) (nI i))) x3)), some (.int (nI i)), some (.int (cond (cond (pm_cmp .eq ((Ar h 15) (m2 * 6 + i)) 0) true (cond (pm_cmp .ne ((Ar h 15) (i * 6 + m2)) 0) false true)) 1 0))], [], h, 198, sl) from by cases (cond (pm_cmp .eq ((Ar h 15) (m2 * 6 + i)) 0) true (cond (pm_cmp .ne ((Ar h 15) (i * 6 + m2)) 0) false true)) <;> rfl] at hh
      exact ⟨n, hh⟩)
  obtain ⟨n, hh⟩ := hj12
  rw [show (cond (decide (i = m2)) (67, [some (.ref 5), some (.ref 13), some (.int (nI m2)), some (.int x3), some (.int (nI i)), some (.int (cond (cond (pm_cmp .eq ((Ar h 15) (m2 * 6 + i)) 0) true (cond (pm_cmp .ne ((Ar h 15) (i * 6 + m2)) 0) false true)) 1 0))], [], h, 198, sl) (67, [some (.ref 5), some (.ref 13), some (.int (nI m2)), some (.int (cond (cond (pm_cmp .eq ((Ar h 15) (m2 * 6 + i)) 0) true (cond (pm_cmp .ne ((Ar h 15) (i * 6 + m2)) 0) false true)) (x3 ||| (shl (nI 1) (nI i))) x3)), some (.int (nI i)), some (.int (cond (cond (pm_cmp .eq ((Ar h 15) (m2 * 6 + i)) 0) true (cond (pm_cmp .ne ((Ar h 15) (i * 6 + m2)) 0) false true)) 1 0))], [], h, 198, sl) : pm_St) = (67, [some (.ref 5), some (.ref 13), some (.int (nI m2)), some (.int (cond (decide (i = m2)) x3 (cond (cond (pm_cmp .eq ((Ar h 15) (m2 * 6 + i)) 0) true (cond (pm_cmp .ne ((Ar h 15) (i * 6 + m2)) 0) false true)) (x3 ||| (shl (nI 1) (nI i))) x3))), some (.int (nI i)), some (.int (cond (cond (pm_cmp .eq ((Ar h 15) (m2 * 6 + i)) 0) true (cond (pm_cmp .ne ((Ar h 15) (i * 6 + m2)) 0) false true)) 1 0))], [], h, 198, sl) from by cases (decide (i = m2)) <;> rfl] at hh
  have hh : pm_run PT n fr lo 32 (67, [some (.ref 5), some (.ref 13), some (.int (nI m2)), some (.int (cond (decide (i = m2)) x3 (cond (cond (pm_cmp .eq ((Ar h 15) (m2 * 6 + i)) 0) true (cond (pm_cmp .ne ((Ar h 15) (i * 6 + m2)) 0) false true)) (x3 ||| (shl (nI 1) (nI i))) x3))), some (.int (nI i)), some (.int (cond (cond (pm_cmp .eq ((Ar h 15) (m2 * 6 + i)) 0) true (cond (pm_cmp .ne ((Ar h 15) (i * 6 + m2)) 0) false true)) 1 0))], [], h, 198, sl) = some R := hh
  obtain ⟨n, hh⟩ := en_inc (x := i) (c := 1) (j := 4) rfl rfl (by decide) hh
  have hh : pm_run PT n fr lo 32 (70, [some (.ref 5), some (.ref 13), some (.int (nI m2)), some (.int (cond (decide (i = m2)) x3 (cond (cond (pm_cmp .eq ((Ar h 15) (m2 * 6 + i)) 0) true (cond (pm_cmp .ne ((Ar h 15) (i * 6 + m2)) 0) false true)) (x3 ||| (shl (nI 1) (nI i))) x3))), some (.int (nI (i + 1))), some (.int (cond (cond (pm_cmp .eq ((Ar h 15) (m2 * 6 + i)) 0) true (cond (pm_cmp .ne ((Ar h 15) (i * 6 + m2)) 0) false true)) 1 0))], [], h, 198, sl) = some R := hh
  obtain ⟨n, hh⟩ := rn_i rfl rfl rfl rfl hh
  have ed : v32_5b q cc gc (Ar h 15) m2 i x3 = cond (decide (i = m2)) x3 (cond (cond (pm_cmp .eq ((Ar h 15) (m2 * 6 + i)) 0) true (cond (pm_cmp .ne ((Ar h 15) (i * 6 + m2)) 0) false true)) (x3 ||| (shl (nI 1) (nI i))) x3) := rfl
  rw [ed]
  exact ⟨n, some (.int (cond (cond (pm_cmp .eq ((Ar h 15) (m2 * 6 + i)) 0) true (cond (pm_cmp .ne ((Ar h 15) (i * 6 + m2)) 0) false true)) 1 0)), hh⟩
theorem v32_5_ok {fr lo sl cc gc : Nat} {q : QT} {R : pm_Rs} {m2 : Nat} : ∀ {j i : Nat} {x3 : Int32} {o5 : Option Value} {h : pm_H} {n : Nat}, cc - i = j → i + j < 1000000 → HC q cc gc h → m2 < 10000 → pm_run PT n fr lo 32 (5, [some (.ref 5), some (.ref 13), some (.int (nI m2)), some (.int x3), some (.int (nI i)), o5], [], h, 198, sl) = some R → ∃ m wc w5, pm_run PT m fr lo 32 (73, [some (.ref 5), some (.ref 13), some (.int (nI m2)), some (.int (v32_5 q cc gc (Ar h 15) m2 j i x3)), wc, w5], [], h, 198, sl) = some R := by
  intro j
  induction j with
  | zero =>
    intro i x3 o5 h n e eI hw h_m2 hh
    obtain ⟨n, hh⟩ := v32_5_e hw h_m2 (by omega) (by omega) hh
    exact ⟨n, _, o5, hh⟩
  | succ j ih =>
    intro i x3 o5 h n e eI hw h_m2 hh
    obtain ⟨n, w5, hh⟩ := v32_5_s hw h_m2 (by omega) (by omega) hh
    obtain ⟨n, wc, v5, hh⟩ := ih (by omega) (by omega) hw h_m2 hh
    exact ⟨n, wc, v5, hh⟩
def v32 (q : QT) (cc gc : Nat) (d0 : Nat → Int32) (c : Nat) : Int32 := (v32_5 q cc gc (d0) c cc 0 (nI 0))
theorem v32_ok {n fr lo sl cc gc : Nat} {q : QT} {h : pm_H} {R : pm_Rs} {c : Nat} (hw : HC q cc gc h) (h_c : c < 10000) (hh : pm_run PT n fr lo 32 (0, pm_l0 [.ref 5, .ref 13, .int (nI c)] 6, [], h, 198, sl) = some R) : R = (some (.int (v32 q cc gc (Ar h 15) c)), h, 198, sl) := by
  have hcc := hw.cb
  have hgc := hw.gb
  have hzr := hw.zr
  obtain ⟨n, hh⟩ := rn_i rfl rfl rfl rfl hh
  obtain ⟨n, hh⟩ := rn_i rfl rfl rfl rfl hh
  obtain ⟨n, hh⟩ := rn_i rfl rfl rfl rfl hh
  obtain ⟨n, hh⟩ := rn_i rfl rfl rfl rfl hh
  have hh : pm_run PT n fr lo 32 (5, [some (.ref 5), some (.ref 13), some (.int (nI c)), some (.int (nI 0)), some (.int (nI 0)), none], [], h, 198, sl) = some R := hh
  obtain ⟨n, u2, u1, hh⟩ := v32_5_ok (m2 := c)  (i := 0) (x3 := (nI 0)) (o5 := none) (j := cc) (by omega) (by omega) hw (by omega) hh
  have hh : pm_run PT n fr lo 32 (73, [some (.ref 5), some (.ref 13), some (.int (nI c)), some (.int (v32_5 q cc gc (Ar h 15) c cc 0 (nI 0))), u2, u1], [], h, 198, sl) = some R := hh
  obtain ⟨n, hh⟩ := rn_i rfl rfl rfl rfl hh
  have hh : pm_run PT n fr lo 32 (74, [some (.ref 5), some (.ref 13), some (.int (nI c)), some (.int (v32_5 q cc gc (Ar h 15) c cc 0 (nI 0))), u2, u1], [.int (v32_5 q cc gc (Ar h 15) c cc 0 (nI 0))], h, 198, sl) = some R := hh
  have er3 : R = (some (.int (v32_5 q cc gc (Ar h 15) c cc 0 (nI 0))), h, 198, sl) := (rn_ret rfl (Or.inl rfl) hh).2
  have ed : v32 q cc gc (Ar h 15) c = (v32_5 q cc gc (Ar h 15) c cc 0 (nI 0)) := rfl
  rw [ed]
  exact er3
def v36_4b (q : QT) (cc gc : Nat) (d0 : Nat → Int32) (i : Nat) (x2 : Int32) : Int32 := x2 + ((d0) i)
def v36_4 (q : QT) (cc gc : Nat) (d0 : Nat → Int32) (j i : Nat) (a : Int32) : Int32 := lp (fun i a => v36_4b q cc gc d0 i a) j i a
theorem v36_4_e {n fr lo sl cc gc : Nat} {q : QT} {h : pm_H} {R : pm_Rs} {i : Nat} {x2 : Int32} (hw : HC q cc gc h) (hi : cc ≤ i) (hI : i < 1000000) (hh : pm_run PT n fr lo 36 (4, [some (.ref 5), some (.ref 13), some (.int x2), some (.int (nI i))], [], h, 198, sl) = some R) : ∃ m, pm_run PT m fr lo 36 (27, [some (.ref 5), some (.ref 13), some (.int x2), some (.int (nI i))], [], h, 198, sl) = some R := by
  have hcc := hw.cb
  have hgc := hw.gb
  have hzr := hw.zr
  obtain ⟨n, hh⟩ := rn_i rfl rfl rfl rfl hh
  obtain ⟨n, hh⟩ := rn_i rfl rfl rfl rfl hh
  have hh : pm_run PT n fr lo 36 (6, [some (.ref 5), some (.ref 13), some (.int x2), some (.int (nI i))], [.ref 5, .int (nI i)], h, 198, sl) = some R := hh
  obtain ⟨n, hh⟩ := rn_gi (x := nI cc) hw.wt rfl rfl (by decide) rfl (by decide) rfl hw.x0 hh
  have hh : pm_run PT n fr lo 36 (9, [some (.ref 5), some (.ref 13), some (.int x2), some (.int (nI i))], [.int (nI cc), .int (nI i)], h, 198, sl) = some R := hh
  obtain ⟨n, hh⟩ := en_cn (cc := .ge) (off := 18) (t := 27) (b := decide (cc ≤ i)) (hI_ge (by omega) (by omega)) rfl rfl hh
  have hh := en_t (show decide (cc ≤ i) = true from decide_eq_true (by omega)) hh
  have hh : pm_run PT n fr lo 36 (27, [some (.ref 5), some (.ref 13), some (.int x2), some (.int (nI i))], [], h, 198, sl) = some R := hh
  exact ⟨n, hh⟩
theorem v36_4_s {n fr lo sl cc gc : Nat} {q : QT} {h : pm_H} {R : pm_Rs} {i : Nat} {x2 : Int32} (hw : HC q cc gc h) (hi : i < cc) (hI : i < 1000000) (hh : pm_run PT n fr lo 36 (4, [some (.ref 5), some (.ref 13), some (.int x2), some (.int (nI i))], [], h, 198, sl) = some R) : ∃ m, pm_run PT m fr lo 36 (4, [some (.ref 5), some (.ref 13), some (.int (v36_4b q cc gc (Ar h 14) i x2)), some (.int (nI (i + 1)))], [], h, 198, sl) = some R := by
  have hcc := hw.cb
  have hgc := hw.gb
  have hzr := hw.zr
  obtain ⟨n, hh⟩ := rn_i rfl rfl rfl rfl hh
  obtain ⟨n, hh⟩ := rn_i rfl rfl rfl rfl hh
  have hh : pm_run PT n fr lo 36 (6, [some (.ref 5), some (.ref 13), some (.int x2), some (.int (nI i))], [.ref 5, .int (nI i)], h, 198, sl) = some R := hh
  obtain ⟨n, hh⟩ := rn_gi (x := nI cc) hw.wt rfl rfl (by decide) rfl (by decide) rfl hw.x0 hh
  have hh : pm_run PT n fr lo 36 (9, [some (.ref 5), some (.ref 13), some (.int x2), some (.int (nI i))], [.int (nI cc), .int (nI i)], h, 198, sl) = some R := hh
  obtain ⟨n, hh⟩ := en_cn (cc := .ge) (off := 18) (t := 27) (b := decide (cc ≤ i)) (hI_ge (by omega) (by omega)) rfl rfl hh
  have hh := en_f (show decide (cc ≤ i) = false from decide_eq_false (by omega)) hh
  have hh : pm_run PT n fr lo 36 (12, [some (.ref 5), some (.ref 13), some (.int x2), some (.int (nI i))], [], h, 198, sl) = some R := hh
  obtain ⟨n, hh⟩ := rn_i rfl rfl rfl rfl hh
  obtain ⟨n, hh⟩ := rn_i rfl rfl rfl rfl hh
  have hh : pm_run PT n fr lo 36 (14, [some (.ref 5), some (.ref 13), some (.int x2), some (.int (nI i))], [.ref 13, .int x2], h, 198, sl) = some R := hh
  obtain ⟨n, hh⟩ := rn_gr hw.wt rfl rfl (by decide) rfl (by decide) (show _ = some (2, ((14 : Nat) : Int), 1) from rfl) rfl hh
  obtain ⟨n, hh⟩ := rn_i rfl rfl rfl rfl hh
  have hh : pm_run PT n fr lo 36 (18, [some (.ref 5), some (.ref 13), some (.int x2), some (.int (nI i))], [.int (nI i), .ref 14, .int x2], h, 198, sl) = some R := hh
  obtain ⟨n, hx1, hh⟩ := en_lu (t := i) (f := Ar h 14) (w := (Ar h 14) i) (nI_clamp (by omega)) hw.wt rfl (by decide) rfl (by decide) rfl (fun _ => rfl) hh
  obtain ⟨n, hh⟩ := rn_i rfl rfl rfl rfl hh
  obtain ⟨n, hh⟩ := rn_i rfl rfl rfl rfl hh
  have hh : pm_run PT n fr lo 36 (21, [some (.ref 5), some (.ref 13), some (.int (x2 + ((Ar h 14) i))), some (.int (nI i))], [], h, 198, sl) = some R := hh
  obtain ⟨n, hh⟩ := en_inc (x := i) (c := 1) (j := 3) rfl rfl (by decide) hh
  have hh : pm_run PT n fr lo 36 (24, [some (.ref 5), some (.ref 13), some (.int (x2 + ((Ar h 14) i))), some (.int (nI (i + 1)))], [], h, 198, sl) = some R := hh
  obtain ⟨n, hh⟩ := rn_i rfl rfl rfl rfl hh
  have ed : v36_4b q cc gc (Ar h 14) i x2 = x2 + ((Ar h 14) i) := rfl
  rw [ed]
  exact ⟨n, hh⟩
theorem v36_4_ok {fr lo sl cc gc : Nat} {q : QT} {R : pm_Rs} : ∀ {j i : Nat} {x2 : Int32} {h : pm_H} {n : Nat}, cc - i = j → i + j < 1000000 → HC q cc gc h → pm_run PT n fr lo 36 (4, [some (.ref 5), some (.ref 13), some (.int x2), some (.int (nI i))], [], h, 198, sl) = some R → ∃ m wc, pm_run PT m fr lo 36 (27, [some (.ref 5), some (.ref 13), some (.int (v36_4 q cc gc (Ar h 14) j i x2)), wc], [], h, 198, sl) = some R := by
  intro j
  induction j with
  | zero =>
    intro i x2 h n e eI hw hh
    obtain ⟨n, hh⟩ := v36_4_e hw (by omega) (by omega) hh
    exact ⟨n, _, hh⟩
  | succ j ih =>
    intro i x2 h n e eI hw hh
    obtain ⟨n, hh⟩ := v36_4_s hw (by omega) (by omega) hh
    obtain ⟨n, wc, hh⟩ := ih (by omega) (by omega) hw hh
    exact ⟨n, wc, hh⟩
def v36 (q : QT) (cc gc : Nat) (d0 : Nat → Int32) : Int32 := (v36_4 q cc gc (d0) cc 0 (nI 0))
theorem v36_ok {n fr lo sl cc gc : Nat} {q : QT} {h : pm_H} {R : pm_Rs} (hw : HC q cc gc h) (hh : pm_run PT n fr lo 36 (0, pm_l0 [.ref 5, .ref 13] 4, [], h, 198, sl) = some R) : R = (some (.int (v36 q cc gc (Ar h 14))), h, 198, sl) := by
  have hcc := hw.cb
  have hgc := hw.gb
  have hzr := hw.zr
  obtain ⟨n, hh⟩ := rn_i rfl rfl rfl rfl hh
  obtain ⟨n, hh⟩ := rn_i rfl rfl rfl rfl hh
  obtain ⟨n, hh⟩ := rn_i rfl rfl rfl rfl hh
  obtain ⟨n, hh⟩ := rn_i rfl rfl rfl rfl hh
  have hh : pm_run PT n fr lo 36 (4, [some (.ref 5), some (.ref 13), some (.int (nI 0)), some (.int (nI 0))], [], h, 198, sl) = some R := hh
  obtain ⟨n, u1, hh⟩ := v36_4_ok  (i := 0) (x2 := (nI 0)) (j := cc) (by omega) (by omega) hw hh
  have hh : pm_run PT n fr lo 36 (27, [some (.ref 5), some (.ref 13), some (.int (v36_4 q cc gc (Ar h 14) cc 0 (nI 0))), u1], [], h, 198, sl) = some R := hh
  obtain ⟨n, hh⟩ := rn_i rfl rfl rfl rfl hh
  have hh : pm_run PT n fr lo 36 (28, [some (.ref 5), some (.ref 13), some (.int (v36_4 q cc gc (Ar h 14) cc 0 (nI 0))), u1], [.int (v36_4 q cc gc (Ar h 14) cc 0 (nI 0))], h, 198, sl) = some R := hh
  have er2 : R = (some (.int (v36_4 q cc gc (Ar h 14) cc 0 (nI 0))), h, 198, sl) := (rn_ret rfl (Or.inl rfl) hh).2
  have ed : v36 q cc gc (Ar h 14) = (v36_4 q cc gc (Ar h 14) cc 0 (nI 0)) := rfl
  rw [ed]
  exact er2
def v37_5b (q : QT) (cc gc : Nat) (d0 : Nat → Int32) (m2 : Nat) (i : Nat) (x3 : Int32) : Int32 := cond (decide (i = m2)) x3 (x3 + ((d0) (i * 6 + m2)))
def v37_5 (q : QT) (cc gc : Nat) (d0 : Nat → Int32) (m2 : Nat) (j i : Nat) (a : Int32) : Int32 := lp (fun i a => v37_5b q cc gc d0 m2 i a) j i a
theorem v37_5_e {n fr lo sl cc gc : Nat} {q : QT} {h : pm_H} {R : pm_Rs} {m2 : Nat} {i : Nat} {x3 : Int32} (hw : HC q cc gc h) (h_m2 : m2 < 10000) (hi : cc ≤ i) (hI : i < 1000000) (hh : pm_run PT n fr lo 37 (5, [some (.ref 5), some (.ref 13), some (.int (nI m2)), some (.int x3), some (.int (nI i))], [], h, 198, sl) = some R) : ∃ m, pm_run PT m fr lo 37 (40, [some (.ref 5), some (.ref 13), some (.int (nI m2)), some (.int x3), some (.int (nI i))], [], h, 198, sl) = some R := by
  have hcc := hw.cb
  have hgc := hw.gb
  have hzr := hw.zr
  obtain ⟨n, hh⟩ := rn_i rfl rfl rfl rfl hh
  obtain ⟨n, hh⟩ := rn_i rfl rfl rfl rfl hh
  have hh : pm_run PT n fr lo 37 (8, [some (.ref 5), some (.ref 13), some (.int (nI m2)), some (.int x3), some (.int (nI i))], [.ref 5, .int (nI i)], h, 198, sl) = some R := hh
  obtain ⟨n, hh⟩ := rn_gi (x := nI cc) hw.wt rfl rfl (by decide) rfl (by decide) rfl hw.x0 hh
  have hh : pm_run PT n fr lo 37 (11, [some (.ref 5), some (.ref 13), some (.int (nI m2)), some (.int x3), some (.int (nI i))], [.int (nI cc), .int (nI i)], h, 198, sl) = some R := hh
  obtain ⟨n, hh⟩ := en_cn (cc := .ge) (off := 29) (t := 40) (b := decide (cc ≤ i)) (hI_ge (by omega) (by omega)) rfl rfl hh
  have hh := en_t (show decide (cc ≤ i) = true from decide_eq_true (by omega)) hh
  have hh : pm_run PT n fr lo 37 (40, [some (.ref 5), some (.ref 13), some (.int (nI m2)), some (.int x3), some (.int (nI i))], [], h, 198, sl) = some R := hh
  exact ⟨n, hh⟩
theorem v37_5_s {n fr lo sl cc gc : Nat} {q : QT} {h : pm_H} {R : pm_Rs} {m2 : Nat} {i : Nat} {x3 : Int32} (hw : HC q cc gc h) (h_m2 : m2 < 10000) (hi : i < cc) (hI : i < 1000000) (hh : pm_run PT n fr lo 37 (5, [some (.ref 5), some (.ref 13), some (.int (nI m2)), some (.int x3), some (.int (nI i))], [], h, 198, sl) = some R) : ∃ m, pm_run PT m fr lo 37 (5, [some (.ref 5), some (.ref 13), some (.int (nI m2)), some (.int (v37_5b q cc gc (Ar h 15) m2 i x3)), some (.int (nI (i + 1)))], [], h, 198, sl) = some R := by
  have hcc := hw.cb
  have hgc := hw.gb
  have hzr := hw.zr
  obtain ⟨n, hh⟩ := rn_i rfl rfl rfl rfl hh
  obtain ⟨n, hh⟩ := rn_i rfl rfl rfl rfl hh
  have hh : pm_run PT n fr lo 37 (8, [some (.ref 5), some (.ref 13), some (.int (nI m2)), some (.int x3), some (.int (nI i))], [.ref 5, .int (nI i)], h, 198, sl) = some R := hh
  obtain ⟨n, hh⟩ := rn_gi (x := nI cc) hw.wt rfl rfl (by decide) rfl (by decide) rfl hw.x0 hh
  have hh : pm_run PT n fr lo 37 (11, [some (.ref 5), some (.ref 13), some (.int (nI m2)), some (.int x3), some (.int (nI i))], [.int (nI cc), .int (nI i)], h, 198, sl) = some R := hh
  obtain ⟨n, hh⟩ := en_cn (cc := .ge) (off := 29) (t := 40) (b := decide (cc ≤ i)) (hI_ge (by omega) (by omega)) rfl rfl hh
  have hh := en_f (show decide (cc ≤ i) = false from decide_eq_false (by omega)) hh
  have hh : pm_run PT n fr lo 37 (14, [some (.ref 5), some (.ref 13), some (.int (nI m2)), some (.int x3), some (.int (nI i))], [], h, 198, sl) = some R := hh
  obtain ⟨n, hh⟩ := rn_i rfl rfl rfl rfl hh
  obtain ⟨n, hh⟩ := rn_i rfl rfl rfl rfl hh
  have hh : pm_run PT n fr lo 37 (17, [some (.ref 5), some (.ref 13), some (.int (nI m2)), some (.int x3), some (.int (nI i))], [.int (nI m2), .int (nI i)], h, 198, sl) = some R := hh
  obtain ⟨n, hh⟩ := en_cn (cc := .eq) (off := 17) (t := 34) (b := decide (i = m2)) (hI_eq (by omega) (by omega)) rfl rfl hh
  have hj4 : ∃ mJ, pm_run PT mJ fr lo 37 (cond (decide (i = m2)) (34, [some (.ref 5), some (.ref 13), some (.int (nI m2)), some (.int x3), some (.int (nI i))], [], h, 198, sl) (34, [some (.ref 5), some (.ref 13), some (.int (nI m2)), some (.int (x3 + ((Ar h 15) (i * 6 + m2)))), some (.int (nI i))], [], h, 198, sl)) = some R := en_J (fun z1 => by
      have hh := en_t z1 hh
      have hh : pm_run PT n fr lo 37 (34, [some (.ref 5), some (.ref 13), some (.int (nI m2)), some (.int x3), some (.int (nI i))], [], h, 198, sl) = some R := hh
      have y_z1 := of_decide_eq_true z1
      exact ⟨n, hh⟩) (fun z1 => by
      have hh := en_f z1 hh
      have hh : pm_run PT n fr lo 37 (20, [some (.ref 5), some (.ref 13), some (.int (nI m2)), some (.int x3), some (.int (nI i))], [], h, 198, sl) = some R := hh
      have y_z1 := of_decide_eq_false z1
      obtain ⟨n, hh⟩ := rn_i rfl rfl rfl rfl hh
      obtain ⟨n, hh⟩ := rn_i rfl rfl rfl rfl hh
      have hh : pm_run PT n fr lo 37 (22, [some (.ref 5), some (.ref 13), some (.int (nI m2)), some (.int x3), some (.int (nI i))], [.ref 13, .int x3], h, 198, sl) = some R := hh
      obtain ⟨n, hh⟩ := rn_gr hw.wt rfl rfl (by decide) rfl (by decide) (show _ = some (2, ((15 : Nat) : Int), 1) from rfl) rfl hh
      obtain ⟨n, hh⟩ := rn_i rfl rfl rfl rfl hh
      obtain ⟨n, hh⟩ := rn_i rfl rfl rfl rfl hh
      have hh : pm_run PT n fr lo 37 (28, [some (.ref 5), some (.ref 13), some (.int (nI m2)), some (.int x3), some (.int (nI i))], [.int (nI m2), .int (nI i), .ref 15, .int x3], h, 198, sl) = some R := hh
      obtain ⟨n, fr1, lo1, r1, hh1, hh⟩ := rn_call (w := 3) (t := 160) rfl rfl hh
      have hh1 : pm_run PT n fr1 lo1 160 (0, [some (.int (nI i)), some (.int (nI m2))], [], h, 198, sl) = some r1 := hh1
      obtain ⟨n1, hh1⟩ := rn_i rfl rfl rfl rfl hh1
      obtain ⟨n1, hh1⟩ := rn_i rfl rfl rfl rfl hh1
      have hh1 : pm_run PT n1 fr1 lo1 160 (3, [some (.int (nI i)), some (.int (nI m2))], [.int (nI 6), .int (nI i)], h, 198, sl) = some r1 := hh1
      obtain ⟨n1, hh1⟩ := en_mul rfl hh1
      have hh1 : pm_run PT n1 fr1 lo1 160 (4, [some (.int (nI i)), some (.int (nI m2))], [.int (nI (i * 6))], h, 198, sl) = some r1 := hh1
      obtain ⟨n1, hh1⟩ := rn_i rfl rfl rfl rfl hh1
      have hh1 : pm_run PT n1 fr1 lo1 160 (5, [some (.int (nI i)), some (.int (nI m2))], [.int (nI m2), .int (nI (i * 6))], h, 198, sl) = some r1 := hh1
      obtain ⟨n1, hh1⟩ := en_add rfl hh1
      have hh1 : pm_run PT n1 fr1 lo1 160 (6, [some (.int (nI i)), some (.int (nI m2))], [.int (nI (i * 6 + m2))], h, 198, sl) = some r1 := hh1
      have hh1 : pm_run PT n1 fr1 lo1 160 (6, [some (.int (nI i)), some (.int (nI m2))], [.int (nI (i * 6 + m2))], h, 198, sl) = some r1 := hh1
      have er2 : r1 = (some (.int (nI (i * 6 + m2))), h, 198, sl) := (rn_ret rfl (Or.inl rfl) hh1).2
      subst er2
      have hh : pm_run PT n fr lo 37 (31, [some (.ref 5), some (.ref 13), some (.int (nI m2)), some (.int x3), some (.int (nI i))], [.int (nI (i * 6 + m2)), .ref 15, .int x3], h, 198, sl) = some R := hh
      obtain ⟨n, hx3, hh⟩ := en_lu (t := i * 6 + m2) (f := Ar h 15) (w := (Ar h 15) (i * 6 + m2)) (nI_clamp (by omega)) hw.wt rfl (by decide) rfl (by decide) rfl (fun _ => rfl) hh
      obtain ⟨n, hh⟩ := rn_i rfl rfl rfl rfl hh
      obtain ⟨n, hh⟩ := rn_i rfl rfl rfl rfl hh
      exact ⟨n, hh⟩)
  obtain ⟨n, hh⟩ := hj4
  rw [show (cond (decide (i = m2)) (34, [some (.ref 5), some (.ref 13), some (.int (nI m2)), some (.int x3), some (.int (nI i))], [], h, 198, sl) (34, [some (.ref 5), some (.ref 13), some (.int (nI m2)), some (.int (x3 + ((Ar h 15) (i * 6 + m2)))), some (.int (nI i))], [], h, 198, sl) : pm_St) = (34, [some (.ref 5), some (.ref 13), some (.int (nI m2)), some (.int (cond (decide (i = m2)) x3 (x3 + ((Ar h 15) (i * 6 + m2))))), some (.int (nI i))], [], h, 198, sl) from by cases (decide (i = m2)) <;> rfl] at hh
  have hh : pm_run PT n fr lo 37 (34, [some (.ref 5), some (.ref 13), some (.int (nI m2)), some (.int (cond (decide (i = m2)) x3 (x3 + ((Ar h 15) (i * 6 + m2))))), some (.int (nI i))], [], h, 198, sl) = some R := hh
  obtain ⟨n, hh⟩ := en_inc (x := i) (c := 1) (j := 4) rfl rfl (by decide) hh
  have hh : pm_run PT n fr lo 37 (37, [some (.ref 5), some (.ref 13), some (.int (nI m2)), some (.int (cond (decide (i = m2)) x3 (x3 + ((Ar h 15) (i * 6 + m2))))), some (.int (nI (i + 1)))], [], h, 198, sl) = some R := hh
  obtain ⟨n, hh⟩ := rn_i rfl rfl rfl rfl hh
  have ed : v37_5b q cc gc (Ar h 15) m2 i x3 = cond (decide (i = m2)) x3 (x3 + ((Ar h 15) (i * 6 + m2))) := rfl
  rw [ed]
  exact ⟨n, hh⟩
theorem v37_5_ok {fr lo sl cc gc : Nat} {q : QT} {R : pm_Rs} {m2 : Nat} : ∀ {j i : Nat} {x3 : Int32} {h : pm_H} {n : Nat}, cc - i = j → i + j < 1000000 → HC q cc gc h → m2 < 10000 → pm_run PT n fr lo 37 (5, [some (.ref 5), some (.ref 13), some (.int (nI m2)), some (.int x3), some (.int (nI i))], [], h, 198, sl) = some R → ∃ m wc, pm_run PT m fr lo 37 (40, [some (.ref 5), some (.ref 13), some (.int (nI m2)), some (.int (v37_5 q cc gc (Ar h 15) m2 j i x3)), wc], [], h, 198, sl) = some R := by
  intro j
  induction j with
  | zero =>
    intro i x3 h n e eI hw h_m2 hh
    obtain ⟨n, hh⟩ := v37_5_e hw h_m2 (by omega) (by omega) hh
    exact ⟨n, _, hh⟩
  | succ j ih =>
    intro i x3 h n e eI hw h_m2 hh
    obtain ⟨n, hh⟩ := v37_5_s hw h_m2 (by omega) (by omega) hh
    obtain ⟨n, wc, hh⟩ := ih (by omega) (by omega) hw h_m2 hh
    exact ⟨n, wc, hh⟩
def v37 (q : QT) (cc gc : Nat) (d0 : Nat → Int32) (c : Nat) : Int32 := (v37_5 q cc gc (d0) c cc 0 (nI 0))
theorem v37_ok {n fr lo sl cc gc : Nat} {q : QT} {h : pm_H} {R : pm_Rs} {c : Nat} (hw : HC q cc gc h) (h_c : c < 10000) (hh : pm_run PT n fr lo 37 (0, pm_l0 [.ref 5, .ref 13, .int (nI c)] 5, [], h, 198, sl) = some R) : R = (some (.int (v37 q cc gc (Ar h 15) c)), h, 198, sl) := by
  have hcc := hw.cb
  have hgc := hw.gb
  have hzr := hw.zr
  obtain ⟨n, hh⟩ := rn_i rfl rfl rfl rfl hh
  obtain ⟨n, hh⟩ := rn_i rfl rfl rfl rfl hh
  obtain ⟨n, hh⟩ := rn_i rfl rfl rfl rfl hh
  obtain ⟨n, hh⟩ := rn_i rfl rfl rfl rfl hh
  have hh : pm_run PT n fr lo 37 (5, [some (.ref 5), some (.ref 13), some (.int (nI c)), some (.int (nI 0)), some (.int (nI 0))], [], h, 198, sl) = some R := hh
  obtain ⟨n, u1, hh⟩ := v37_5_ok (m2 := c)  (i := 0) (x3 := (nI 0)) (j := cc) (by omega) (by omega) hw (by omega) hh
  have hh : pm_run PT n fr lo 37 (40, [some (.ref 5), some (.ref 13), some (.int (nI c)), some (.int (v37_5 q cc gc (Ar h 15) c cc 0 (nI 0))), u1], [], h, 198, sl) = some R := hh
  obtain ⟨n, hh⟩ := rn_i rfl rfl rfl rfl hh
  have hh : pm_run PT n fr lo 37 (41, [some (.ref 5), some (.ref 13), some (.int (nI c)), some (.int (v37_5 q cc gc (Ar h 15) c cc 0 (nI 0))), u1], [.int (v37_5 q cc gc (Ar h 15) c cc 0 (nI 0))], h, 198, sl) = some R := hh
  have er2 : R = (some (.int (v37_5 q cc gc (Ar h 15) c cc 0 (nI 0))), h, 198, sl) := (rn_ret rfl (Or.inl rfl) hh).2
  have ed : v37 q cc gc (Ar h 15) c = (v37_5 q cc gc (Ar h 15) c cc 0 (nI 0)) := rfl
  rw [ed]
  exact er2
def v7_5b (q : QT) (cc gc : Nat) (d0 : Nat → Int32) (m2 : Nat) (i : Nat) (x3 : Int32) : Int32 := x3 + ((d0) (m2 * 6 + i))
def v7_5 (q : QT) (cc gc : Nat) (d0 : Nat → Int32) (m2 : Nat) (j i : Nat) (a : Int32) : Int32 := lp (fun i a => v7_5b q cc gc d0 m2 i a) j i a
theorem v7_5_e {n fr lo sl cc gc : Nat} {q : QT} {h : pm_H} {R : pm_Rs} {m2 : Nat} {i : Nat} {x3 : Int32} (hw : HC q cc gc h) (h_m2 : m2 < 10000) (hi : cc ≤ i) (hI : i < 1000000) (hh : pm_run PT n fr lo 7 (5, [some (.ref 151), some (.ref 13), some (.int (nI m2)), some (.int x3), some (.int (nI i))], [], h, 198, sl) = some R) : ∃ m, pm_run PT m fr lo 7 (37, [some (.ref 151), some (.ref 13), some (.int (nI m2)), some (.int x3), some (.int (nI i))], [], h, 198, sl) = some R := by
  have hcc := hw.cb
  have hgc := hw.gb
  have hzr := hw.zr
  obtain ⟨n, hh⟩ := rn_i rfl rfl rfl rfl hh
  obtain ⟨n, hh⟩ := rn_i rfl rfl rfl rfl hh
  have hh : pm_run PT n fr lo 7 (8, [some (.ref 151), some (.ref 13), some (.int (nI m2)), some (.int x3), some (.int (nI i))], [.ref 151, .int (nI i)], h, 198, sl) = some R := hh
  obtain ⟨n, hh⟩ := rn_gr hw.wt rfl rfl (by decide) rfl (by decide) (show _ = some (2, ((5 : Nat) : Int), 1) from rfl) rfl hh
  have hh : pm_run PT n fr lo 7 (11, [some (.ref 151), some (.ref 13), some (.int (nI m2)), some (.int x3), some (.int (nI i))], [.ref 5, .int (nI i)], h, 198, sl) = some R := hh
  obtain ⟨n, hh⟩ := rn_gi (x := nI cc) hw.wt rfl rfl (by decide) rfl (by decide) rfl hw.x0 hh
  have hh : pm_run PT n fr lo 7 (14, [some (.ref 151), some (.ref 13), some (.int (nI m2)), some (.int x3), some (.int (nI i))], [.int (nI cc), .int (nI i)], h, 198, sl) = some R := hh
  obtain ⟨n, hh⟩ := en_cn (cc := .ge) (off := 23) (t := 37) (b := decide (cc ≤ i)) (hI_ge (by omega) (by omega)) rfl rfl hh
  have hh := en_t (show decide (cc ≤ i) = true from decide_eq_true (by omega)) hh
  have hh : pm_run PT n fr lo 7 (37, [some (.ref 151), some (.ref 13), some (.int (nI m2)), some (.int x3), some (.int (nI i))], [], h, 198, sl) = some R := hh
  exact ⟨n, hh⟩
theorem v7_5_s {n fr lo sl cc gc : Nat} {q : QT} {h : pm_H} {R : pm_Rs} {m2 : Nat} {i : Nat} {x3 : Int32} (hw : HC q cc gc h) (h_m2 : m2 < 10000) (hi : i < cc) (hI : i < 1000000) (hh : pm_run PT n fr lo 7 (5, [some (.ref 151), some (.ref 13), some (.int (nI m2)), some (.int x3), some (.int (nI i))], [], h, 198, sl) = some R) : ∃ m, pm_run PT m fr lo 7 (5, [some (.ref 151), some (.ref 13), some (.int (nI m2)), some (.int (v7_5b q cc gc (Ar h 16) m2 i x3)), some (.int (nI (i + 1)))], [], h, 198, sl) = some R := by
  have hcc := hw.cb
  have hgc := hw.gb
  have hzr := hw.zr
  obtain ⟨n, hh⟩ := rn_i rfl rfl rfl rfl hh
  obtain ⟨n, hh⟩ := rn_i rfl rfl rfl rfl hh
  have hh : pm_run PT n fr lo 7 (8, [some (.ref 151), some (.ref 13), some (.int (nI m2)), some (.int x3), some (.int (nI i))], [.ref 151, .int (nI i)], h, 198, sl) = some R := hh
  obtain ⟨n, hh⟩ := rn_gr hw.wt rfl rfl (by decide) rfl (by decide) (show _ = some (2, ((5 : Nat) : Int), 1) from rfl) rfl hh
  have hh : pm_run PT n fr lo 7 (11, [some (.ref 151), some (.ref 13), some (.int (nI m2)), some (.int x3), some (.int (nI i))], [.ref 5, .int (nI i)], h, 198, sl) = some R := hh
  obtain ⟨n, hh⟩ := rn_gi (x := nI cc) hw.wt rfl rfl (by decide) rfl (by decide) rfl hw.x0 hh
  have hh : pm_run PT n fr lo 7 (14, [some (.ref 151), some (.ref 13), some (.int (nI m2)), some (.int x3), some (.int (nI i))], [.int (nI cc), .int (nI i)], h, 198, sl) = some R := hh
  obtain ⟨n, hh⟩ := en_cn (cc := .ge) (off := 23) (t := 37) (b := decide (cc ≤ i)) (hI_ge (by omega) (by omega)) rfl rfl hh
  have hh := en_f (show decide (cc ≤ i) = false from decide_eq_false (by omega)) hh
  have hh : pm_run PT n fr lo 7 (17, [some (.ref 151), some (.ref 13), some (.int (nI m2)), some (.int x3), some (.int (nI i))], [], h, 198, sl) = some R := hh
  obtain ⟨n, hh⟩ := rn_i rfl rfl rfl rfl hh
  obtain ⟨n, hh⟩ := rn_i rfl rfl rfl rfl hh
  have hh : pm_run PT n fr lo 7 (19, [some (.ref 151), some (.ref 13), some (.int (nI m2)), some (.int x3), some (.int (nI i))], [.ref 13, .int x3], h, 198, sl) = some R := hh
  obtain ⟨n, hh⟩ := rn_gr hw.wt rfl rfl (by decide) rfl (by decide) (show _ = some (2, ((16 : Nat) : Int), 1) from rfl) rfl hh
  obtain ⟨n, hh⟩ := rn_i rfl rfl rfl rfl hh
  obtain ⟨n, hh⟩ := rn_i rfl rfl rfl rfl hh
  have hh : pm_run PT n fr lo 7 (25, [some (.ref 151), some (.ref 13), some (.int (nI m2)), some (.int x3), some (.int (nI i))], [.int (nI i), .int (nI m2), .ref 16, .int x3], h, 198, sl) = some R := hh
  obtain ⟨n, fr1, lo1, r1, hh1, hh⟩ := rn_call (w := 3) (t := 160) rfl rfl hh
  have hh1 : pm_run PT n fr1 lo1 160 (0, [some (.int (nI m2)), some (.int (nI i))], [], h, 198, sl) = some r1 := hh1
  obtain ⟨n1, hh1⟩ := rn_i rfl rfl rfl rfl hh1
  obtain ⟨n1, hh1⟩ := rn_i rfl rfl rfl rfl hh1
  have hh1 : pm_run PT n1 fr1 lo1 160 (3, [some (.int (nI m2)), some (.int (nI i))], [.int (nI 6), .int (nI m2)], h, 198, sl) = some r1 := hh1
  obtain ⟨n1, hh1⟩ := en_mul rfl hh1
  have hh1 : pm_run PT n1 fr1 lo1 160 (4, [some (.int (nI m2)), some (.int (nI i))], [.int (nI (m2 * 6))], h, 198, sl) = some r1 := hh1
  obtain ⟨n1, hh1⟩ := rn_i rfl rfl rfl rfl hh1
  have hh1 : pm_run PT n1 fr1 lo1 160 (5, [some (.int (nI m2)), some (.int (nI i))], [.int (nI i), .int (nI (m2 * 6))], h, 198, sl) = some r1 := hh1
  obtain ⟨n1, hh1⟩ := en_add rfl hh1
  have hh1 : pm_run PT n1 fr1 lo1 160 (6, [some (.int (nI m2)), some (.int (nI i))], [.int (nI (m2 * 6 + i))], h, 198, sl) = some r1 := hh1
  have hh1 : pm_run PT n1 fr1 lo1 160 (6, [some (.int (nI m2)), some (.int (nI i))], [.int (nI (m2 * 6 + i))], h, 198, sl) = some r1 := hh1
  have er1 : r1 = (some (.int (nI (m2 * 6 + i))), h, 198, sl) := (rn_ret rfl (Or.inl rfl) hh1).2
  subst er1
  have hh : pm_run PT n fr lo 7 (28, [some (.ref 151), some (.ref 13), some (.int (nI m2)), some (.int x3), some (.int (nI i))], [.int (nI (m2 * 6 + i)), .ref 16, .int x3], h, 198, sl) = some R := hh
  obtain ⟨n, hx2, hh⟩ := en_lu (t := m2 * 6 + i) (f := Ar h 16) (w := (Ar h 16) (m2 * 6 + i)) (nI_clamp (by omega)) hw.wt rfl (by decide) rfl (by decide) rfl (fun _ => rfl) hh
  obtain ⟨n, hh⟩ := rn_i rfl rfl rfl rfl hh
  obtain ⟨n, hh⟩ := rn_i rfl rfl rfl rfl hh
  have hh : pm_run PT n fr lo 7 (31, [some (.ref 151), some (.ref 13), some (.int (nI m2)), some (.int (x3 + ((Ar h 16) (m2 * 6 + i)))), some (.int (nI i))], [], h, 198, sl) = some R := hh
  obtain ⟨n, hh⟩ := en_inc (x := i) (c := 1) (j := 4) rfl rfl (by decide) hh
  have hh : pm_run PT n fr lo 7 (34, [some (.ref 151), some (.ref 13), some (.int (nI m2)), some (.int (x3 + ((Ar h 16) (m2 * 6 + i)))), some (.int (nI (i + 1)))], [], h, 198, sl) = some R := hh
  obtain ⟨n, hh⟩ := rn_i rfl rfl rfl rfl hh
  have ed : v7_5b q cc gc (Ar h 16) m2 i x3 = x3 + ((Ar h 16) (m2 * 6 + i)) := rfl
  rw [ed]
  exact ⟨n, hh⟩
theorem v7_5_ok {fr lo sl cc gc : Nat} {q : QT} {R : pm_Rs} {m2 : Nat} : ∀ {j i : Nat} {x3 : Int32} {h : pm_H} {n : Nat}, cc - i = j → i + j < 1000000 → HC q cc gc h → m2 < 10000 → pm_run PT n fr lo 7 (5, [some (.ref 151), some (.ref 13), some (.int (nI m2)), some (.int x3), some (.int (nI i))], [], h, 198, sl) = some R → ∃ m wc, pm_run PT m fr lo 7 (37, [some (.ref 151), some (.ref 13), some (.int (nI m2)), some (.int (v7_5 q cc gc (Ar h 16) m2 j i x3)), wc], [], h, 198, sl) = some R := by
  intro j
  induction j with
  | zero =>
    intro i x3 h n e eI hw h_m2 hh
    obtain ⟨n, hh⟩ := v7_5_e hw h_m2 (by omega) (by omega) hh
    exact ⟨n, _, hh⟩
  | succ j ih =>
    intro i x3 h n e eI hw h_m2 hh
    obtain ⟨n, hh⟩ := v7_5_s hw h_m2 (by omega) (by omega) hh
    obtain ⟨n, wc, hh⟩ := ih (by omega) (by omega) hw h_m2 hh
    exact ⟨n, wc, hh⟩
def v7 (q : QT) (cc gc : Nat) (d0 : Nat → Int32) (c : Nat) : Int32 := (v7_5 q cc gc (d0) c cc 0 (nI 0))
theorem v7_ok {n fr lo sl cc gc : Nat} {q : QT} {h : pm_H} {R : pm_Rs} {c : Nat} (hw : HC q cc gc h) (h_c : c < 10000) (hh : pm_run PT n fr lo 7 (0, pm_l0 [.ref 151, .ref 13, .int (nI c)] 5, [], h, 198, sl) = some R) : R = (some (.int (v7 q cc gc (Ar h 16) c)), h, 198, sl) := by
  have hcc := hw.cb
  have hgc := hw.gb
  have hzr := hw.zr
  obtain ⟨n, hh⟩ := rn_i rfl rfl rfl rfl hh
  obtain ⟨n, hh⟩ := rn_i rfl rfl rfl rfl hh
  obtain ⟨n, hh⟩ := rn_i rfl rfl rfl rfl hh
  obtain ⟨n, hh⟩ := rn_i rfl rfl rfl rfl hh
  have hh : pm_run PT n fr lo 7 (5, [some (.ref 151), some (.ref 13), some (.int (nI c)), some (.int (nI 0)), some (.int (nI 0))], [], h, 198, sl) = some R := hh
  obtain ⟨n, u1, hh⟩ := v7_5_ok (m2 := c)  (i := 0) (x3 := (nI 0)) (j := cc) (by omega) (by omega) hw (by omega) hh
  have hh : pm_run PT n fr lo 7 (37, [some (.ref 151), some (.ref 13), some (.int (nI c)), some (.int (v7_5 q cc gc (Ar h 16) c cc 0 (nI 0))), u1], [], h, 198, sl) = some R := hh
  obtain ⟨n, hh⟩ := rn_i rfl rfl rfl rfl hh
  have hh : pm_run PT n fr lo 7 (38, [some (.ref 151), some (.ref 13), some (.int (nI c)), some (.int (v7_5 q cc gc (Ar h 16) c cc 0 (nI 0))), u1], [.int (v7_5 q cc gc (Ar h 16) c cc 0 (nI 0))], h, 198, sl) = some R := hh
  have er2 : R = (some (.int (v7_5 q cc gc (Ar h 16) c cc 0 (nI 0))), h, 198, sl) := (rn_ret rfl (Or.inl rfl) hh).2
  have ed : v7 q cc gc (Ar h 16) c = (v7_5 q cc gc (Ar h 16) c cc 0 (nI 0)) := rfl
  rw [ed]
  exact er2
def v8_5b (q : QT) (cc gc : Nat) (d0 : Nat → Int32) (m2 : Nat) (i : Nat) (x3 : Int32) : Int32 := x3 + ((d0) (i * 6 + m2))
def v8_5 (q : QT) (cc gc : Nat) (d0 : Nat → Int32) (m2 : Nat) (j i : Nat) (a : Int32) : Int32 := lp (fun i a => v8_5b q cc gc d0 m2 i a) j i a
theorem v8_5_e {n fr lo sl cc gc : Nat} {q : QT} {h : pm_H} {R : pm_Rs} {m2 : Nat} {i : Nat} {x3 : Int32} (hw : HC q cc gc h) (h_m2 : m2 < 10000) (hi : cc ≤ i) (hI : i < 1000000) (hh : pm_run PT n fr lo 8 (5, [some (.ref 151), some (.ref 13), some (.int (nI m2)), some (.int x3), some (.int (nI i))], [], h, 198, sl) = some R) : ∃ m, pm_run PT m fr lo 8 (37, [some (.ref 151), some (.ref 13), some (.int (nI m2)), some (.int x3), some (.int (nI i))], [], h, 198, sl) = some R := by
  have hcc := hw.cb
  have hgc := hw.gb
  have hzr := hw.zr
  obtain ⟨n, hh⟩ := rn_i rfl rfl rfl rfl hh
  obtain ⟨n, hh⟩ := rn_i rfl rfl rfl rfl hh
  have hh : pm_run PT n fr lo 8 (8, [some (.ref 151), some (.ref 13), some (.int (nI m2)), some (.int x3), some (.int (nI i))], [.ref 151, .int (nI i)], h, 198, sl) = some R := hh
  obtain ⟨n, hh⟩ := rn_gr hw.wt rfl rfl (by decide) rfl (by decide) (show _ = some (2, ((5 : Nat) : Int), 1) from rfl) rfl hh
  have hh : pm_run PT n fr lo 8 (11, [some (.ref 151), some (.ref 13), some (.int (nI m2)), some (.int x3), some (.int (nI i))], [.ref 5, .int (nI i)], h, 198, sl) = some R := hh
  obtain ⟨n, hh⟩ := rn_gi (x := nI cc) hw.wt rfl rfl (by decide) rfl (by decide) rfl hw.x0 hh
  have hh : pm_run PT n fr lo 8 (14, [some (.ref 151), some (.ref 13), some (.int (nI m2)), some (.int x3), some (.int (nI i))], [.int (nI cc), .int (nI i)], h, 198, sl) = some R := hh
  obtain ⟨n, hh⟩ := en_cn (cc := .ge) (off := 23) (t := 37) (b := decide (cc ≤ i)) (hI_ge (by omega) (by omega)) rfl rfl hh
  have hh := en_t (show decide (cc ≤ i) = true from decide_eq_true (by omega)) hh
  have hh : pm_run PT n fr lo 8 (37, [some (.ref 151), some (.ref 13), some (.int (nI m2)), some (.int x3), some (.int (nI i))], [], h, 198, sl) = some R := hh
  exact ⟨n, hh⟩
theorem v8_5_s {n fr lo sl cc gc : Nat} {q : QT} {h : pm_H} {R : pm_Rs} {m2 : Nat} {i : Nat} {x3 : Int32} (hw : HC q cc gc h) (h_m2 : m2 < 10000) (hi : i < cc) (hI : i < 1000000) (hh : pm_run PT n fr lo 8 (5, [some (.ref 151), some (.ref 13), some (.int (nI m2)), some (.int x3), some (.int (nI i))], [], h, 198, sl) = some R) : ∃ m, pm_run PT m fr lo 8 (5, [some (.ref 151), some (.ref 13), some (.int (nI m2)), some (.int (v8_5b q cc gc (Ar h 16) m2 i x3)), some (.int (nI (i + 1)))], [], h, 198, sl) = some R := by
  have hcc := hw.cb
  have hgc := hw.gb
  have hzr := hw.zr
  obtain ⟨n, hh⟩ := rn_i rfl rfl rfl rfl hh
  obtain ⟨n, hh⟩ := rn_i rfl rfl rfl rfl hh
  have hh : pm_run PT n fr lo 8 (8, [some (.ref 151), some (.ref 13), some (.int (nI m2)), some (.int x3), some (.int (nI i))], [.ref 151, .int (nI i)], h, 198, sl) = some R := hh
  obtain ⟨n, hh⟩ := rn_gr hw.wt rfl rfl (by decide) rfl (by decide) (show _ = some (2, ((5 : Nat) : Int), 1) from rfl) rfl hh
  have hh : pm_run PT n fr lo 8 (11, [some (.ref 151), some (.ref 13), some (.int (nI m2)), some (.int x3), some (.int (nI i))], [.ref 5, .int (nI i)], h, 198, sl) = some R := hh
  obtain ⟨n, hh⟩ := rn_gi (x := nI cc) hw.wt rfl rfl (by decide) rfl (by decide) rfl hw.x0 hh
  have hh : pm_run PT n fr lo 8 (14, [some (.ref 151), some (.ref 13), some (.int (nI m2)), some (.int x3), some (.int (nI i))], [.int (nI cc), .int (nI i)], h, 198, sl) = some R := hh
  obtain ⟨n, hh⟩ := en_cn (cc := .ge) (off := 23) (t := 37) (b := decide (cc ≤ i)) (hI_ge (by omega) (by omega)) rfl rfl hh
  have hh := en_f (show decide (cc ≤ i) = false from decide_eq_false (by omega)) hh
  have hh : pm_run PT n fr lo 8 (17, [some (.ref 151), some (.ref 13), some (.int (nI m2)), some (.int x3), some (.int (nI i))], [], h, 198, sl) = some R := hh
  obtain ⟨n, hh⟩ := rn_i rfl rfl rfl rfl hh
  obtain ⟨n, hh⟩ := rn_i rfl rfl rfl rfl hh
  have hh : pm_run PT n fr lo 8 (19, [some (.ref 151), some (.ref 13), some (.int (nI m2)), some (.int x3), some (.int (nI i))], [.ref 13, .int x3], h, 198, sl) = some R := hh
  obtain ⟨n, hh⟩ := rn_gr hw.wt rfl rfl (by decide) rfl (by decide) (show _ = some (2, ((16 : Nat) : Int), 1) from rfl) rfl hh
  obtain ⟨n, hh⟩ := rn_i rfl rfl rfl rfl hh
  obtain ⟨n, hh⟩ := rn_i rfl rfl rfl rfl hh
  have hh : pm_run PT n fr lo 8 (25, [some (.ref 151), some (.ref 13), some (.int (nI m2)), some (.int x3), some (.int (nI i))], [.int (nI m2), .int (nI i), .ref 16, .int x3], h, 198, sl) = some R := hh
  obtain ⟨n, fr1, lo1, r1, hh1, hh⟩ := rn_call (w := 3) (t := 160) rfl rfl hh
  have hh1 : pm_run PT n fr1 lo1 160 (0, [some (.int (nI i)), some (.int (nI m2))], [], h, 198, sl) = some r1 := hh1
  obtain ⟨n1, hh1⟩ := rn_i rfl rfl rfl rfl hh1
  obtain ⟨n1, hh1⟩ := rn_i rfl rfl rfl rfl hh1
  have hh1 : pm_run PT n1 fr1 lo1 160 (3, [some (.int (nI i)), some (.int (nI m2))], [.int (nI 6), .int (nI i)], h, 198, sl) = some r1 := hh1
  obtain ⟨n1, hh1⟩ := en_mul rfl hh1
  have hh1 : pm_run PT n1 fr1 lo1 160 (4, [some (.int (nI i)), some (.int (nI m2))], [.int (nI (i * 6))], h, 198, sl) = some r1 := hh1
  obtain ⟨n1, hh1⟩ := rn_i rfl rfl rfl rfl hh1
  have hh1 : pm_run PT n1 fr1 lo1 160 (5, [some (.int (nI i)), some (.int (nI m2))], [.int (nI m2), .int (nI (i * 6))], h, 198, sl) = some r1 := hh1
  obtain ⟨n1, hh1⟩ := en_add rfl hh1
  have hh1 : pm_run PT n1 fr1 lo1 160 (6, [some (.int (nI i)), some (.int (nI m2))], [.int (nI (i * 6 + m2))], h, 198, sl) = some r1 := hh1
  have hh1 : pm_run PT n1 fr1 lo1 160 (6, [some (.int (nI i)), some (.int (nI m2))], [.int (nI (i * 6 + m2))], h, 198, sl) = some r1 := hh1
  have er1 : r1 = (some (.int (nI (i * 6 + m2))), h, 198, sl) := (rn_ret rfl (Or.inl rfl) hh1).2
  subst er1
  have hh : pm_run PT n fr lo 8 (28, [some (.ref 151), some (.ref 13), some (.int (nI m2)), some (.int x3), some (.int (nI i))], [.int (nI (i * 6 + m2)), .ref 16, .int x3], h, 198, sl) = some R := hh
  obtain ⟨n, hx2, hh⟩ := en_lu (t := i * 6 + m2) (f := Ar h 16) (w := (Ar h 16) (i * 6 + m2)) (nI_clamp (by omega)) hw.wt rfl (by decide) rfl (by decide) rfl (fun _ => rfl) hh
  obtain ⟨n, hh⟩ := rn_i rfl rfl rfl rfl hh
  obtain ⟨n, hh⟩ := rn_i rfl rfl rfl rfl hh
  have hh : pm_run PT n fr lo 8 (31, [some (.ref 151), some (.ref 13), some (.int (nI m2)), some (.int (x3 + ((Ar h 16) (i * 6 + m2)))), some (.int (nI i))], [], h, 198, sl) = some R := hh
  obtain ⟨n, hh⟩ := en_inc (x := i) (c := 1) (j := 4) rfl rfl (by decide) hh
  have hh : pm_run PT n fr lo 8 (34, [some (.ref 151), some (.ref 13), some (.int (nI m2)), some (.int (x3 + ((Ar h 16) (i * 6 + m2)))), some (.int (nI (i + 1)))], [], h, 198, sl) = some R := hh
  obtain ⟨n, hh⟩ := rn_i rfl rfl rfl rfl hh
  have ed : v8_5b q cc gc (Ar h 16) m2 i x3 = x3 + ((Ar h 16) (i * 6 + m2)) := rfl
  rw [ed]
  exact ⟨n, hh⟩
theorem v8_5_ok {fr lo sl cc gc : Nat} {q : QT} {R : pm_Rs} {m2 : Nat} : ∀ {j i : Nat} {x3 : Int32} {h : pm_H} {n : Nat}, cc - i = j → i + j < 1000000 → HC q cc gc h → m2 < 10000 → pm_run PT n fr lo 8 (5, [some (.ref 151), some (.ref 13), some (.int (nI m2)), some (.int x3), some (.int (nI i))], [], h, 198, sl) = some R → ∃ m wc, pm_run PT m fr lo 8 (37, [some (.ref 151), some (.ref 13), some (.int (nI m2)), some (.int (v8_5 q cc gc (Ar h 16) m2 j i x3)), wc], [], h, 198, sl) = some R := by
  intro j
  induction j with
  | zero =>
    intro i x3 h n e eI hw h_m2 hh
    obtain ⟨n, hh⟩ := v8_5_e hw h_m2 (by omega) (by omega) hh
    exact ⟨n, _, hh⟩
  | succ j ih =>
    intro i x3 h n e eI hw h_m2 hh
    obtain ⟨n, hh⟩ := v8_5_s hw h_m2 (by omega) (by omega) hh
    obtain ⟨n, wc, hh⟩ := ih (by omega) (by omega) hw h_m2 hh
    exact ⟨n, wc, hh⟩
def v8 (q : QT) (cc gc : Nat) (d0 : Nat → Int32) (c : Nat) : Int32 := (v8_5 q cc gc (d0) c cc 0 (nI 0))
theorem v8_ok {n fr lo sl cc gc : Nat} {q : QT} {h : pm_H} {R : pm_Rs} {c : Nat} (hw : HC q cc gc h) (h_c : c < 10000) (hh : pm_run PT n fr lo 8 (0, pm_l0 [.ref 151, .ref 13, .int (nI c)] 5, [], h, 198, sl) = some R) : R = (some (.int (v8 q cc gc (Ar h 16) c)), h, 198, sl) := by
  have hcc := hw.cb
  have hgc := hw.gb
  have hzr := hw.zr
  obtain ⟨n, hh⟩ := rn_i rfl rfl rfl rfl hh
  obtain ⟨n, hh⟩ := rn_i rfl rfl rfl rfl hh
  obtain ⟨n, hh⟩ := rn_i rfl rfl rfl rfl hh
  obtain ⟨n, hh⟩ := rn_i rfl rfl rfl rfl hh
  have hh : pm_run PT n fr lo 8 (5, [some (.ref 151), some (.ref 13), some (.int (nI c)), some (.int (nI 0)), some (.int (nI 0))], [], h, 198, sl) = some R := hh
  obtain ⟨n, u1, hh⟩ := v8_5_ok (m2 := c)  (i := 0) (x3 := (nI 0)) (j := cc) (by omega) (by omega) hw (by omega) hh
  have hh : pm_run PT n fr lo 8 (37, [some (.ref 151), some (.ref 13), some (.int (nI c)), some (.int (v8_5 q cc gc (Ar h 16) c cc 0 (nI 0))), u1], [], h, 198, sl) = some R := hh
  obtain ⟨n, hh⟩ := rn_i rfl rfl rfl rfl hh
  have hh : pm_run PT n fr lo 8 (38, [some (.ref 151), some (.ref 13), some (.int (nI c)), some (.int (v8_5 q cc gc (Ar h 16) c cc 0 (nI 0))), u1], [.int (v8_5 q cc gc (Ar h 16) c cc 0 (nI 0))], h, 198, sl) = some R := hh
  have er2 : R = (some (.int (v8_5 q cc gc (Ar h 16) c cc 0 (nI 0))), h, 198, sl) := (rn_ret rfl (Or.inl rfl) hh).2
  have ed : v8 q cc gc (Ar h 16) c = (v8_5 q cc gc (Ar h 16) c cc 0 (nI 0)) := rfl
  rw [ed]
  exact er2
end EA
