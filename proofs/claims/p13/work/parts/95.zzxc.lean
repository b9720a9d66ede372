/-! runs told exactly, written by ext.py -/
section EA
def v270 (q : QT) (cc gc : Nat) (a : Int32) : Int32 := (((((((a - ((ushr a (nI 1)) &&& (nI 1431655765))) &&& (nI 858993459)) + ((ushr (a - ((ushr a (nI 1)) &&& (nI 1431655765))) (nI 2)) &&& (nI 858993459))) + (ushr (((a - ((ushr a (nI 1)) &&& (nI 1431655765))) &&& (nI 858993459)) + ((ushr (a - ((ushr a (nI 1)) &&& (nI 1431655765))) (nI 2)) &&& (nI 858993459))) (nI 4))) &&& (nI 252645135)) + (ushr (((((a - ((ushr a (nI 1)) &&& (nI 1431655765))) &&& (nI 858993459)) + ((ushr (a - ((ushr a (nI 1)) &&& (nI 1431655765))) (nI 2)) &&& (nI 858993459))) + (ushr (((a - ((ushr a (nI 1)) &&& (nI 1431655765))) &&& (nI 858993459)) + ((ushr (a - ((ushr a (nI 1)) &&& (nI 1431655765))) (nI 2)) &&& (nI 858993459))) (nI 4))) &&& (nI 252645135)) (nI 8))) + (ushr ((((((a - ((ushr a (nI 1)) &&& (nI 1431655765))) &&& (nI 858993459)) + ((ushr (a - ((ushr a (nI 1)) &&& (nI 1431655765))) (nI 2)) &&& (nI 858993459))) + (ushr (((a - ((ushr a (nI 1)) &&& (nI 1431655765))) &&& (nI 858993459)) + ((ushr (a - ((ushr a (nI 1)) &&& (nI 1431655765))) (nI 2)) &&& (nI 858993459))) (nI 4))) &&& (nI 252645135)) + (ushr (((((a - ((ushr a (nI 1)) &&& (nI 1431655765))) &&& (nI 858993459)) + ((ushr (a - ((ushr a (nI 1)) &&& (nI 1431655765))) (nI 2)) &&& (nI 858993459))) + (ushr (((a - ((ushr a (nI 1)) &&& (nI 1431655765))) &&& (nI 858993459)) + ((ushr (a - ((ushr a (nI 1)) &&& (nI 1431655765))) (nI 2)) &&& (nI 858993459))) (nI 4))) &&& (nI 252645135)) (nI 8))) (nI 16))) &&& (nI 63)
theorem v270_ok {n fr lo sl cc gc : Nat} {q : QT} {h : pm_H} {R : pm_Rs} {a : Int32} (hw : HC q cc gc h) (hh : pm_run PT n fr lo 270 (0, pm_l0 [.int a] 1, [], h, 198, sl) = some R) : R = (some (.int (v270 q cc gc a)), h, 198, sl) := by
  have hcc := hw.cb
  have hgc := hw.gb
  have hzr := hw.zr
  obtain ⟨n, hh⟩ := rn_i rfl rfl rfl rfl hh
  obtain ⟨n, hh⟩ := rn_i rfl rfl rfl rfl hh
  obtain ⟨n, hh⟩ := rn_i rfl rfl rfl rfl hh
  obtain ⟨n, hh⟩ := rn_i rfl rfl rfl rfl hh
  obtain ⟨n, hh⟩ := rn_i rfl rfl rfl rfl hh
  obtain ⟨n, hh⟩ := rn_i rfl rfl rfl rfl hh
  obtain ⟨n, hh⟩ := rn_i rfl rfl rfl rfl hh
  obtain ⟨n, hh⟩ := rn_i rfl rfl rfl rfl hh
  obtain ⟨n, hh⟩ := rn_i rfl rfl rfl rfl hh
  obtain ⟨n, hh⟩ := rn_i rfl rfl rfl rfl hh
  obtain ⟨n, hh⟩ := rn_i rfl rfl rfl rfl hh
  obtain ⟨n, hh⟩ := rn_i rfl rfl rfl rfl hh
  obtain ⟨n, hh⟩ := rn_i rfl rfl rfl rfl hh
  obtain ⟨n, hh⟩ := rn_i rfl rfl rfl rfl hh
  obtain ⟨n, hh⟩ := rn_i rfl rfl rfl rfl hh
  obtain ⟨n, hh⟩ := rn_i rfl rfl rfl rfl hh
  obtain ⟨n, hh⟩ := rn_i rfl rfl rfl rfl hh
  obtain ⟨n, hh⟩ := rn_i rfl rfl rfl rfl hh
  obtain ⟨n, hh⟩ := rn_i rfl rfl rfl rfl hh
  obtain ⟨n, hh⟩ := rn_i rfl rfl rfl rfl hh
  obtain ⟨n, hh⟩ := rn_i rfl rfl rfl rfl hh
  obtain ⟨n, hh⟩ := rn_i rfl rfl rfl rfl hh
  obtain ⟨n, hh⟩ := rn_i rfl rfl rfl rfl hh
  obtain ⟨n, hh⟩ := rn_i rfl rfl rfl rfl hh
  obtain ⟨n, hh⟩ := rn_i rfl rfl rfl rfl hh
  obtain ⟨n, hh⟩ := rn_i rfl rfl rfl rfl hh
  obtain ⟨n, hh⟩ := rn_i rfl rfl rfl rfl hh
  obtain ⟨n, hh⟩ := rn_i rfl rfl rfl rfl hh
  obtain ⟨n, hh⟩ := rn_i rfl rfl rfl rfl hh
  obtain ⟨n, hh⟩ := rn_i rfl rfl rfl rfl hh
  obtain ⟨n, hh⟩ := rn_i rfl rfl rfl rfl hh
  obtain ⟨n, hh⟩ := rn_i rfl rfl rfl rfl hh
  obtain ⟨n, hh⟩ := rn_i rfl rfl rfl rfl hh
  obtain ⟨n, hh⟩ := rn_i rfl rfl rfl rfl hh
  obtain ⟨n, hh⟩ := rn_i rfl rfl rfl rfl hh
  obtain ⟨n, hh⟩ := rn_i rfl rfl rfl rfl hh
  obtain ⟨n, hh⟩ := rn_i rfl rfl rfl rfl hh
  obtain ⟨n, hh⟩ := rn_i rfl rfl rfl rfl hh
  obtain ⟨n, hh⟩ := rn_i rfl rfl rfl rfl hh
  obtain ⟨n, hh⟩ := rn_i rfl rfl rfl rfl hh
  obtain ⟨n, hh⟩ := rn_i rfl rfl rfl rfl hh
  have hh : pm_run PT n fr lo 270 (52, [some (.int (((((((a - ((ushr a (nI 1)) &&& (nI 1431655765))) &&& (nI 858993459)) + ((ushr (a - ((ushr a (nI 1)) &&& (nI 1431655765))) (nI 2)) &&& (nI 858993459))) + (ushr (((a - ((ushr a (nI 1)) &&& (nI 1431655765))) &&& (nI 858993459)) + ((ushr (a - ((ushr a (nI 1)) &&& (nI 1431655765))) (nI 2)) &&& (nI 858993459))) (nI 4))) &&& (nI 252645135)) + (ushr (((((a - ((ushr a (nI 1)) &&& (nI 1431655765))) &&& (nI 858993459)) + ((ushr (a - ((ushr a (nI 1)) &&& (nI 1431655765))) (nI 2)) &&& (nI 858993459))) + (ushr (((a - ((ushr a (nI 1)) &&& (nI 1431655765))) &&& (nI 858993459)) + ((ushr (a - ((ushr a (nI 1)) &&& (nI 1431655765))) (nI 2)) &&& (nI 858993459))) (nI 4))) &&& (nI 252645135)) (nI 8))) + (ushr ((((((a - ((ushr a (nI 1)) &&& (nI 1431655765))) &&& (nI 858993459)) + ((ushr (a - ((ushr a (nI 1)) &&& (nI 1431655765))) (nI 2)) &&& (nI 858993459))) + (ushr (((a - ((ushr a (nI 1)) &&& (nI 1431655765))) &&& (nI 858993459)) + ((ushr (a - ((ushr a (nI 1)) &&& (nI 1431655765))) (nI 2)) &&& (nI 858993459))) (nI 4))) &&& (nI 252645135)) + (ushr (((((a - ((ushr a (nI 1)) &&& (nI 1431655765))) &&& (nI 858993459)) + ((ushr (a - ((ushr a (nI 1)) &&& (nI 1431655765))) (nI 2)) &&& (nI 858993459))) + (ushr (((a - ((ushr a (nI 1)) &&& (nI 1431655765))) &&& (nI 858993459)) + ((ushr (a - ((ushr a (nI 1)) &&& (nI 1431655765))) (nI 2)) &&& (nI 858993459))) (nI 4))) &&& (nI 252645135)) (nI 8))) (nI 16))))], [.int ((((((((a - ((ushr a (nI 1)) &&& (nI 1431655765))) &&& (nI 858993459)) + ((ushr (a - ((ushr a (nI 1)) &&& (nI 1431655765))) (nI 2)) &&& (nI 858993459))) + (ushr (((a - ((ushr a (nI 1)) &&& (nI 1431655765))) &&& (nI 858993459)) + ((ushr (a - ((ushr a (nI 1)) &&& (nI 1431655765))) (nI 2)) &&& (nI 858993459))) (nI 4))) &&& (nI 252645135)) + (ushr (((((a - ((ushr a (nI 1)) &&& (nI 1431655765))) &&& (nI 858993459)) + ((ushr (a - ((ushr a (nI 1)) &&& (nI 1431655765))) (nI 2)) &&& (nI 858993459))) + (ushr (((a - ((ushr a (nI 1)) &&& (nI 1431655765))) &&& (nI 858993459)) + ((ushr (a - ((ushr a (nI 1)) &&& (nI 1431655765))) (nI 2)) &&& (nI 858993459))) (nI 4))) &&& (nI 252645135)) (nI 8))) + (ushr ((((((a - ((ushr a (nI 1)) &&& (nI 1431655765))) &&& (nI 858993459)) + ((ushr (a - ((ushr a (nI 1)) &&& (nI 1431655765))) (nI 2)) &&& (nI 858993459))) + (ushr (((a - ((ushr a (nI 1)) &&& (nI 1431655765))) &&& (nI 858993459)) + ((ushr (a - ((ushr a (nI 1)) &&& (nI 1431655765))) (nI 2)) &&& (nI 858993459))) (nI 4))) &&& (nI 252645135)) + (ushr (((((a - ((ushr a (nI 1)) &&& (nI 1431655765))) &&& (nI 858993459)) + ((ushr (a - ((ushr a (nI 1)) &&& (nI 1431655765))) (nI 2)) &&& (nI 858993459))) + (ushr (((a - ((ushr a (nI 1)) &&& (nI 1431655765))) &&& (nI 858993459)) + ((ushr (a - ((ushr a (nI 1)) &&& (nI 1431655765))) (nI 2)) &&& (nI 858993459))) (nI 4))) &&& (nI 252645135)) (nI 8))) (nI 16))) &&& (nI 63))], h, 198, sl) = some R := hh
  have er1 : R = (some (.int ((((((((a - ((ushr a (nI 1)) &&& (nI 1431655765))) &&& (nI 858993459)) + ((ushr (a - ((ushr a (nI 1)) &&& (nI 1431655765))) (nI 2)) &&& (nI 858993459))) + (ushr (((a - ((ushr a (nI 1)) &&& (nI 1431655765))) &&& (nI 858993459)) + ((ushr (a - ((ushr a (nI 1)) &&& (nI 1431655765))) (nI 2)) &&& (nI 858993459))) (nI 4))) &&& (nI 252645135)) + (ushr (((((a - ((ushr a (nI 1)) &&& (nI 1431655765))) &&& (nI 858993459)) + ((ushr (a - ((ushr a (nI 1)) &&& (nI 1431655765))) (nI 2)) &&& (nI 858993459))) + (ushr (((a - ((ushr a (nI 1)) &&& (nI 1431655765))) &&& (nI 858993459)) + ((ushr (a - ((ushr a (nI 1)) &&& (nI 1431655765))) (nI 2)) &&& (nI 858993459))) (nI 4))) &&& (nI 252645135)) (nI 8))) + (ushr ((((((a - ((ushr a (nI 1)) &&& (nI 1431655765))) &&& (nI 858993459)) + ((ushr (a - ((ushr a (nI 1)) &&& (nI 1431655765))) (nI 2)) &&& (nI 858993459))) + (ushr (((a - ((ushr a (nI 1)) &&& (nI 1431655765))) &&& (nI 858993459)) + ((ushr (a - ((ushr a (nI 1)) &&& (nI 1431655765))) (nI 2)) &&& (nI 858993459))) (nI 4))) &&& (nI 252645135)) + (ushr (((((a - ((ushr a (nI 1)) &&& (nI 1431655765))) &&& (nI 858993459)) + ((ushr (a - ((ushr a (nI 1)) &&& (nI 1431655765))) (nI 2)) &&& (nI 858993459))) + (ushr (((a - ((ushr a (nI 1)) &&& (nI 1431655765))) &&& (nI 858993459)) + ((ushr (a - ((ushr a (nI 1)) &&& (nI 1431655765))) (nI 2)) &&& (nI 858993459))) (nI 4))) &&& (nI 252645135)) (nI 8))) (nI 16))) &&& (nI 63))), h, 198, sl) := (rn_ret rfl (Or.inl rfl) hh).2
  have ed : v270 q cc gc a = (((((((a - ((ushr a (nI 1)) &&& (nI 1431655765))) &&& (nI 858993459)) + ((ushr (a - ((ushr a (nI 1)) &&& (nI 1431655765))) (nI 2)) &&& (nI 858993459))) + (ushr (((a - ((ushr a (nI 1)) &&& (nI 1431655765))) &&& (nI 858993459)) + ((ushr (a - ((ushr a (nI 1)) &&& (nI 1431655765))) (nI 2)) &&& (nI 858993459))) (nI 4))) &&& (nI 252645135)) + (ushr (((((a - ((ushr a (nI 1)) &&& (nI 1431655765))) &&& (nI 858993459)) + ((ushr (a - ((ushr a (nI 1)) &&& (nI 1431655765))) (nI 2)) &&& (nI 858993459))) + (ushr (((a - ((ushr a (nI 1)) &&& (nI 1431655765))) &&& (nI 858993459)) + ((ushr (a - ((ushr a (nI 1)) &&& (nI 1431655765))) (nI 2)) &&& (nI 858993459))) (nI 4))) &&& (nI 252645135)) (nI 8))) + (ushr ((((((a - ((ushr a (nI 1)) &&& (nI 1431655765))) &&& (nI 858993459)) + ((ushr (a - ((ushr a (nI 1)) &&& (nI 1431655765))) (nI 2)) &&& (nI 858993459))) + (ushr (((a - ((ushr a (nI 1)) &&& (nI 1431655765))) &&& (nI 858993459)) + ((ushr (a - ((ushr a (nI 1)) &&& (nI 1431655765))) (nI 2)) &&& (nI 858993459))) (nI 4))) &&& (nI 252645135)) + (ushr (((((a - ((ushr a (nI 1)) &&& (nI 1431655765))) &&& (nI 858993459)) + ((ushr (a - ((ushr a (nI 1)) &&& (nI 1431655765))) (nI 2)) &&& (nI 858993459))) + (ushr (((a - ((ushr a (nI 1)) &&& (nI 1431655765))) &&& (nI 858993459)) + ((ushr (a - ((ushr a (nI 1)) &&& (nI 1431655765))) (nI 2)) &&& (nI 858993459))) (nI 4))) &&& (nI 252645135)) (nI 8))) (nI 16))) &&& (nI 63) := rfl
  rw [ed]
  exact er1
def v164 (q : QT) (cc gc : Nat) (a : Int32) (b : Int32) : Bool := cond (pm_cmp .ne ((shr a b) &&& (nI 1)) (nI 1)) false true
theorem v164_ok {n fr lo sl cc gc : Nat} {q : QT} {h : pm_H} {R : pm_Rs} {a : Int32} {b : Int32} (hw : HC q cc gc h) (hh : pm_run PT n fr lo 164 (0, pm_l0 [.int a, .int b] 2, [], h, 198, sl) = some R) : R = (some (.int (cond (v164 q cc gc a b) 1 0)), h, 198, sl) := by
  have hcc := hw.cb
  have hgc := hw.gb
  have hzr := hw.zr
  obtain ⟨n, hh⟩ := rn_i rfl rfl rfl rfl hh
  obtain ⟨n, hh⟩ := rn_i rfl rfl rfl rfl hh
  obtain ⟨n, hh⟩ := rn_i rfl rfl rfl rfl hh
  obtain ⟨n, hh⟩ := rn_i rfl rfl rfl rfl hh
  obtain ⟨n, hh⟩ := rn_i rfl rfl rfl rfl hh
  obtain ⟨n, hh⟩ := rn_i rfl rfl rfl rfl hh
  have hh : pm_run PT n fr lo 164 (6, [some (.int a), some (.int b)], [.int (nI 1), .int ((shr a b) &&& (nI 1))], h, 198, sl) = some R := hh
  obtain ⟨n, hh⟩ := en_cn (cc := .ne) (off := 7) (t := 13) (b := pm_cmp .ne ((shr a b) &&& (nI 1)) (nI 1)) rfl rfl rfl hh
  have hj2 : ∃ mJ, pm_run PT mJ fr lo 164 (cond (pm_cmp .ne ((shr a b) &&& (nI 1)) (nI 1)) (14, [some (.int a), some (.int b)], [.int (nI 0)], h, 198, sl) (14, [some (.int a), some (.int b)], [.int (nI 1)], h, 198, sl)) = some R := en_J (fun z1 => by
      have hh := en_t z1 hh
      have hh : pm_run PT n fr lo 164 (13, [some (.int a), some (.int b)], [], h, 198, sl) = some R := hh
      obtain ⟨n, hh⟩ := rn_i rfl rfl rfl rfl hh
      exact ⟨n, hh⟩) (fun z1 => by
      have hh := en_f z1 hh
      have hh : pm_run PT n fr lo 164 (9, [some (.int a), some (.int b)], [], h, 198, sl) = some R := hh
      obtain ⟨n, hh⟩ := rn_i rfl rfl rfl rfl hh
      obtain ⟨n, hh⟩ := rn_i rfl rfl rfl rfl hh
      exact ⟨n, hh⟩)
  obtain ⟨n, hh⟩ := hj2
  rw [show (cond (pm_cmp .ne ((shr a b) &&& (nI 1)) (nI 1)) (14, [some (.int a), some (.int b)], [.int (nI 0)], h, 198, sl) (14, [some (.int a), some (.int b)], [.int (nI 1)], h, 198, sl) : pm_St) = (14, [some (.int a), some (.int b)], [.int (cond (cond (pm_cmp .ne ((shr a b) &&& (nI 1)) (nI 1)) false true) 1 0)], h, 198, sl) from by cases (pm_cmp .ne ((shr a b) &&& (nI 1)) (nI 1)) <;> rfl] at hh
  have hh : pm_run PT n fr lo 164 (14, [some (.int a), some (.int b)], [.int (cond (cond (pm_cmp .ne ((shr a b) &&& (nI 1)) (nI 1)) false true) 1 0)], h, 198, sl) = some R := hh
  have er3 : R = (some (.int (cond (cond (pm_cmp .ne ((shr a b) &&& (nI 1)) (nI 1)) false true) 1 0)), h, 198, sl) := (rn_ret rfl (Or.inr rfl) hh).2
  have ed : v164 q cc gc a b = cond (pm_cmp .ne ((shr a b) &&& (nI 1)) (nI 1)) false true := rfl
  rw [ed]
  exact er3
def v74 (q : QT) (cc gc : Nat) (d0 : Int32) (g : Nat) : Bool := cond (pm_cmp .eq ((shr (d0) (nI g)) &&& (nI 1)) 0) false true
theorem v74_ok {n fr lo sl cc gc : Nat} {q : QT} {h : pm_H} {R : pm_Rs} {g : Nat} (hw : HC q cc gc h) (h_g : g < 10000) (hh : pm_run PT n fr lo 74 (0, pm_l0 [.ref 13, .int (nI g)] 2, [], h, 198, sl) = some R) : R = (some (.int (cond (v74 q cc gc (Fi h 13 5) g) 1 0)), h, 198, sl) := by
  have hcc := hw.cb
  have hgc := hw.gb
  have hzr := hw.zr
  obtain ⟨n, hh⟩ := rn_i rfl rfl rfl rfl hh
  have hh : pm_run PT n fr lo 74 (1, [some (.ref 13), some (.int (nI g))], [.ref 13], h, 198, sl) = some R := hh
  obtain ⟨n, hh⟩ := rn_gi (x := Fi h 13 5) hw.wt rfl rfl (by decide) rfl (by decide) rfl rfl hh
  obtain ⟨n, hh⟩ := rn_i rfl rfl rfl rfl hh
  obtain ⟨n, hh⟩ := rn_i rfl rfl rfl rfl hh
  obtain ⟨n, hh⟩ := rn_i rfl rfl rfl rfl hh
  obtain ⟨n, hh⟩ := rn_i rfl rfl rfl rfl hh
  have hh : pm_run PT n fr lo 74 (8, [some (.ref 13), some (.int (nI g))], [.int ((shr (Fi h 13 5) (nI g)) &&& (nI 1))], h, 198, sl) = some R := hh
  obtain ⟨n, hh⟩ := en_zn (cc := .eq) (off := 7) (t := 15) (b := pm_cmp .eq ((shr (Fi h 13 5) (nI g)) &&& (nI 1)) 0) rfl rfl rfl hh
  have hj2 : ∃ mJ, pm_run PT mJ fr lo 74 (cond (pm_cmp .eq ((shr (Fi h 13 5) (nI g)) &&& (nI 1)) 0) (16, [some (.ref 13), some (.int (nI g))], [.int (nI 0)], h, 198, sl) (16, [some (.ref 13), some (.int (nI g))], [.int (nI 1)], h, 198, sl)) = some R := en_J (fun z1 => by
      have hh := en_t z1 hh
      have hh : pm_run PT n fr lo 74 (15, [some (.ref 13), some (.int (nI g))], [], h, 198, sl) = some R := hh
      obtain ⟨n, hh⟩ := rn_i rfl rfl rfl rfl hh
      exact ⟨n, hh⟩) (fun z1 => by
      have hh := en_f z1 hh
      have hh : pm_run PT n fr lo 74 (11, [some (.ref 13), some (.int (nI g))], [], h, 198, sl) = some R := hh
      obtain ⟨n, hh⟩ := rn_i rfl rfl rfl rfl hh
      obtain ⟨n, hh⟩ := rn_i rfl rfl rfl rfl hh
      exact ⟨n, hh⟩)
  obtain ⟨n, hh⟩ := hj2
  rw [show (cond (pm_cmp .eq ((shr (Fi h 13 5) (nI g)) &&& (nI 1)) 0) (16, [some (.ref 13), some (.int (nI g))], [.int (nI 0)], h, 198, sl) (16, [some (.ref 13), some (.int (nI g))], [.int (nI 1)], h, 198, sl) : pm_St) = (16, [some (.ref 13), some (.int (nI g))], [.int (cond (cond (pm_cmp .eq ((shr (Fi h 13 5) (nI g)) &&& (nI 1)) 0) false true) 1 0)], h, 198, sl) from by cases (pm_cmp .eq ((shr (Fi h 13 5) (nI g)) &&& (nI 1)) 0) <;> rfl] at hh
  have hh : pm_run PT n fr lo 74 (16, [some (.ref 13), some (.int (nI g))], [.int (cond (cond (pm_cmp .eq ((shr (Fi h 13 5) (nI g)) &&& (nI 1)) 0) false true) 1 0)], h, 198, sl) = some R := hh
  have er3 : R = (some (.int (cond (cond (pm_cmp .eq ((shr (Fi h 13 5) (nI g)) &&& (nI 1)) 0) false true) 1 0)), h, 198, sl) := (rn_ret rfl (Or.inr rfl) hh).2
  have ed : v74 q cc gc (Fi h 13 5) g = cond (pm_cmp .eq ((shr (Fi h 13 5) (nI g)) &&& (nI 1)) 0) false true := rfl
  rw [ed]
  exact er3
def v75 (q : QT) (cc gc : Nat) (d0 : Nat → Int32) (g : Nat) (c : Nat) : Bool := cond (pm_cmp .eq ((shr ((d0) g) (nI c)) &&& (nI 1)) 0) false true
theorem v75_ok {n fr lo sl cc gc : Nat} {q : QT} {h : pm_H} {R : pm_Rs} {g : Nat} {c : Nat} (hw : HC q cc gc h) (h_g : g < 10000) (h_c : c < 10000) (hh : pm_run PT n fr lo 75 (0, pm_l0 [.ref 13, .int (nI g), .int (nI c)] 3, [], h, 198, sl) = some R) : R = (some (.int (cond (v75 q cc gc (Ar h 18) g c) 1 0)), h, 198, sl) := by
  have hcc := hw.cb
  have hgc := hw.gb
  have hzr := hw.zr
  obtain ⟨n, hh⟩ := rn_i rfl rfl rfl rfl hh
  have hh : pm_run PT n fr lo 75 (1, [some (.ref 13), some (.int (nI g)), some (.int (nI c))], [.ref 13], h, 198, sl) = some R := hh
  obtain ⟨n, hh⟩ := rn_gr hw.wt rfl rfl (by decide) rfl (by decide) (show _ = some (2, ((18 : Nat) : Int), 1) from rfl) rfl hh
  obtain ⟨n, hh⟩ := rn_i rfl rfl rfl rfl hh
  have hh : pm_run PT n fr lo 75 (5, [some (.ref 13), some (.int (nI g)), some (.int (nI c))], [.int (nI g), .ref 18], h, 198, sl) = some R := hh
  obtain ⟨n, hx1, hh⟩ := en_lu (t := g) (f := Ar h 18) (w := (Ar h 18) g) (nI_clamp (by omega)) hw.wt rfl (by decide) rfl (by decide) rfl (fun _ => rfl) hh
  obtain ⟨n, hh⟩ := rn_i rfl rfl rfl rfl hh
  obtain ⟨n, hh⟩ := rn_i rfl rfl rfl rfl hh
  obtain ⟨n, hh⟩ := rn_i rfl rfl rfl rfl hh
  obtain ⟨n, hh⟩ := rn_i rfl rfl rfl rfl hh
  have hh : pm_run PT n fr lo 75 (10, [some (.ref 13), some (.int (nI g)), some (.int (nI c))], [.int ((shr ((Ar h 18) g) (nI c)) &&& (nI 1))], h, 198, sl) = some R := hh
  obtain ⟨n, hh⟩ := en_zn (cc := .eq) (off := 7) (t := 17) (b := pm_cmp .eq ((shr ((Ar h 18) g) (nI c)) &&& (nI 1)) 0) rfl rfl rfl hh
  have hj3 : ∃ mJ, pm_run PT mJ fr lo 75 (cond (pm_cmp .eq ((shr ((Ar h 18) g) (nI c)) &&& (nI 1)) 0) (18, [some (.ref 13), some (.int (nI g)), some (.int (nI c))], [.int (nI 0)], h, 198, sl) (18, [some (.ref 13), some (.int (nI g)), some (.int (nI c))], [.int (nI 1)], h, 198, sl)) = some R := en_J (fun z2 => by
      have hh := en_t z2 hh
      have hh : pm_run PT n fr lo 75 (17, [some (.ref 13), some (.int (nI g)), some (.int (nI c))], [], h, 198, sl) = some R := hh
      obtain ⟨n, hh⟩ := rn_i rfl rfl rfl rfl hh
      exact ⟨n, hh⟩) (fun z2 => by
      have hh := en_f z2 hh
      have hh : pm_run PT n fr lo 75 (13, [some (.ref 13), some (.int (nI g)), some (.int (nI c))], [], h, 198, sl) = some R := hh
      obtain ⟨n, hh⟩ := rn_i rfl rfl rfl rfl hh
      obtain ⟨n, hh⟩ := rn_i rfl rfl rfl rfl hh
      exact ⟨n, hh⟩)
  obtain ⟨n, hh⟩ := hj3
  rw [show (cond (pm_cmp .eq ((shr ((Ar h 18) g) (nI c)) &&& (nI 1)) 0) (18, [some (.ref 13), some (.int (nI g)), some (.int (nI c))], [.int (nI 0)], h, 198, sl) (18, [some (.ref 13), some (.int (nI g)), some (.int (nI c))], [.int (nI 1)], h, 198, sl) : pm_St) = (18, [some (.ref 13), some (.int (nI g)), some (.int (nI c))], [.int (cond (cond (pm_cmp .eq ((shr ((Ar h 18) g) (nI c)) &&& (nI 1)) 0) false true) 1 0)], h, 198, sl) from by cases (pm_cmp .eq ((shr ((Ar h 18) g) (nI c)) &&& (nI 1)) 0) <;> rfl] at hh
  have hh : pm_run PT n fr lo 75 (18, [some (.ref 13), some (.int (nI g)), some (.int (nI c))], [.int (cond (cond (pm_cmp .eq ((shr ((Ar h 18) g) (nI c)) &&& (nI 1)) 0) false true) 1 0)], h, 198, sl) = some R := hh
  have er4 : R = (some (.int (cond (cond (pm_cmp .eq ((shr ((Ar h 18) g) (nI c)) &&& (nI 1)) 0) false true) 1 0)), h, 198, sl) := (rn_ret rfl (Or.inr rfl) hh).2
  have ed : v75 q cc gc (Ar h 18) g c = cond (pm_cmp .eq ((shr ((Ar h 18) g) (nI c)) &&& (nI 1)) 0) false true := rfl
  rw [ed]
  exact er4
theorem v74t_ok {n fr lo sl cc gc : Nat} {q : QT} {h : pm_H} {R : pm_Rs} {g : Nat} (hw : HC q cc gc h) (h_g : g < 10000) (hh : pm_run PT n fr lo 74 (0, pm_l0 [.ref 19, .int (nI g)] 2, [], h, 198, sl) = some R) : R = (some (.int (cond (v74 q cc gc (Fi h 19 5) g) 1 0)), h, 198, sl) := by
  have hcc := hw.cb
  have hgc := hw.gb
  have hzr := hw.zr
  obtain ⟨n, hh⟩ := rn_i rfl rfl rfl rfl hh
  have hh : pm_run PT n fr lo 74 (1, [some (.ref 19), some (.int (nI g))], [.ref 19], h, 198, sl) = some R := hh
  obtain ⟨n, hh⟩ := rn_gi (x := Fi h 19 5) hw.wt rfl rfl (by decide) rfl (by decide) rfl rfl hh
  obtain ⟨n, hh⟩ := rn_i rfl rfl rfl rfl hh
  obtain ⟨n, hh⟩ := rn_i rfl rfl rfl rfl hh
  obtain ⟨n, hh⟩ := rn_i rfl rfl rfl rfl hh
  obtain ⟨n, hh⟩ := rn_i rfl rfl rfl rfl hh
  have hh : pm_run PT n fr lo 74 (8, [some (.ref 19), some (.int (nI g))], [.int ((shr (Fi h 19 5) (nI g)) &&& (nI 1))], h, 198, sl) = some R := hh
  obtain ⟨n, hh⟩ := en_zn (cc := .eq) (off := 7) (t := 15) (b := pm_cmp .eq ((shr (Fi h 19 5) (nI g)) &&& (nI 1)) 0) rfl rfl rfl hh
  have hj2 : ∃ mJ, pm_run PT mJ fr lo 74 (cond (pm_cmp .eq ((shr (Fi h 19 5) (nI g)) &&& (nI 1)) 0) (16, [some (.ref 19), some (.int (nI g))], [.int (nI 0)], h, 198, sl) (16, [some (.ref 19), some (.int (nI g))], [.int (nI 1)], h, 198, sl)) = some R := en_J (fun z1 => by
      have hh := en_t z1 hh
      have hh : pm_run PT n fr lo 74 (15, [some (.ref 19), some (.int (nI g))], [], h, 198, sl) = some R := hh
      obtain ⟨n, hh⟩ := rn_i rfl rfl rfl rfl hh
      exact ⟨n, hh⟩) (fun z1 => by
      have hh := en_f z1 hh
      have hh : pm_run PT n fr lo 74 (11, [some (.ref 19), some (.int (nI g))], [], h, 198, sl) = some R := hh
      obtain ⟨n, hh⟩ := rn_i rfl rfl rfl rfl hh
      obtain ⟨n, hh⟩ := rn_i rfl rfl rfl rfl hh
      exact ⟨n, hh⟩)
  obtain ⟨n, hh⟩ := hj2
  rw [show (cond (pm_cmp .eq ((shr (Fi h 19 5) (nI g)) &&& (nI 1)) 0) (16, [some (.ref 19), some (.int (nI g))], [.int (nI 0)], h, 198, sl) (16, [some (.ref 19), some (.int (nI g))], [.int (nI 1)], h, 198, sl) : pm_St) = (16, [some (.ref 19), some (.int (nI g))], [.int (cond (cond (pm_cmp .eq ((shr (Fi h 19 5) (nI g)) &&& (nI 1)) 0) false true) 1 0)], h, 198, sl) from by cases (pm_cmp .eq ((shr (Fi h 19 5) (nI g)) &&& (nI 1)) 0) <;> rfl] at hh
  have hh : pm_run PT n fr lo 74 (16, [some (.ref 19), some (.int (nI g))], [.int (cond (cond (pm_cmp .eq ((shr (Fi h 19 5) (nI g)) &&& (nI 1)) 0) false true) 1 0)], h, 198, sl) = some R := hh
  have er3 : R = (some (.int (cond (cond (pm_cmp .eq ((shr (Fi h 19 5) (nI g)) &&& (nI 1)) 0) false true) 1 0)), h, 198, sl) := (rn_ret rfl (Or.inr rfl) hh).2
  have ed : v74 q cc gc (Fi h 19 5) g = cond (pm_cmp .eq ((shr (Fi h 19 5) (nI g)) &&& (nI 1)) 0) false true := rfl
  rw [ed]
  exact er3
theorem v75t_ok {n fr lo sl cc gc : Nat} {q : QT} {h : pm_H} {R : pm_Rs} {g : Nat} {c : Nat} (hw : HC q cc gc h) (h_g : g < 10000) (h_c : c < 10000) (hh : pm_run PT n fr lo 75 (0, pm_l0 [.ref 19, .int (nI g), .int (nI c)] 3, [], h, 198, sl) = some R) : R = (some (.int (cond (v75 q cc gc (Ar h 24) g c) 1 0)), h, 198, sl) := by
  have hcc := hw.cb
  have hgc := hw.gb
  have hzr := hw.zr
  obtain ⟨n, hh⟩ := rn_i rfl rfl rfl rfl hh
  have hh : pm_run PT n fr lo 75 (1, [some (.ref 19), some (.int (nI g)), some (.int (nI c))], [.ref 19], h, 198, sl) = some R := hh
  obtain ⟨n, hh⟩ := rn_gr hw.wt rfl rfl (by decide) rfl (by decide) (show _ = some (2, ((24 : Nat) : Int), 1) from rfl) rfl hh
  obtain ⟨n, hh⟩ := rn_i rfl rfl rfl rfl hh
  have hh : pm_run PT n fr lo 75 (5, [some (.ref 19), some (.int (nI g)), some (.int (nI c))], [.int (nI g), .ref 24], h, 198, sl) = some R := hh
  obtain ⟨n, hx1, hh⟩ := en_lu (t := g) (f := Ar h 24) (w := (Ar h 24) g) (nI_clamp (by omega)) hw.wt rfl (by decide) rfl (by decide) rfl (fun _ => rfl) hh
  obtain ⟨n, hh⟩ := rn_i rfl rfl rfl rfl hh
  obtain ⟨n, hh⟩ := rn_i rfl rfl rfl rfl hh
  obtain ⟨n, hh⟩ := rn_i rfl rfl rfl rfl hh
  obtain ⟨n, hh⟩ := rn_i rfl rfl rfl rfl hh
  have hh : pm_run PT n fr lo 75 (10, [some (.ref 19), some (.int (nI g)), some (.int (nI c))], [.int ((shr ((Ar h 24) g) (nI c)) &&& (nI 1))], h, 198, sl) = some R := hh
  obtain ⟨n, hh⟩ := en_zn (cc := .eq) (off := 7) (t := 17) (b := pm_cmp .eq ((shr ((Ar h 24) g) (nI c)) &&& (nI 1)) 0) rfl rfl rfl hh
  have hj3 : ∃ mJ, pm_run PT mJ fr lo 75 (cond (pm_cmp .eq ((shr ((Ar h 24) g) (nI c)) &&& (nI 1)) 0) (18, [some (.ref 19), some (.int (nI g)), some (.int (nI c))], [.int (nI 0)], h, 198, sl) (18, [some (.ref 19), some (.int (nI g)), some (.int (nI c))], [.int (nI 1)], h, 198, sl)) = some R := en_J (fun z2 => by
      have hh := en_t z2 hh
      have hh : pm_run PT n fr lo 75 (17, [some (.ref 19), some (.int (nI g)), some (.int (nI c))], [], h, 198, sl) = some R := hh
      obtain ⟨n, hh⟩ := rn_i rfl rfl rfl rfl hh
      exact ⟨n, hh⟩) (fun z2 => by
      have hh := en_f z2 hh
      have hh : pm_run PT n fr lo 75 (13, [some (.ref 19), some (.int (nI g)), some (.int (nI c))], [], h, 198, sl) = some R := hh
      obtain ⟨n, hh⟩ := rn_i rfl rfl rfl rfl hh
      obtain ⟨n, hh⟩ := rn_i rfl rfl rfl rfl hh
      exact ⟨n, hh⟩)
  obtain ⟨n, hh⟩ := hj3
  rw [show (cond (pm_cmp .eq ((shr ((Ar h 24) g) (nI c)) &&& (nI 1)) 0) (18, [some (.ref 19), some (.int (nI g)), some (.int (nI c))], [.int (nI 0)], h, 198, sl) (18, [some (.ref 19), some (.int (nI g)), some (.int (nI c))], [.int (nI 1)], h, 198, sl) : pm_St) = (18, [some (.ref 19), some (.int (nI g)), some (.int (nI c))], [.int (cond (cond (pm_cmp .eq ((shr ((Ar h 24) g) (nI c)) &&& (nI 1)) 0) false true) 1 0)], h, 198, sl) from by cases (pm_cmp .eq ((shr ((Ar h 24) g) (nI c)) &&& (nI 1)) 0) <;> rfl] at hh
  have hh : pm_run PT n fr lo 75 (18, [some (.ref 19), some (.int (nI g)), some (.int (nI c))], [.int (cond (cond (pm_cmp .eq ((shr ((Ar h 24) g) (nI c)) &&& (nI 1)) 0) false true) 1 0)], h, 198, sl) = some R := hh
  have er4 : R = (some (.int (cond (cond (pm_cmp .eq ((shr ((Ar h 24) g) (nI c)) &&& (nI 1)) 0) false true) 1 0)), h, 198, sl) := (rn_ret rfl (Or.inr rfl) hh).2
  have ed : v75 q cc gc (Ar h 24) g c = cond (pm_cmp .eq ((shr ((Ar h 24) g) (nI c)) &&& (nI 1)) 0) false true := rfl
  rw [ed]
  exact er4
def v29_5b (q : QT) (cc gc : Nat) (d0 : Nat → Int32) (m2 : Nat) (i : Nat) (x3 : Int32) : Int32 := cond (pm_cmp .ne ((d0) i) (nI m2)) x3 (x3 ||| (shl (nI 1) (nI i)))
def v29_5 (q : QT) (cc gc : Nat) (d0 : Nat → Int32) (m2 : Nat) (j i : Nat) (a : Int32) : Int32 := lp (fun i a => v29_5b q cc gc d0 m2 i a) j i a
def v29 (q : QT) (cc gc : Nat) (d0 : Nat → Int32) (c : Nat) : Int32 := (v29_5 q cc gc (d0) c gc 0 (nI 0))
def v36_4b (q : QT) (cc gc : Nat) (d0 : Nat → Int32) (i : Nat) (x2 : Int32) : Int32 := x2 + ((d0) i)
def v36_4 (q : QT) (cc gc : Nat) (d0 : Nat → Int32) (j i : Nat) (a : Int32) : Int32 := lp (fun i a => v36_4b q cc gc d0 i a) j i a
theorem v36_4_e {n fr lo sl cc gc : Nat} {q : QT} {h : pm_H} {R : pm_Rs} {i : Nat} {x2 : Int32} (hw : HC q cc gc h) (hi : cc ≤ i) (hI : i < 1000000) (hh : pm_run PT n fr lo 36 (4, [some (.ref 5), some (.ref 13), some (.int x2), some (.int (nI i))], [], h, 198, sl) = some R) : ∃ m, pm_run PT m fr lo 36 (27, [some (.ref 5), some (.ref 13), some (.int x2), some (.int (nI i))], [], h, 198, sl) = some R := by
  have hcc := hw.cb
  have hgc := hw.gb
  have hzr := hw.zr
  obtain ⟨n, hh⟩ := rn_i rfl rfl rfl rfl hh
  obtain ⟨n, hh⟩ := rn_i rfl rfl rfl rfl hh
  have hh : pm_run PT n fr lo 36 (6, [some (.ref 5), some (.ref 13), some (.int x2), some (.int (nI i))], [.ref 5, .int (nI i)], h, 198, sl) = some R := hh
  obtain ⟨n, hh⟩ := rn_gi (x := nI cc) hw.wt rfl rfl (by decide) rfl (by decide) rfl hw.x0 hh
  have hh : pm_run PT n fr lo 36 (9, [some (.ref 5), some (.ref 13), some (.int x2), some (.int (nI i))], [.int (nI cc), .int (nI i)], h, 198, sl) = some R := hh
  obtain ⟨n, hh⟩ := en_cn (cc := .ge) (off := 18) (t := 27) (b := decide (cc ≤ i)) (hI_ge (by omega) (by omega)) rfl rfl hh
  have hh := en_t (show decide (cc ≤ i) = true from decide_eq_true (by omega)) hh
  have hh : pm_run PT n fr lo 36 (27, [some (.ref 5), some (.ref 13), some (.int x2), some (.int (nI i))], [], h, 198, sl) = some R := hh
  exact ⟨n, hh⟩
theorem v36_4_s {n fr lo sl cc gc : Nat} {q : QT} {h : pm_H} {R : pm_Rs} {i : Nat} {x2 : Int32} (hw : HC q cc gc h) (hi : i < cc) (hI : i < 1000000) (hh : pm_run PT n fr lo 36 (4, [some (.ref 5), some (.ref 13), some (.int x2), some (.int (nI i))], [], h, 198, sl) = some R) : ∃ m, pm_run PT m fr lo 36 (4, [some (.ref 5), some (.ref 13), some (.int (v36_4b q cc gc (Ar h 14) i x2)), some (.int (nI (i + 1)))], [], h, 198, sl) = some R := by
  have hcc := hw.cb
  have hgc := hw.gb
  have hzr := hw.zr
  obtain ⟨n, hh⟩ := rn_i rfl rfl rfl rfl hh
  obtain ⟨n, hh⟩ := rn_i rfl rfl rfl rfl hh
  have hh : pm_run PT n fr lo 36 (6, [some (.ref 5), some (.ref 13), some (.int x2), some (.int (nI i))], [.ref 5, .int (nI i)], h, 198, sl) = some R := hh
  obtain ⟨n, hh⟩ := rn_gi (x := nI cc) hw.wt rfl rfl (by decide) rfl (by decide) rfl hw.x0 hh
  have hh : pm_run PT n fr lo 36 (9, [some (.ref 5), some (.ref 13), some (.int x2), some (.int (nI i))], [.int (nI cc), .int (nI i)], h, 198, sl) = some R := hh
  obtain ⟨n, hh⟩ := en_cn (cc := .ge) (off := 18) (t := 27) (b := decide (cc ≤ i)) (hI_ge (by omega) (by omega)) rfl rfl hh
  have hh := en_f (show decide (cc ≤ i) = false from decide_eq_false (by omega)) hh
  have hh : pm_run PT n fr lo 36 (12, [some (.ref 5), some (.ref 13), some (.int x2), some (.int (nI i))], [], h, 198, sl) = some R := hh
  obtain ⟨n, hh⟩ := rn_i rfl rfl rfl rfl hh
  obtain ⟨n, hh⟩ := rn_i rfl rfl rfl rfl hh
  have hh : pm_run PT n fr lo 36 (14, [some (.ref 5), some (.ref 13), some (.int x2), some (.int (nI i))], [.ref 13, .int x2], h, 198, sl) = some R := hh
  obtain ⟨n, hh⟩ := rn_gr hw.wt rfl rfl (by decide) rfl (by decide) (show _ = some (2, ((14 : Nat) : Int), 1) from rfl) rfl hh
  obtain ⟨n, hh⟩ := rn_i rfl rfl rfl rfl hh
  have hh : pm_run PT n fr lo 36 (18, [some (.ref 5), some (.ref 13), some (.int x2), some (.int (nI i))], [.int (nI i), .ref 14, .int x2], h, 198, sl) = some R := hh
  obtain ⟨n, hx1, hh⟩ := en_lu (t := i) (f := Ar h 14) (w := (Ar h 14) i) (nI_clamp (by omega)) hw.wt rfl (by decide) rfl (by decide) rfl (fun _ => rfl) hh
  obtain ⟨n, hh⟩ := rn_i rfl rfl rfl rfl hh
  obtain ⟨n, hh⟩ := rn_i rfl rfl rfl rfl hh
  have hh : pm_run PT n fr lo 36 (21, [some (.ref 5), some (.ref 13), some (.int (x2 + ((Ar h 14) i))), some (.int (nI i))], [], h, 198, sl) = some R := hh
  obtain ⟨n, hh⟩ := en_inc (x := i) (c := 1) (j := 3) rfl rfl (by decide) hh
  have hh : pm_run PT n fr lo 36 (24, [some (.ref 5), some (.ref 13), some (.int (x2 + ((Ar h 14) i))), some (.int (nI (i + 1)))], [], h, 198, sl) = some R := hh
  obtain ⟨n, hh⟩ := rn_i rfl rfl rfl rfl hh
  have ed : v36_4b q cc gc (Ar h 14) i x2 = x2 + ((Ar h 14) i) := rfl
  rw [ed]
  exact ⟨n, hh⟩
theorem v36_4_ok {fr lo sl cc gc : Nat} {q : QT} {R : pm_Rs} : ∀ {j i : Nat} {x2 : Int32} {h : pm_H} {n : Nat}, cc - i = j → i + j < 1000000 → HC q cc gc h → pm_run PT n fr lo 36 (4, [some (.ref 5), some (.ref 13), some (.int x2), some (.int (nI i))], [], h, 198, sl) = some R → ∃ m wc, pm_run PT m fr lo 36 (27, [some (.ref 5), some (.ref 13), some (.int (v36_4 q cc gc (Ar h 14) j i x2)), wc], [], h, 198, sl) = some R := by
  intro j
  induction j with
  | zero =>
    intro i x2 h n e eI hw hh
    obtain ⟨n, hh⟩ := v36_4_e hw (by omega) (by omega) hh
    exact ⟨n, _, hh⟩
  | succ j ih =>
    intro i x2 h n e eI hw hh
    obtain ⟨n, hh⟩ := v36_4_s hw (by omega) (by omega) hh
    obtain ⟨n, wc, hh⟩ := ih (by omega) (by omega) hw hh
    exact ⟨n, wc, hh⟩
def v36 (q : QT) (cc gc : Nat) (d0 : Nat → Int32) : Int32 := (v36_4 q cc gc (d0) cc 0 (nI 0))
theorem v36_ok {n fr lo sl cc gc : Nat} {q : QT} {h : pm_H} {R : pm_Rs} (hw : HC q cc gc h) (hh : pm_run PT n fr lo 36 (0, pm_l0 [.ref 5, .ref 13] 4, [], h, 198, sl) = some R) : R = (some (.int (v36 q cc gc (Ar h 14))), h, 198, sl) := by
  have hcc := hw.cb
  have hgc := hw.gb
  have hzr := hw.zr
  obtain ⟨n, hh⟩ := rn_i rfl rfl rfl rfl hh
  obtain ⟨n, hh⟩ := rn_i rfl rfl rfl rfl hh
  obtain ⟨n, hh⟩ := rn_i rfl rfl rfl rfl hh
  obtain ⟨n, hh⟩ := rn_i rfl rfl rfl rfl hh
  have hh : pm_run PT n fr lo 36 (4, [some (.ref 5), some (.ref 13), some (.int (nI 0)), some (.int (nI 0))], [], h, 198, sl) = some R := hh
  obtain ⟨n, u1, hh⟩ := v36_4_ok  (i := 0) (x2 := (nI 0)) (j := cc) (by omega) (by omega) hw hh
  have hh : pm_run PT n fr lo 36 (27, [some (.ref 5), some (.ref 13), some (.int (v36_4 q cc gc (Ar h 14) cc 0 (nI 0))), u1], [], h, 198, sl) = some R := hh
  obtain ⟨n, hh⟩ := rn_i rfl rfl rfl rfl hh
  have hh : pm_run PT n fr lo 36 (28, [some (.ref 5), some (.ref 13), some (.int (v36_4 q cc gc (Ar h 14) cc 0 (nI 0))), u1], [.int (v36_4 q cc gc (Ar h 14) cc 0 (nI 0))], h, 198, sl) = some R := hh
  have er2 : R = (some (.int (v36_4 q cc gc (Ar h 14) cc 0 (nI 0))), h, 198, sl) := (rn_ret rfl (Or.inl rfl) hh).2
  have ed : v36 q cc gc (Ar h 14) = (v36_4 q cc gc (Ar h 14) cc 0 (nI 0)) := rfl
  rw [ed]
  exact er2
def v37_5b (q : QT) (cc gc : Nat) (d0 : Nat → Int32) (m2 : Nat) (i : Nat) (x3 : Int32) : Int32 := cond (decide (i = m2)) x3 (x3 + ((d0) (i * 6 + m2)))
def v37_5 (q : QT) (cc gc : Nat) (d0 : Nat → Int32) (m2 : Nat) (j i : Nat) (a : Int32) : Int32 := lp (fun i a => v37_5b q cc gc d0 m2 i a) j i a
def v37 (q : QT) (cc gc : Nat) (d0 : Nat → Int32) (c : Nat) : Int32 := (v37_5 q cc gc (d0) c cc 0 (nI 0))
def v7_5b (q : QT) (cc gc : Nat) (d0 : Nat → Int32) (m2 : Nat) (i : Nat) (x3 : Int32) : Int32 := x3 + ((d0) (m2 * 6 + i))
def v7_5 (q : QT) (cc gc : Nat) (d0 : Nat → Int32) (m2 : Nat) (j i : Nat) (a : Int32) : Int32 := lp (fun i a => v7_5b q cc gc d0 m2 i a) j i a
def v7 (q : QT) (cc gc : Nat) (d0 : Nat → Int32) (c : Nat) : Int32 := (v7_5 q cc gc (d0) c cc 0 (nI 0))
def v8_5b (q : QT) (cc gc : Nat) (d0 : Nat → Int32) (m2 : Nat) (i : Nat) (x3 : Int32) : Int32 := x3 + ((d0) (i * 6 + m2))
def v8_5 (q : QT) (cc gc : Nat) (d0 : Nat → Int32) (m2 : Nat) (j i : Nat) (a : Int32) : Int32 := lp (fun i a => v8_5b q cc gc d0 m2 i a) j i a
def v8 (q : QT) (cc gc : Nat) (d0 : Nat → Int32) (c : Nat) : Int32 := (v8_5 q cc gc (d0) c cc 0 (nI 0))
end EA
